section
-- ===== PART A: goes FIRST, ahead of the names: the tables' words, and 'selects' of the private methods out of them =====
/-- a private method of a class that the tables say can be made, by its rows of tables_1 -/
def lw_okq (q : MethodName × Nat) : Prop := (q.1.cls ≠ "java/lang/invoke/MethodHandle" ∧ q.1.cls ≠ "java/lang/invoke/VarHandle") ∧ Cond.instantiable q.1.cls q.2 ∈ tables_1 ∧ Cond.privateMethod q.1 ∈ tables_1 ∧ Cond.instanceMethod q.1 ∈ tables_1
theorem lw_p0 : lw_okq (⟨"java/lang/Throwable", "fillInStackTrace", "(I)Ljava/lang/Throwable;"⟩, 6) := ⟨⟨by decide +kernel, by decide +kernel⟩, List.mem_of_getElem? (i := 393) (by decide +kernel), List.mem_of_getElem? (i := 391) (by decide +kernel), List.mem_of_getElem? (i := 392) (by decide +kernel)⟩
theorem lw_p1 : lw_okq (⟨"Slickboom", "needWater", "(I)V"⟩, 6) := ⟨⟨by decide +kernel, by decide +kernel⟩, List.mem_of_getElem? (i := 23) (by decide +kernel), List.mem_of_getElem? (i := 482) (by decide +kernel), List.mem_of_getElem? (i := 483) (by decide +kernel)⟩
theorem lw_p2 : lw_okq (⟨"Slickboom$Bay", "leak", "()V"⟩, 9) := ⟨⟨by decide +kernel, by decide +kernel⟩, List.mem_of_getElem? (i := 31) (by decide +kernel), List.mem_of_getElem? (i := 546) (by decide +kernel), List.mem_of_getElem? (i := 547) (by decide +kernel)⟩
theorem lw_p3 : lw_okq (⟨"Slickboom$Bay", "weather", "()V"⟩, 9) := ⟨⟨by decide +kernel, by decide +kernel⟩, List.mem_of_getElem? (i := 31) (by decide +kernel), List.mem_of_getElem? (i := 564) (by decide +kernel), List.mem_of_getElem? (i := 565) (by decide +kernel)⟩
theorem lw_p4 : lw_okq (⟨"Slickboom$Bay", "drift", "()V"⟩, 9) := ⟨⟨by decide +kernel, by decide +kernel⟩, List.mem_of_getElem? (i := 31) (by decide +kernel), List.mem_of_getElem? (i := 568) (by decide +kernel), List.mem_of_getElem? (i := 569) (by decide +kernel)⟩
theorem lw_p5 : lw_okq (⟨"Slickboom$Bay", "findWhatGoes", "(I)V"⟩, 9) := ⟨⟨by decide +kernel, by decide +kernel⟩, List.mem_of_getElem? (i := 31) (by decide +kernel), List.mem_of_getElem? (i := 572) (by decide +kernel), List.mem_of_getElem? (i := 573) (by decide +kernel)⟩
theorem lw_p6 : lw_okq (⟨"Slickboom$Bay", "letGo", "(II)V"⟩, 9) := ⟨⟨by decide +kernel, by decide +kernel⟩, List.mem_of_getElem? (i := 31) (by decide +kernel), List.mem_of_getElem? (i := 604) (by decide +kernel), List.mem_of_getElem? (i := 605) (by decide +kernel)⟩
theorem lw_p7 : lw_okq (⟨"Slickboom$Bay", "giveBack", "()V"⟩, 9) := ⟨⟨by decide +kernel, by decide +kernel⟩, List.mem_of_getElem? (i := 31) (by decide +kernel), List.mem_of_getElem? (i := 608) (by decide +kernel), List.mem_of_getElem? (i := 609) (by decide +kernel)⟩
theorem lw_p8 : lw_okq (⟨"Slickboom$Bay", "skim", "()V"⟩, 9) := ⟨⟨by decide +kernel, by decide +kernel⟩, List.mem_of_getElem? (i := 31) (by decide +kernel), List.mem_of_getElem? (i := 624) (by decide +kernel), List.mem_of_getElem? (i := 625) (by decide +kernel)⟩
theorem lw_p9 : lw_okq (⟨"Slickboom$Bay", "harmShores", "()V"⟩, 9) := ⟨⟨by decide +kernel, by decide +kernel⟩, List.mem_of_getElem? (i := 31) (by decide +kernel), List.mem_of_getElem? (i := 637) (by decide +kernel), List.mem_of_getElem? (i := 638) (by decide +kernel)⟩
theorem lw_p10 : lw_okq (⟨"Slickboom", "needRoomForMeans", "()V"⟩, 6) := ⟨⟨by decide +kernel, by decide +kernel⟩, List.mem_of_getElem? (i := 23) (by decide +kernel), List.mem_of_getElem? (i := 676) (by decide +kernel), List.mem_of_getElem? (i := 677) (by decide +kernel)⟩
theorem lw_p11 : lw_okq (⟨"Slickboom", "needSort", "(II)V"⟩, 6) := ⟨⟨by decide +kernel, by decide +kernel⟩, List.mem_of_getElem? (i := 23) (by decide +kernel), List.mem_of_getElem? (i := 706) (by decide +kernel), List.mem_of_getElem? (i := 707) (by decide +kernel)⟩
theorem lw_p12 : lw_okq (⟨"Slickboom", "needShore", "(I)V"⟩, 6) := ⟨⟨by decide +kernel, by decide +kernel⟩, List.mem_of_getElem? (i := 23) (by decide +kernel), List.mem_of_getElem? (i := 732) (by decide +kernel), List.mem_of_getElem? (i := 733) (by decide +kernel)⟩
theorem lw_p13 : lw_okq (⟨"Slickboom$Means", "hasRested", "(II)Z"⟩, 9) := ⟨⟨by decide +kernel, by decide +kernel⟩, List.mem_of_getElem? (i := 117) (by decide +kernel), List.mem_of_getElem? (i := 741) (by decide +kernel), List.mem_of_getElem? (i := 742) (by decide +kernel)⟩
theorem lw_p14 : lw_okq (⟨"Slickboom$Rules", "isAgainst", "(III)Z"⟩, 1) := ⟨⟨by decide +kernel, by decide +kernel⟩, List.mem_of_getElem? (i := 267) (by decide +kernel), List.mem_of_getElem? (i := 769) (by decide +kernel), List.mem_of_getElem? (i := 770) (by decide +kernel)⟩
theorem lw_p15 : lw_okq (⟨"Slickboom$Payers", "allGet", "()J"⟩, 5) := ⟨⟨by decide +kernel, by decide +kernel⟩, List.mem_of_getElem? (i := 298) (by decide +kernel), List.mem_of_getElem? (i := 897) (by decide +kernel), List.mem_of_getElem? (i := 898) (by decide +kernel)⟩
def lw_privs_1 : List (MethodName × Nat) := [(⟨"java/lang/Throwable", "fillInStackTrace", "(I)Ljava/lang/Throwable;"⟩, 6), (⟨"Slickboom", "needWater", "(I)V"⟩, 6), (⟨"Slickboom$Bay", "leak", "()V"⟩, 9), (⟨"Slickboom$Bay", "weather", "()V"⟩, 9), (⟨"Slickboom$Bay", "drift", "()V"⟩, 9), (⟨"Slickboom$Bay", "findWhatGoes", "(I)V"⟩, 9), (⟨"Slickboom$Bay", "letGo", "(II)V"⟩, 9), (⟨"Slickboom$Bay", "giveBack", "()V"⟩, 9), (⟨"Slickboom$Bay", "skim", "()V"⟩, 9), (⟨"Slickboom$Bay", "harmShores", "()V"⟩, 9), (⟨"Slickboom", "needRoomForMeans", "()V"⟩, 6), (⟨"Slickboom", "needSort", "(II)V"⟩, 6), (⟨"Slickboom", "needShore", "(I)V"⟩, 6), (⟨"Slickboom$Means", "hasRested", "(II)Z"⟩, 9), (⟨"Slickboom$Rules", "isAgainst", "(III)Z"⟩, 1), (⟨"Slickboom$Payers", "allGet", "()J"⟩, 5)]
theorem lw_r1 : ∀ q ∈ lw_privs_1, lw_okq q := List.forall_mem_cons.mpr ⟨lw_p0, List.forall_mem_cons.mpr ⟨lw_p1, List.forall_mem_cons.mpr ⟨lw_p2, List.forall_mem_cons.mpr ⟨lw_p3, List.forall_mem_cons.mpr ⟨lw_p4, List.forall_mem_cons.mpr ⟨lw_p5, List.forall_mem_cons.mpr ⟨lw_p6, List.forall_mem_cons.mpr ⟨lw_p7, List.forall_mem_cons.mpr ⟨lw_p8, List.forall_mem_cons.mpr ⟨lw_p9, List.forall_mem_cons.mpr ⟨lw_p10, List.forall_mem_cons.mpr ⟨lw_p11, List.forall_mem_cons.mpr ⟨lw_p12, List.forall_mem_cons.mpr ⟨lw_p13, List.forall_mem_cons.mpr ⟨lw_p14, List.forall_mem_cons.mpr ⟨lw_p15, fun _ h => absurd h List.not_mem_nil⟩⟩⟩⟩⟩⟩⟩⟩⟩⟩⟩⟩⟩⟩⟩⟩
theorem lw_p16 : lw_okq (⟨"Slickboom$NextHour", "weigh", "(I)V"⟩, 5) := ⟨⟨by decide +kernel, by decide +kernel⟩, List.mem_of_getElem? (i := 245) (by decide +kernel), List.mem_of_getElem? (i := 951) (by decide +kernel), List.mem_of_getElem? (i := 952) (by decide +kernel)⟩
theorem lw_p17 : lw_okq (⟨"Slickboom$NextHour", "leaksInto", "(I)I"⟩, 5) := ⟨⟨by decide +kernel, by decide +kernel⟩, List.mem_of_getElem? (i := 245) (by decide +kernel), List.mem_of_getElem? (i := 955) (by decide +kernel), List.mem_of_getElem? (i := 956) (by decide +kernel)⟩
theorem lw_p18 : lw_okq (⟨"Slickboom$NextHour", "waterAgainstWind", "(I)I"⟩, 5) := ⟨⟨by decide +kernel, by decide +kernel⟩, List.mem_of_getElem? (i := 245) (by decide +kernel), List.mem_of_getElem? (i := 964) (by decide +kernel), List.mem_of_getElem? (i := 965) (by decide +kernel)⟩
theorem lw_p19 : lw_okq (⟨"Slickboom$NextHour", "givenBackTo", "(II)I"⟩, 5) := ⟨⟨by decide +kernel, by decide +kernel⟩, List.mem_of_getElem? (i := 245) (by decide +kernel), List.mem_of_getElem? (i := 971) (by decide +kernel), List.mem_of_getElem? (i := 972) (by decide +kernel)⟩
theorem lw_p20 : lw_okq (⟨"Slickboom$NextHour", "isHighTide", "()Z"⟩, 5) := ⟨⟨by decide +kernel, by decide +kernel⟩, List.mem_of_getElem? (i := 245) (by decide +kernel), List.mem_of_getElem? (i := 975) (by decide +kernel), List.mem_of_getElem? (i := 976) (by decide +kernel)⟩
theorem lw_p21 : lw_okq (⟨"Slickboom$NextHour", "landedOn", "(I)I"⟩, 5) := ⟨⟨by decide +kernel, by decide +kernel⟩, List.mem_of_getElem? (i := 245) (by decide +kernel), List.mem_of_getElem? (i := 980) (by decide +kernel), List.mem_of_getElem? (i := 981) (by decide +kernel)⟩
theorem lw_p22 : lw_okq (⟨"Slickboom$NextHour", "leftBySkimmers", "(III)I"⟩, 5) := ⟨⟨by decide +kernel, by decide +kernel⟩, List.mem_of_getElem? (i := 245) (by decide +kernel), List.mem_of_getElem? (i := 985) (by decide +kernel), List.mem_of_getElem? (i := 986) (by decide +kernel)⟩
theorem lw_p23 : lw_okq (⟨"SlickboomModel", "fails", "(ZI)Z"⟩, 29) := ⟨⟨by decide +kernel, by decide +kernel⟩, List.mem_of_getElem? (i := 1023) (by decide +kernel), List.mem_of_getElem? (i := 1131) (by decide +kernel), List.mem_of_getElem? (i := 1132) (by decide +kernel)⟩
theorem lw_p24 : lw_okq (⟨"SlickboomModel", "isShip", "(I)Z"⟩, 29) := ⟨⟨by decide +kernel, by decide +kernel⟩, List.mem_of_getElem? (i := 1023) (by decide +kernel), List.mem_of_getElem? (i := 1152) (by decide +kernel), List.mem_of_getElem? (i := 1153) (by decide +kernel)⟩
theorem lw_p25 : lw_okq (⟨"SlickboomModel", "hour", "()V"⟩, 29) := ⟨⟨by decide +kernel, by decide +kernel⟩, List.mem_of_getElem? (i := 1023) (by decide +kernel), List.mem_of_getElem? (i := 1168) (by decide +kernel), List.mem_of_getElem? (i := 1169) (by decide +kernel)⟩
theorem lw_p26 : lw_okq (⟨"SlickboomModel", "leak", "(II)I"⟩, 29) := ⟨⟨by decide +kernel, by decide +kernel⟩, List.mem_of_getElem? (i := 1023) (by decide +kernel), List.mem_of_getElem? (i := 1172) (by decide +kernel), List.mem_of_getElem? (i := 1173) (by decide +kernel)⟩
theorem lw_p27 : lw_okq (⟨"SlickboomModel", "weather", "(I)V"⟩, 29) := ⟨⟨by decide +kernel, by decide +kernel⟩, List.mem_of_getElem? (i := 1023) (by decide +kernel), List.mem_of_getElem? (i := 1182) (by decide +kernel), List.mem_of_getElem? (i := 1183) (by decide +kernel)⟩
theorem lw_p28 : lw_okq (⟨"SlickboomModel", "look", "(I)V"⟩, 29) := ⟨⟨by decide +kernel, by decide +kernel⟩, List.mem_of_getElem? (i := 1023) (by decide +kernel), List.mem_of_getElem? (i := 1186) (by decide +kernel), List.mem_of_getElem? (i := 1187) (by decide +kernel)⟩
theorem lw_p29 : lw_okq (⟨"SlickboomModel", "holds", "(I)I"⟩, 29) := ⟨⟨by decide +kernel, by decide +kernel⟩, List.mem_of_getElem? (i := 1023) (by decide +kernel), List.mem_of_getElem? (i := 1193) (by decide +kernel), List.mem_of_getElem? (i := 1194) (by decide +kernel)⟩
theorem lw_p30 : lw_okq (⟨"SlickboomModel", "boomOn", "(I)I"⟩, 29) := ⟨⟨by decide +kernel, by decide +kernel⟩, List.mem_of_getElem? (i := 1023) (by decide +kernel), List.mem_of_getElem? (i := 1200) (by decide +kernel), List.mem_of_getElem? (i := 1201) (by decide +kernel)⟩
theorem lw_p31 : lw_okq (⟨"SlickboomModel", "drift", "(I)V"⟩, 29) := ⟨⟨by decide +kernel, by decide +kernel⟩, List.mem_of_getElem? (i := 1023) (by decide +kernel), List.mem_of_getElem? (i := 1204) (by decide +kernel), List.mem_of_getElem? (i := 1205) (by decide +kernel)⟩
def lw_privs_2 : List (MethodName × Nat) := [(⟨"Slickboom$NextHour", "weigh", "(I)V"⟩, 5), (⟨"Slickboom$NextHour", "leaksInto", "(I)I"⟩, 5), (⟨"Slickboom$NextHour", "waterAgainstWind", "(I)I"⟩, 5), (⟨"Slickboom$NextHour", "givenBackTo", "(II)I"⟩, 5), (⟨"Slickboom$NextHour", "isHighTide", "()Z"⟩, 5), (⟨"Slickboom$NextHour", "landedOn", "(I)I"⟩, 5), (⟨"Slickboom$NextHour", "leftBySkimmers", "(III)I"⟩, 5), (⟨"SlickboomModel", "fails", "(ZI)Z"⟩, 29), (⟨"SlickboomModel", "isShip", "(I)Z"⟩, 29), (⟨"SlickboomModel", "hour", "()V"⟩, 29), (⟨"SlickboomModel", "leak", "(II)I"⟩, 29), (⟨"SlickboomModel", "weather", "(I)V"⟩, 29), (⟨"SlickboomModel", "look", "(I)V"⟩, 29), (⟨"SlickboomModel", "holds", "(I)I"⟩, 29), (⟨"SlickboomModel", "boomOn", "(I)I"⟩, 29), (⟨"SlickboomModel", "drift", "(I)V"⟩, 29)]
theorem lw_r2 : ∀ q ∈ lw_privs_2, lw_okq q := List.forall_mem_cons.mpr ⟨lw_p16, List.forall_mem_cons.mpr ⟨lw_p17, List.forall_mem_cons.mpr ⟨lw_p18, List.forall_mem_cons.mpr ⟨lw_p19, List.forall_mem_cons.mpr ⟨lw_p20, List.forall_mem_cons.mpr ⟨lw_p21, List.forall_mem_cons.mpr ⟨lw_p22, List.forall_mem_cons.mpr ⟨lw_p23, List.forall_mem_cons.mpr ⟨lw_p24, List.forall_mem_cons.mpr ⟨lw_p25, List.forall_mem_cons.mpr ⟨lw_p26, List.forall_mem_cons.mpr ⟨lw_p27, List.forall_mem_cons.mpr ⟨lw_p28, List.forall_mem_cons.mpr ⟨lw_p29, List.forall_mem_cons.mpr ⟨lw_p30, List.forall_mem_cons.mpr ⟨lw_p31, fun _ h => absurd h List.not_mem_nil⟩⟩⟩⟩⟩⟩⟩⟩⟩⟩⟩⟩⟩⟩⟩⟩
theorem lw_p32 : lw_okq (⟨"SlickboomModel", "lowestWater", "(I)I"⟩, 29) := ⟨⟨by decide +kernel, by decide +kernel⟩, List.mem_of_getElem? (i := 1023) (by decide +kernel), List.mem_of_getElem? (i := 1208) (by decide +kernel), List.mem_of_getElem? (i := 1209) (by decide +kernel)⟩
theorem lw_p33 : lw_okq (⟨"SlickboomModel", "back", "(II)I"⟩, 29) := ⟨⟨by decide +kernel, by decide +kernel⟩, List.mem_of_getElem? (i := 1023) (by decide +kernel), List.mem_of_getElem? (i := 1212) (by decide +kernel), List.mem_of_getElem? (i := 1213) (by decide +kernel)⟩
theorem lw_p34 : lw_okq (⟨"SlickboomModel", "skim", "(I)V"⟩, 29) := ⟨⟨by decide +kernel, by decide +kernel⟩, List.mem_of_getElem? (i := 1023) (by decide +kernel), List.mem_of_getElem? (i := 1216) (by decide +kernel), List.mem_of_getElem? (i := 1217) (by decide +kernel)⟩
theorem lw_p35 : lw_okq (⟨"SlickboomModel", "suffer", "(I)V"⟩, 29) := ⟨⟨by decide +kernel, by decide +kernel⟩, List.mem_of_getElem? (i := 1023) (by decide +kernel), List.mem_of_getElem? (i := 1220) (by decide +kernel), List.mem_of_getElem? (i := 1221) (by decide +kernel)⟩
theorem lw_p36 : lw_okq (⟨"SlickboomModel", "signatures", "(I)I"⟩, 29) := ⟨⟨by decide +kernel, by decide +kernel⟩, List.mem_of_getElem? (i := 1023) (by decide +kernel), List.mem_of_getElem? (i := 1228) (by decide +kernel), List.mem_of_getElem? (i := 1229) (by decide +kernel)⟩
theorem lw_p37 : lw_okq (⟨"SlickboomModel", "mean", "(IIII)I"⟩, 29) := ⟨⟨by decide +kernel, by decide +kernel⟩, List.mem_of_getElem? (i := 1023) (by decide +kernel), List.mem_of_getElem? (i := 1236) (by decide +kernel), List.mem_of_getElem? (i := 1237) (by decide +kernel)⟩
theorem lw_p38 : lw_okq (⟨"SlickboomModel", "isMean", "(I)Z"⟩, 29) := ⟨⟨by decide +kernel, by decide +kernel⟩, List.mem_of_getElem? (i := 1023) (by decide +kernel), List.mem_of_getElem? (i := 1252) (by decide +kernel), List.mem_of_getElem? (i := 1253) (by decide +kernel)⟩
theorem lw_p39 : lw_okq (⟨"SlickboomModel", "rules", "(III)I"⟩, 29) := ⟨⟨by decide +kernel, by decide +kernel⟩, List.mem_of_getElem? (i := 1023) (by decide +kernel), List.mem_of_getElem? (i := 1276) (by decide +kernel), List.mem_of_getElem? (i := 1277) (by decide +kernel)⟩
theorem lw_p40 : lw_okq (⟨"SlickboomModel", "isAgainst", "(III)Z"⟩, 29) := ⟨⟨by decide +kernel, by decide +kernel⟩, List.mem_of_getElem? (i := 1023) (by decide +kernel), List.mem_of_getElem? (i := 1280) (by decide +kernel), List.mem_of_getElem? (i := 1281) (by decide +kernel)⟩
theorem lw_p41 : lw_okq (⟨"SlickboomModel", "strands", "(I)I"⟩, 29) := ⟨⟨by decide +kernel, by decide +kernel⟩, List.mem_of_getElem? (i := 1023) (by decide +kernel), List.mem_of_getElem? (i := 1334) (by decide +kernel), List.mem_of_getElem? (i := 1335) (by decide +kernel)⟩
theorem lw_p42 : lw_okq (⟨"SlickboomModel", "goes", "(IZ)I"⟩, 29) := ⟨⟨by decide +kernel, by decide +kernel⟩, List.mem_of_getElem? (i := 1023) (by decide +kernel), List.mem_of_getElem? (i := 1338) (by decide +kernel), List.mem_of_getElem? (i := 1339) (by decide +kernel)⟩
theorem lw_p43 : lw_okq (⟨"SlickboomModel", "floats", "(IZ)I"⟩, 29) := ⟨⟨by decide +kernel, by decide +kernel⟩, List.mem_of_getElem? (i := 1023) (by decide +kernel), List.mem_of_getElem? (i := 1342) (by decide +kernel), List.mem_of_getElem? (i := 1343) (by decide +kernel)⟩
theorem lw_p44 : lw_okq (⟨"SlickboomModel", "over", "(II)I"⟩, 29) := ⟨⟨by decide +kernel, by decide +kernel⟩, List.mem_of_getElem? (i := 1023) (by decide +kernel), List.mem_of_getElem? (i := 1350) (by decide +kernel), List.mem_of_getElem? (i := 1351) (by decide +kernel)⟩
def lw_privs_3 : List (MethodName × Nat) := [(⟨"SlickboomModel", "lowestWater", "(I)I"⟩, 29), (⟨"SlickboomModel", "back", "(II)I"⟩, 29), (⟨"SlickboomModel", "skim", "(I)V"⟩, 29), (⟨"SlickboomModel", "suffer", "(I)V"⟩, 29), (⟨"SlickboomModel", "signatures", "(I)I"⟩, 29), (⟨"SlickboomModel", "mean", "(IIII)I"⟩, 29), (⟨"SlickboomModel", "isMean", "(I)Z"⟩, 29), (⟨"SlickboomModel", "rules", "(III)I"⟩, 29), (⟨"SlickboomModel", "isAgainst", "(III)Z"⟩, 29), (⟨"SlickboomModel", "strands", "(I)I"⟩, 29), (⟨"SlickboomModel", "goes", "(IZ)I"⟩, 29), (⟨"SlickboomModel", "floats", "(IZ)I"⟩, 29), (⟨"SlickboomModel", "over", "(II)I"⟩, 29)]
theorem lw_r3 : ∀ q ∈ lw_privs_3, lw_okq q := List.forall_mem_cons.mpr ⟨lw_p32, List.forall_mem_cons.mpr ⟨lw_p33, List.forall_mem_cons.mpr ⟨lw_p34, List.forall_mem_cons.mpr ⟨lw_p35, List.forall_mem_cons.mpr ⟨lw_p36, List.forall_mem_cons.mpr ⟨lw_p37, List.forall_mem_cons.mpr ⟨lw_p38, List.forall_mem_cons.mpr ⟨lw_p39, List.forall_mem_cons.mpr ⟨lw_p40, List.forall_mem_cons.mpr ⟨lw_p41, List.forall_mem_cons.mpr ⟨lw_p42, List.forall_mem_cons.mpr ⟨lw_p43, List.forall_mem_cons.mpr ⟨lw_p44, fun _ h => absurd h List.not_mem_nil⟩⟩⟩⟩⟩⟩⟩⟩⟩⟩⟩⟩⟩
def lw_privs : List (MethodName × Nat) := lw_privs_1 ++ (lw_privs_2 ++ (lw_privs_3))
def lw_tbl : List Cond := k2_sels lw_privs ++ tables_1
theorem lw_privs_ok : ∀ q ∈ lw_privs, lw_okq q := by
  show ∀ q ∈ lw_privs_1 ++ (lw_privs_2 ++ (lw_privs_3)), lw_okq q
  exact List.forall_mem_append.mpr ⟨lw_r1, List.forall_mem_append.mpr ⟨lw_r2, lw_r3⟩⟩
end
section
/-! ===== BEGIN words of one list among another's, by their places ===== -/
theorem goodIn_r {big : List Cond} (ws : List Cond) (ps : List Nat) (hp : ws = ps.filterMap (fun i => big[i]?)) (h : ws.all goodWord = true) : GoodIn big ws := by
  intro w hw
  have h1 := List.all_eq_true.mp h w hw
  rw [hp] at hw
  obtain ⟨i, -, hi⟩ := List.mem_filterMap.mp hw
  have hm : w ∈ big := by first | exact List.mem_of_getElem? hi | exact List.getElem?_mem hi
  exact ⟨hm, good_of_word h1⟩
theorem goodIn_app {big a b : List Cond} (ha : GoodIn big a) (hb : GoodIn big b) : GoodIn big (a ++ b) := fun w h => (List.mem_append.mp h).elim (ha w) (hb w)
theorem goodIn_ca {big a b : List Cond} {c : Cond} (ha : GoodIn big (c :: a)) (hb : GoodIn big b) : GoodIn big (c :: (a ++ b)) := fun w h => (List.mem_cons.mp h).elim (fun e => ha w (List.mem_cons.mpr (Or.inl e))) (fun h => (List.mem_append.mp h).elim (fun h => ha w (List.mem_cons.mpr (Or.inr h))) (hb w))
theorem goodIn_sub {big ws : List Cond} (hm : ∀ w ∈ ws, w ∈ big) (h : ws.all goodWord = true) : GoodIn big ws := fun w hw => ⟨hm w hw, good_of_word (List.all_eq_true.mp h w hw)⟩
/-! ===== END ===== -/

/-! ===== BEGIN exceptions that leave a method, and their catching by the caller (launches without stack traces) ===== -/
section VXA
/-! The laws vx_back, vx_callV, vx_callS, vx_callSW, vx_throw0, vx_throwS follow proofs of the library, with one case more: JvmDerived/Free/Laws.lean (Back.of_free), Shelf42/LK1.lean (callV, callS), Shelf/KitTraced.lean (throwNew0V, throwNewS). -/
/-- where a method has thrown q: the class by its name, the cell, what was written, the world -/
def vx_T (XC : String → State → State → Prop) (st : State) (q : Addr) (t : State) (mc ms : Nat) (free : Addr → Prop) : Prop :=
  ∃ (E : String) (ce : Cell) (L : List Loc), XC E st t ∧ t.heap[q]? = some ce ∧ ce.vm = .none ∧ st.vm.findClass E = some ce.cls ∧ st.WarmedH t.vm ∧ st.sameButNew ({ t with vm := st.vm } : State) L mc ms ∧ ∀ z ∈ L, free z.base
def vx_Q (Qc : Array Value → State → Outcome → State → Prop) (XC : String → State → State → Prop) (mc ms : Nat) (free : Addr → Prop) : Array Value → State → Outcome → State → Prop := fun a st o t =>
  (Qc a st o t ∧ ∃ L, FrameEnd st o t L mc ms ∧ ∀ q ∈ L, free q.base) ∨ ∃ q, o = .threw q ∧ vx_T XC st q t mc ms free
/-- a callee that returns or throws -/
def vx_Met (l : Launch) (y : MethodName) (ws : List Cond) (rm : Room) (Pc : Array Value → State → Prop) (Qc : Array Value → State → Outcome → State → Prop) (XC : String → State → State → Prop) (mc ms : Nat) (free : Addr → Prop) : Prop :=
  MetFree l y (headSpec ws rm) Pc (fun _ _ _ _ _ => True) (vx_Q Qc XC mc ms free)
def vx_Post (XC : String → State → State → Prop) (mc ms : Nat) (free : Addr → Prop) : Pt → Array Value → Addr → Pt → Prop := fun A a q B =>
  ∃ (g : JFrame) (mk : MethodId) (t : State) (L : List Loc) (E : String) (ce : Cell), B.U.heap = t.heap ∧ B.U.vm = t.vm ∧ XC E (A.U.calling g mk a) t ∧ t.heap[q]? = some ce ∧ ce.vm = .none ∧ A.U.vm.findClass E = some ce.cls ∧ B.locs = A.locs ++ L ∧ (∀ z ∈ L, free z.base) ∧ B.cells = A.cells + mc ∧ B.slots = A.slots + ms
def vx_Back (l : Launch) (R : Room) (p : Program) (e : Env) (below : List Frame) (s : State) (sargs : Array Value) (y : MethodName) (len W9 : Nat)
    (Pre : Pt → Array Value → Prop) (Post : Pt → Array Value → Option Value → Pt → Prop) (PostX : Pt → Array Value → Addr → Pt → Prop) : Prop :=
  ∀ (m : MethodId) (meth : Method) (c : Code) (A : Pt) (g : JFrame) (ig : Instr) (mk : MethodId) (a : Array Value),
    Stand p l e R s m sargs below meth c A.U A.locs A.cells A.slots → g.method = m → g.locals.size = c.maxLocals → decode c.code g.pc = .ok (ig, len) →
    2 * g.monitorRoom + (g.stack.map fun v => v.category).sum ≤ W9 → A.U.methodNamed? y = some mk → Pre A a →
    (∃ (v : Option Value) (B : Pt), Stand p l e R s m sargs below meth c B.U B.locs B.cells B.slots ∧ Post A a v B ∧
      Steps p.tables e below (doInvoke e (A.U.setTop g) [] mk a).1 (B.U.setTop { g with pc := g.pc + len, stack := v.toList ++ g.stack })) ∨
    (∃ (q : Addr) (B : Pt), Stand p l e R s m sargs below meth c B.U B.locs B.cells B.slots ∧ PostX A a q B ∧
      Steps p.tables e below (doInvoke e (A.U.setTop g) [] mk a).1 ((B.U.setTop g).pushFrame (.throwing q)))
section Payer
variable {l : Launch} {R : Room} {p : Program} {e : Env} {below : List Frame} {s : State} {sargs : Array Value} {y : MethodName} {len W9 : Nat}
theorem vx_back {ws : List Cond} {rm : Room} {Pc : Array Value → State → Prop} {Qc : Array Value → State → Outcome → State → Prop} {XC : String → State → State → Prop} {mc ms : Nat} {free : Addr → Prop} {bytes : ByteArray} {maxL : Nat} {ret : Option FieldType}
    (hM : vx_Met l y ws rm Pc Qc XC mc ms free) (hblind : FrameBlind Pc) (hrc : rm.cells = mc) (hrs : rm.slots = ms)
    (hframes : rm.frames + 1 ≤ R.frames) (hlocals : W9 + (maxL + 11) + rm.locals ≤ R.locals)
    (hws : ∀ w ∈ ws, ∀ a' U, s.WarmedH U.vm → w.before a' U = true) (hcode : Cond.code y bytes maxL ret ∈ ws) (hinit : ∀ a' U, s.WarmedH U.vm → (Cond.initialized y.cls).before a' U = true) :
    vx_Back l R p e below s sargs y len W9 (PreOf R mc ms Pc) (PostOf Qc mc ms free) (vx_Post XC mc ms free) := by
  intro m meth c A g ig mk a X hg hsize hdg hW hn hp
  have h1 : (headSpec ws rm).pre.before a A.U = true := atoms_intro fun w hw => hws w hw _ _ X.warmed
  have h2 : (Cond.code y bytes maxL ret).before a A.U = true := hws _ hcode _ _ X.warmed
  have h3 : (Cond.initialized y.cls).before a A.U = true := hinit _ _ X.warmed
  have h4 : A.cells + (headSpec ws rm).room.cells ≤ R.cells := by rw [show (headSpec ws rm).room.cells = mc from hrc]; exact hp.1
  have h5 : A.slots + (headSpec ws rm).room.slots ≤ R.slots := by rw [show (headSpec ws rm).room.slots = ms from hrs]; exact hp.2.1
  have hPc : Pc a (A.U.calling g mk a) := hblind _ _ _ _ hp.2.2
  obtain ⟨U, Ls, c0, s0⟩ := A
  dsimp only [Pt.U, Pt.locs, Pt.cells, Pt.slots] at h1 h2 h3 h4 h5 X hn hPc ⊢
  obtain ⟨methY, cY, hmY, hcY, -, hlY, -, -, -, -⟩ := Cond.code_spec hn h2
  obtain ⟨kY, hkY, -⟩ := className_of_methodNamed hn
  have hinitY : kY.init = .initialized := Cond.initialized_spec (findClass_of_methodNamed hn) hkY h3
  have h : At U g.method c below := by rw [hg]; exact X.here
  have hlocals9 : W9 + (maxL + 11) + (headSpec ws rm).room.locals ≤ R.locals := hlocals
  have happ : (headSpec ws rm).appliesLoose y e.platform (U.calling g mk a) = true :=
    Spec.appliesLoose_calling (g := g) h hdg hn hkY hinitY
      (X.room_calling (g := g) (R' := (headSpec ws rm).room) hsize hmY hcY hframes (by rw [hlY]; omega) h4 h5) h1
  obtain ⟨mid, hmid⟩ := h.above
  have hfr : (U.setTop g).frames = (.java g :: mid) ++ below := by rw [State.frames_setTop' g h.top, hmid]; rfl
  obtain ⟨o, s₂, hsteps, -, hend, hq⟩ := Steps.callFree hM p X.admits X.cas X.clock (acts := []) hfr happ hPc trivial
  have hq' : vx_Q Qc XC mc ms free a (U.calling g mk a) o s₂ := hq
  rw [State.frames_setTop' g h.top] at hend
  obtain ⟨g₀, hg0⟩ := Option.isSome_iff_exists.mp h.top
  obtain ⟨r, hr⟩ := State.topJava?_eq_some.mp hg0
  have hr' : (({ U with heap := s₂.heap, slotsUsed := s₂.slotsUsed } : State).setVm s₂.vm).frames = .java g₀ :: r := hr
  rcases hq' with ⟨hqc, L, hfe, hL⟩ | ⟨q, rfl, E, ce, L, hx, hce, hcv, hcl, hW₂, hsm, hL⟩
  · obtain ⟨⟨v, rfl⟩, hW₂, e2, q2, q3, q4, q5, q6⟩ := id hfe
    have e3 : s₂ = ({ (U.calling g mk a).setFrames s₂.frames with heap := s₂.heap, slotsUsed := s₂.slotsUsed } : State).setVm s₂.vm := by
      have : s₂ = ({ s₂ with vm := (U.calling g mk a).vm } : State).setVm s₂.vm := rfl
      rw [e2] at this
      exact this
    obtain ⟨c₂, i₂, len₂, hc₂, hd₂, hf₂⟩ := hend
    have hW' : U.WarmedH s₂.vm := hW₂
    have hcc : c₂ = c := by
      have h1 : s₂.code? g.method = U.code? g.method := by
        rw [State.code?_eq, State.code?_eq, hW'.alike.method?]
      exact Option.some.inj (hc₂.symm.trans (h1.trans h.code))
    subst hcc
    have hlen : len₂ = len := by rw [hdg] at hd₂; cases hd₂; rfl
    subst hlen
    have hs₂ : s₂ = (({ U with heap := s₂.heap, slotsUsed := s₂.slotsUsed } : State).setVm s₂.vm).setTop { g with pc := g.pc + len₂, stack := v.toList ++ g.stack } := by
      refine e3.trans ?_
      rw [hf₂, State.calling_eq h.top, State.setFrames_setFrames, State.setTop_of_frames _ hr', hr]
      rfl
    have hsame : U.sameButNew ({ U with heap := s₂.heap, slotsUsed := s₂.slotsUsed } : State) L mc ms := by
      refine ⟨?_, q2, q3, q4, q5, q6⟩
      obtain ⟨t, ht, -⟩ := State.frames_cons hr
      show ({ U with heap := s₂.heap, slotsUsed := s₂.slotsUsed } : State) = { U.setFrames U.frames with heap := s₂.heap, slotsUsed := s₂.slotsUsed }
      rw [State.setFrames_self ht]
    subst hg
    refine Or.inl ⟨v, ⟨(({ U with heap := s₂.heap, slotsUsed := s₂.slotsUsed } : State).setVm s₂.vm), Ls ++ L, c0 + mc, s0 + ms⟩,
      ⟨X.admits, X.cas, X.clock, X.frames, X.room, X.hears, X.method, X.code, (X.here.setHeapUsed s₂.heap s₂.slotsUsed).setVm hW'.alike, X.tail, State.WarmedH.trans X.warmed hW', X.limits, X.bytes, X.same.trans (hsame.setVm s.vm)⟩,
      ⟨g, mk, s₂, L, rfl, rfl, hqc, rfl, hL, rfl, rfl⟩, ?_⟩
    show Steps p.tables e below _ ((({ U with heap := s₂.heap, slotsUsed := s₂.slotsUsed } : State).setVm s₂.vm).setTop { g with pc := g.pc + len₂, stack := v.toList ++ g.stack })
    rw [← hs₂]
    exact hsteps
  · obtain ⟨e2, q2, q3, q4, q5, q6⟩ := id hsm
    have e3 : s₂ = ({ (U.calling g mk a).setFrames s₂.frames with heap := s₂.heap, slotsUsed := s₂.slotsUsed } : State).setVm s₂.vm := by
      have : s₂ = ({ s₂ with vm := (U.calling g mk a).vm } : State).setVm s₂.vm := rfl
      rw [e2] at this
      exact this
    have hf₂ : s₂.frames = .throwing q :: .java g :: U.frames.tail := hend
    have hW' : U.WarmedH s₂.vm := hW₂
    have hs₂ : s₂ = ((({ U with heap := s₂.heap, slotsUsed := s₂.slotsUsed } : State).setVm s₂.vm).setTop g).pushFrame (.throwing q) := by
      refine e3.trans ?_
      rw [hf₂, State.calling_eq h.top, State.setFrames_setFrames, State.pushFrame, State.frames_setTop _ hr', State.setTop_of_frames _ hr', State.setFrames_setFrames, hr]
      rfl
    have hsame : U.sameButNew ({ U with heap := s₂.heap, slotsUsed := s₂.slotsUsed } : State) L mc ms := by
      refine ⟨?_, q2, q3, q4, q5, q6⟩
      obtain ⟨t, ht, -⟩ := State.frames_cons hr
      show ({ U with heap := s₂.heap, slotsUsed := s₂.slotsUsed } : State) = { U.setFrames U.frames with heap := s₂.heap, slotsUsed := s₂.slotsUsed }
      rw [State.setFrames_self ht]
    subst hg
    refine Or.inr ⟨q, ⟨(({ U with heap := s₂.heap, slotsUsed := s₂.slotsUsed } : State).setVm s₂.vm), Ls ++ L, c0 + mc, s0 + ms⟩,
      ⟨X.admits, X.cas, X.clock, X.frames, X.room, X.hears, X.method, X.code, (X.here.setHeapUsed s₂.heap s₂.slotsUsed).setVm hW'.alike, X.tail, State.WarmedH.trans X.warmed hW', X.limits, X.bytes, X.same.trans (hsame.setVm s.vm)⟩,
      ⟨g, mk, s₂, L, E, ce, rfl, rfl, hx, hce, hcv, hcl, rfl, hL, rfl, rfl⟩, ?_⟩
    show Steps p.tables e below _ (((({ U with heap := s₂.heap, slotsUsed := s₂.slotsUsed } : State).setVm s₂.vm).setTop g).pushFrame (.throwing q))
    rw [← hs₂]
    exact hsteps
end Payer
section Calls
variable {p : Program} {l : Launch} {e : Env} {R : Room} {s : State} {m : MethodId} {args : Array Value} {below : List Frame} {meth : Method} {c : Code} {T : State} {locs : List Loc} {cells slots : Nat}
theorem vx_callV (X : Stand p l e R s m args below meth c T locs cells slots) (hexec : p.tables.exec = Jvm.exec) {own C : String} {index : Nat} {y : MethodName} {bytes : ByteArray} {maxL : Nat} {ret : Option FieldType}
    (hown : s.vm.findClass own = some m.cls) (hlink : (Cond.methodLink own index y).before args s = true) (hinst : (Cond.instanceMethod y).before args s = true) (hsel : (Cond.selects C y y).before args s = true)
    (hcode : (Cond.code y bytes maxL ret).before args s = true) (hy : y.cls ≠ "java/lang/invoke/MethodHandle" ∧ y.cls ≠ "java/lang/invoke/VarHandle")
    {W9 : Nat} {Pre : Pt → Array Value → Prop} {Post : Pt → Array Value → Option Value → Pt → Prop} {PostX : Pt → Array Value → Addr → Pt → Prop} (hK : vx_Back l R p e below s args y 3 W9 Pre Post PostX)
    {b : Addr} {cellB : Cell} (hcell : T.heap[b]? = some cellB) (hobj : cellB.vm.isStatics = false) (hcls : s.vm.findClass C = some cellB.cls)
    {g : JFrame} (hg : g.method = m) (hsize : g.locals.size = c.maxLocals) {argsL rest : List Value} (hlen : ∀ sig, parseMethodDescriptor y.desc = some sig → argsL.length = sig.parameters.length)
    (hstack : g.stack = argsL.reverse ++ .ref b :: rest) (hW : 2 * g.monitorRoom + (rest.map fun v => v.category).sum ≤ W9) (hdg : decode c.code g.pc = .ok (.invokevirtual index, 3))
    (hpre : ∀ vm₁, s.WarmedH vm₁ → Pre ⟨T.setVm vm₁, locs, cells, slots⟩ (Value.ref b :: argsL).toArray) :
    (∃ (v : Option Value) (vm₁ : Vm) (B : Pt), s.WarmedH vm₁ ∧ Stand p l e R s m args below meth c B.U B.locs B.cells B.slots ∧ Post ⟨T.setVm vm₁, locs, cells, slots⟩ (Value.ref b :: argsL).toArray v B ∧
      ∀ target, Steps p.tables e below (B.U.setTop { g with pc := g.pc + 3, stack := v.toList ++ rest }) target → Steps p.tables e below (T.setTop g) target) ∨
    (∃ (q : Addr) (vm₁ : Vm) (B : Pt), s.WarmedH vm₁ ∧ Stand p l e R s m args below meth c B.U B.locs B.cells B.slots ∧ PostX ⟨T.setVm vm₁, locs, cells, slots⟩ (Value.ref b :: argsL).toArray q B ∧
      Steps p.tables e below (T.setTop g) ((B.U.setTop { g with stack := rest }).pushFrame (.throwing q))) := by
  obtain ⟨mk, methM, hnamed, hmethM, hstM, habM⟩ := Cond.instanceMethod_spec hinst
  obtain ⟨methM', cM, hmethM', -, -, -, -, -, -, hsigM⟩ := Cond.code_spec hnamed hcode
  cases hmethM.symm.trans hmethM'
  obtain ⟨c2, r2, m2, q1, q2, q3, q4, kP, hkP, hkPi⟩ := Cond.selects_spec hsel
  cases hcls.symm.trans q1
  cases (State.methodFound?_of_named hnamed hy).symm.trans q2
  cases hnamed.symm.trans q3
  have hselP : selectMethod e.platform s.vm cellB.cls mk = .method mk := by rw [Launch.admits_selectMethod X.admits]; exact q4
  obtain ⟨vm₁, X₁, hstep₁⟩ := X.invokevirtual hexec hown hlink hnamed hmethM hstM hkP hkPi hy (a := b) (cell := cellB) hcell
    (fun z h => by rw [h] at hobj; cases hobj) hselP hmethM habM hkP hkPi (g := g) hg (argsL := argsL) (rest := rest) (hlen _ hsigM) hstack hdg
  rcases hK m meth c ⟨T.setVm vm₁, locs, cells, slots⟩ { g with stack := rest } (.invokevirtual index) mk (Value.ref b :: argsL).toArray X₁ hg hsize hdg hW (X₁.named hnamed) (hpre vm₁ X₁.warmed) with ⟨v, B, X', hpost, hsteps⟩ | ⟨q, B, X', hpost, hsteps⟩
  · exact Or.inl ⟨v, vm₁, B, X₁.warmed, X', hpost, fun target h => hstep₁ _ fun acts => by rw [doInvoke_state]; exact hsteps.trans h⟩
  · exact Or.inr ⟨q, vm₁, B, X₁.warmed, X', hpost, hstep₁ _ fun acts => by rw [doInvoke_state]; exact hsteps⟩
theorem vx_callS (X : Stand p l e R s m args below meth c T locs cells slots) (hexec : p.tables.exec = Jvm.exec) {own : String} {index : Nat} {y : MethodName} {bytes : ByteArray} {maxL : Nat} {ret : Option FieldType}
    (hown : s.vm.findClass own = some m.cls) (hlink : (Cond.methodLink own index y).before args s = true) (hstat : (Cond.static y).before args s = true) (hinit : (Cond.initialized y.cls).before args s = true)
    (hcode : (Cond.code y bytes maxL ret).before args s = true) (hy : y.cls ≠ "java/lang/invoke/MethodHandle" ∧ y.cls ≠ "java/lang/invoke/VarHandle")
    {W9 : Nat} {Pre : Pt → Array Value → Prop} {Post : Pt → Array Value → Option Value → Pt → Prop} {PostX : Pt → Array Value → Addr → Pt → Prop} (hK : vx_Back l R p e below s args y 3 W9 Pre Post PostX)
    {g : JFrame} (hg : g.method = m) (hsize : g.locals.size = c.maxLocals) {argsL rest : List Value} (hlen : ∀ sig, parseMethodDescriptor y.desc = some sig → argsL.length = sig.parameters.length)
    (hstack : g.stack = argsL.reverse ++ rest) (hW : 2 * g.monitorRoom + (rest.map fun v => v.category).sum ≤ W9) (hdg : decode c.code g.pc = .ok (.invokestatic index, 3))
    (hpre : ∀ vm₁, s.WarmedH vm₁ → Pre ⟨T.setVm vm₁, locs, cells, slots⟩ argsL.toArray) :
    (∃ (v : Option Value) (vm₁ : Vm) (B : Pt), s.WarmedH vm₁ ∧ Stand p l e R s m args below meth c B.U B.locs B.cells B.slots ∧ Post ⟨T.setVm vm₁, locs, cells, slots⟩ argsL.toArray v B ∧
      ∀ target, Steps p.tables e below (B.U.setTop { g with pc := g.pc + 3, stack := v.toList ++ rest }) target → Steps p.tables e below (T.setTop g) target) ∨
    (∃ (q : Addr) (vm₁ : Vm) (B : Pt), s.WarmedH vm₁ ∧ Stand p l e R s m args below meth c B.U B.locs B.cells B.slots ∧ PostX ⟨T.setVm vm₁, locs, cells, slots⟩ argsL.toArray q B ∧
      Steps p.tables e below (T.setTop g) ((B.U.setTop { g with stack := rest }).pushFrame (.throwing q))) := by
  obtain ⟨mk, hnamed⟩ := Cond.code_named hcode
  obtain ⟨methM, cM, hmethM, -, -, -, -, -, -, hsigM⟩ := Cond.code_spec hnamed hcode
  have hstatic : methM.isStatic = true := Cond.static_spec hnamed hmethM hstat
  obtain ⟨kP, hkP, -⟩ := className_of_methodNamed hnamed
  have hinitP : kP.init = .initialized := Cond.initialized_spec (findClass_of_methodNamed hnamed) hkP hinit
  obtain ⟨vm₁, X₁, hstep₁⟩ := X.invokestatic hexec hown hlink hnamed hmethM hstatic hkP hinitP hy (g := g) hg (argsL := argsL) (rest := rest) (hlen _ hsigM) hstack hdg
  rcases hK m meth c ⟨T.setVm vm₁, locs, cells, slots⟩ { g with stack := rest } (.invokestatic index) mk argsL.toArray X₁ hg hsize hdg hW (X₁.named hnamed) (hpre vm₁ X₁.warmed) with ⟨v, B, X', hpost, hsteps⟩ | ⟨q, B, X', hpost, hsteps⟩
  · exact Or.inl ⟨v, vm₁, B, X₁.warmed, X', hpost, fun target h => hstep₁ _ fun acts => by rw [doInvoke_state]; exact hsteps.trans h⟩
  · exact Or.inr ⟨q, vm₁, B, X₁.warmed, X', hpost, hstep₁ _ fun acts => by rw [doInvoke_state]; exact hsteps⟩
end Calls
theorem vx_cls {s : State} {T : State} {vm₁ : Vm} {E : String} {k : ClassId} (hW : s.WarmedH vm₁) (h : (T.setVm vm₁).vm.findClass E = some k) : s.vm.findClass E = some k := by
  have h1 : vm₁.findClass E = some k := h
  rw [hW.alike.findClass] at h1
  exact h1
/-- the method's frame g, with q thrown over it -/
def vx_W (p : Program) (l : Launch) (e : Env) (R : Room) (s : State) (m : MethodId) (args : Array Value) (below : List Frame) (meth : Method) (c : Code) (H : Heap) (locs : List Loc) (cells slots : Nat) (Q : State → Prop) (g : JFrame) (q : Addr) : Prop :=
  ∀ T : State, T.heap = H → Stand p l e R s m args below meth c T locs cells slots → ∃ t, Steps p.tables e below ((T.setTop g).pushFrame (.throwing q)) t ∧ Q t
def vx_Run (p : Program) (l : Launch) (e : Env) (R : Room) (s : State) (m : MethodId) (args : Array Value) (below : List Frame) (meth : Method) (c : Code) (H : Heap) (locs : List Loc) (cells slots mc ms : Nat) (g : JFrame) (rest : List Value) (Qa : State → Outcome → State → Prop) (XC : String → State → State → Prop) (free : Addr → Prop) : Prop :=
  ∀ T : State, T.heap = H → Stand p l e R s m args below meth c T locs cells slots →
    (∃ (v : Option Value) (st₀ t T' : State) (L : List Loc), st₀.heap = H ∧ Stand p l e R s m args below meth c T' (locs ++ L) (cells + mc) (slots + ms) ∧ (∀ q ∈ L, free q.base) ∧ T'.heap = t.heap ∧ T'.vm = t.vm ∧ Qa st₀ (.returned v) t ∧
      Goes p e below T g T' { g with pc := g.pc + 3, stack := v.toList ++ rest }) ∨
    (∃ (q : Addr) (st₀ t T' : State) (L : List Loc) (E : String) (ce : Cell), st₀.heap = H ∧ Stand p l e R s m args below meth c T' (locs ++ L) (cells + mc) (slots + ms) ∧ (∀ z ∈ L, free z.base) ∧ T'.heap = t.heap ∧ T'.vm = t.vm ∧ XC E st₀ t ∧ t.heap[q]? = some ce ∧ ce.vm = .none ∧ s.vm.findClass E = some ce.cls ∧
      Steps p.tables e below (T.setTop g) ((T'.setTop { g with stack := rest }).pushFrame (.throwing q)))
def vx_X {S : Type} (px : S → Prop) (B : String → S → State → Prop) (A : Nat → Prop) : String → State → State → Prop := fun E st t => ∃ u : S, px u ∧ B E u t ∧ va_F A st t
section Runs
variable {p : Program} {l : Launch} {e : Env} {R : Room} {s : State} {m : MethodId} {args : Array Value} {below : List Frame} {meth : Method} {c : Code} {H : Heap} {locs : List Loc} {cells slots : Nat}
variable {y : MethodName} {bytes cc : ByteArray} {maxL nL mc ms n index : Nat} {ret : Option FieldType} {ws : List Cond} {rm : Room} {Pc : Array Value → State → Prop} {Qc : Array Value → State → Outcome → State → Prop} {XC : String → State → State → Prop} {free : Addr → Prop} {Ts : List Cond} {own C : String} {b : Addr} {As rest : List Value} {g : JFrame}
theorem vx_callBack (cb : CallB R s args own index y bytes maxL ret ws rm mc ms n) (hM : vx_Met l y ws rm Pc Qc XC mc ms free) (hbl : FrameBlind Pc) : vx_Back l R p e below s args y 3 8 (PreOf R mc ms Pc) (PostOf Qc mc ms free) (vx_Post XC mc ms free) := by
  obtain ⟨hrc, hrs, hfr, hlo, hws, hcw, -, hini, -⟩ := cb
  exact vx_back (bytes := bytes) (maxL := maxL) (ret := ret) hM hbl hrc hrs hfr hlo hws hcw (fun a' U hW => word_at hW (Or.inl (by first | rfl | simp [Cond.onTables, Cond.keeps, Cond.steady])) hini)
theorem vx_runV (S : CallFix p m c cc nL s args Ts own) (hM : vx_Met l y ws rm Pc Qc XC mc ms free) (cw : CallW R s args own C index y bytes maxL ret ws rm mc ms n) (hp : PreV s H C b Pc As)
    (hg : g.method = m) (hn : As.length = n) (hsize : g.locals.size = nL) (hstack : g.stack = As.reverse ++ .ref b :: rest) (hW : 2 * g.monitorRoom + (rest.map fun v => v.category).sum ≤ 8) (hdg : decode cc g.pc = .ok (.invokevirtual index, 3)) (hf : cells + mc ≤ R.cells ∧ slots + ms ≤ R.slots) :
    vx_Run p l e R s m args below meth c H locs cells slots mc ms g rest (Qc (Value.ref b :: As).toArray) XC free := by
  have hK : vx_Back l R p e below s args y 3 8 (PreOf R mc ms Pc) (PostOf Qc mc ms free) (vx_Post XC mc ms free) := vx_callBack cw.1 hM hp.1
  obtain ⟨⟨-, -, -, -, -, -, hcode, -, hy, hlen, hl⟩, hin, hse⟩ := cw
  obtain ⟨hx, hb, hml, ho, -⟩ := S
  obtain ⟨-, ⟨cellB, hcB, hoB, hclB⟩, hPc⟩ := hp
  intro T hT X
  rcases vx_callV X hx (C := C) (bytes := bytes) (maxL := maxL) (ret := ret) ho hl hin hse hcode hy hK (by rw [hT]; exact hcB) hoB hclB hg (hsize.trans hml.symm) (argsL := As) (rest := rest) (fun sig h => hn.trans (hlen sig h)) hstack hW (by rw [hb]; exact hdg)
    (fun vm₁ hW₁ => ⟨hf.1, hf.2, hPc (T.setVm vm₁) hT hW₁⟩) with ⟨v, vm₁, ⟨U', l2, c2, s2⟩, hW₁, X', ⟨g', mk, t, L, e1, e2, hq, h1, hL, h2, h3⟩, st⟩ | ⟨q, vm₁, ⟨U', l2, c2, s2⟩, hW₁, X', ⟨g', mk, t, L, E, ce, e1, e2, hq, hce, hcv, hcl, h1, hL, h2, h3⟩, st⟩
  · dsimp only [Pt.U, Pt.locs, Pt.cells, Pt.slots] at X' e1 e2 h1 h2 h3 st
    subst h1; subst h2; subst h3
    exact Or.inl ⟨v, (T.setVm vm₁).calling g' mk (Value.ref b :: As).toArray, t, U', L, hT, X', hL, e1, e2, hq, st⟩
  · dsimp only [Pt.U, Pt.locs, Pt.cells, Pt.slots] at X' e1 e2 h1 h2 h3 st hcl
    subst h1; subst h2; subst h3
    exact Or.inr ⟨q, (T.setVm vm₁).calling g' mk (Value.ref b :: As).toArray, t, U', L, E, ce, hT, X', hL, e1, e2, hq, hce, hcv, vx_cls hW₁ hcl, st⟩
theorem vx_runS (S : CallFix p m c cc nL s args Ts own) (hM : vx_Met l y ws rm Pc Qc XC mc ms free) (cw : CallB R s args own index y bytes maxL ret ws rm mc ms n ∧ (Cond.static y).before args s = true) (hp : PreS s H Pc As)
    (hg : g.method = m) (hn : As.length = n) (hsize : g.locals.size = nL) (hstack : g.stack = As.reverse ++ rest) (hW : 2 * g.monitorRoom + (rest.map fun v => v.category).sum ≤ 8) (hdg : decode cc g.pc = .ok (.invokestatic index, 3)) (hf : cells + mc ≤ R.cells ∧ slots + ms ≤ R.slots) :
    vx_Run p l e R s m args below meth c H locs cells slots mc ms g rest (Qc As.toArray) XC free := by
  have hK : vx_Back l R p e below s args y 3 8 (PreOf R mc ms Pc) (PostOf Qc mc ms free) (vx_Post XC mc ms free) := vx_callBack cw.1 hM hp.1
  obtain ⟨⟨-, -, -, -, -, -, hcode, hini, hy, hlen, hl⟩, hstt⟩ := cw
  obtain ⟨hx, hb, hml, ho, -⟩ := S
  intro T hT X
  rcases vx_callS X hx (bytes := bytes) (maxL := maxL) (ret := ret) ho hl hstt hini hcode hy hK hg (hsize.trans hml.symm) (argsL := As) (rest := rest) (fun sig h => hn.trans (hlen sig h)) hstack hW (by rw [hb]; exact hdg)
    (fun vm₁ hW₁ => ⟨hf.1, hf.2, hp.2 (T.setVm vm₁) hT hW₁⟩) with ⟨v, vm₁, ⟨U', l2, c2, s2⟩, hW₁, X', ⟨g', mk, t, L, e1, e2, hq, h1, hL, h2, h3⟩, st⟩ | ⟨q, vm₁, ⟨U', l2, c2, s2⟩, hW₁, X', ⟨g', mk, t, L, E, ce, e1, e2, hq, hce, hcv, hcl, h1, hL, h2, h3⟩, st⟩
  · dsimp only [Pt.U, Pt.locs, Pt.cells, Pt.slots] at X' e1 e2 h1 h2 h3 st
    subst h1; subst h2; subst h3
    exact Or.inl ⟨v, (T.setVm vm₁).calling g' mk As.toArray, t, U', L, hT, X', hL, e1, e2, hq, st⟩
  · dsimp only [Pt.U, Pt.locs, Pt.cells, Pt.slots] at X' e1 e2 h1 h2 h3 st hcl
    subst h1; subst h2; subst h3
    exact Or.inr ⟨q, (T.setVm vm₁).calling g' mk As.toArray, t, U', L, E, ce, hT, X', hL, e1, e2, hq, hce, hcv, vx_cls hW₁ hcl, st⟩
end Runs
section Rows
variable {p : Program} {l : Launch} {e : Env} {R : Room} {s : State} {m : MethodId} {args : Array Value} {below : List Frame} {meth : Method} {c : Code} {H : Heap} {locs : List Loc} {cells slots : Nat} {Q : State → Prop}
variable {mc ms : Nat} {free : Addr → Prop} {A0 A1 : Nat → Prop} {H0 : Heap} {a : Array Value} {pc : Nat} {ls : Array Slot} {st0 rest : List Value}
theorem vx_keep {st₀ t T' : State} {L : List Loc} (h0 : st₀.heap = H) (e1 : T'.heap = t.heap) (hS : va_S A0 H0 H locs) (hA : ∀ q, q < H.size → A1 q → A0 q) (hf : ∀ q, free q → A0 q) (hL : ∀ q ∈ L, free q.base) (hF : va_F A1 st₀ t) :
    H.size ≤ T'.heap.size ∧ (∀ q : Nat, q < H.size → ¬ A1 q → T'.heap[q]? = H[q]?) ∧ va_S A0 H0 T'.heap (locs ++ L) := by
  obtain ⟨hz, hk⟩ := hF
  rw [h0] at hz hk
  exact ⟨by rw [e1]; exact hz, fun q h1 h2 => by rw [e1]; exact hk q h1 h2,
    ⟨Nat.le_trans hS.1 (by rw [e1]; exact hz), fun q h1 h2 => by rw [e1, hk q (Nat.lt_of_lt_of_le h1 hS.1) (fun z => h2 (hA q (Nat.lt_of_lt_of_le h1 hS.1) z))]; exact hS.2.1 q h1 h2, fun q hq => by
      rcases List.mem_append.mp hq with h | h
      · exact hS.2.2 q h
      · exact hf _ (hL q h)⟩⟩
theorem vx_calli {S SX : Type} {post : Int32 → S → Prop} {px : SX → Prop} {B : S → State → Prop} {BX : String → SX → State → Prop} {AX : Nat → Prop} (hr : vx_Run p l e R s m args below meth c H locs cells slots mc ms (F0 m pc ls st0) rest (va_Qi post B A1 a) (vx_X px BX AX) free) (hS : va_S A0 H0 H locs) (hA : ∀ q, q < H.size → A1 q → A0 q) (hf : ∀ q, free q → A0 q) (hAX : ∀ q, q < H.size → AX q → A0 q)
    (kx : ∀ (E : String) (ce : Cell) (q9 : Addr) (u : SX) (t : State) (H1 : Heap) (locs1 : List Loc), t.heap = H1 → s.vm.Alike t.vm → px u → BX E u t → H.size ≤ H1.size → (∀ q : Nat, q < H.size → ¬ AX q → H1[q]? = H[q]?) → va_S A0 H0 H1 locs1 → H1[q9]? = some ce → ce.vm = .none → s.vm.findClass E = some ce.cls → vx_W p l e R s m args below meth c H1 locs1 (cells + mc) (slots + ms) Q (F0 m pc ls rest) q9)
    (kk : ∀ (r : Int32) (u : S) (t : State) (H1 : Heap) (locs1 : List Loc), t.heap = H1 → s.vm.Alike t.vm → post r u → B u t → H.size ≤ H1.size → (∀ q : Nat, q < H.size → ¬ A1 q → H1[q]? = H[q]?) → va_S A0 H0 H1 locs1 → W p l e R s m args below meth c H1 locs1 (cells + mc) (slots + ms) Q (F0 m (pc + 3) ls (.int r :: rest))) : W p l e R s m args below meth c H locs cells slots Q (F0 m pc ls st0) := by
  intro T hT X
  rcases hr T hT X with ⟨v, st₀, t, T', L, h0, X', hL, e1, e2, ⟨⟨r, u, hv, hp, hb⟩, hF⟩, st⟩ | ⟨q, st₀, t, T', L, E, ce, h0, X', hL, e1, e2, ⟨u, hp, hb, hF⟩, hce, hcv, hcl, st⟩
  · cases hv
    obtain ⟨k1, k2, k3⟩ := vx_keep h0 e1 hS hA hf hL hF
    obtain ⟨t2, a1, b1⟩ := kk r u t T'.heap (locs ++ L) e1.symm (by rw [← e2]; exact X'.warmed.alike) hp hb k1 k2 k3 T' rfl X'
    exact ⟨t2, st t2 a1, b1⟩
  · obtain ⟨k1, k2, k3⟩ := vx_keep h0 e1 hS hAX hf hL hF
    obtain ⟨t2, a1, b1⟩ := kx E ce q u t T'.heap (locs ++ L) e1.symm (by rw [← e2]; exact X'.warmed.alike) hp hb k1 k2 k3 (by rw [e1]; exact hce) hcv hcl T' rfl X'
    exact ⟨t2, st.trans a1, b1⟩
theorem vx_calll {S SX : Type} {post : Int64 → S → Prop} {px : SX → Prop} {B : S → State → Prop} {BX : String → SX → State → Prop} {AX : Nat → Prop} (hr : vx_Run p l e R s m args below meth c H locs cells slots mc ms (F0 m pc ls st0) rest (va_Ql post B A1 a) (vx_X px BX AX) free) (hS : va_S A0 H0 H locs) (hA : ∀ q, q < H.size → A1 q → A0 q) (hf : ∀ q, free q → A0 q) (hAX : ∀ q, q < H.size → AX q → A0 q)
    (kx : ∀ (E : String) (ce : Cell) (q9 : Addr) (u : SX) (t : State) (H1 : Heap) (locs1 : List Loc), t.heap = H1 → s.vm.Alike t.vm → px u → BX E u t → H.size ≤ H1.size → (∀ q : Nat, q < H.size → ¬ AX q → H1[q]? = H[q]?) → va_S A0 H0 H1 locs1 → H1[q9]? = some ce → ce.vm = .none → s.vm.findClass E = some ce.cls → vx_W p l e R s m args below meth c H1 locs1 (cells + mc) (slots + ms) Q (F0 m pc ls rest) q9)
    (kk : ∀ (r : Int64) (u : S) (t : State) (H1 : Heap) (locs1 : List Loc), t.heap = H1 → s.vm.Alike t.vm → post r u → B u t → H.size ≤ H1.size → (∀ q : Nat, q < H.size → ¬ A1 q → H1[q]? = H[q]?) → va_S A0 H0 H1 locs1 → W p l e R s m args below meth c H1 locs1 (cells + mc) (slots + ms) Q (F0 m (pc + 3) ls (.long r :: rest))) : W p l e R s m args below meth c H locs cells slots Q (F0 m pc ls st0) := by
  intro T hT X
  rcases hr T hT X with ⟨v, st₀, t, T', L, h0, X', hL, e1, e2, ⟨⟨r, u, hv, hp, hb⟩, hF⟩, st⟩ | ⟨q, st₀, t, T', L, E, ce, h0, X', hL, e1, e2, ⟨u, hp, hb, hF⟩, hce, hcv, hcl, st⟩
  · cases hv
    obtain ⟨k1, k2, k3⟩ := vx_keep h0 e1 hS hA hf hL hF
    obtain ⟨t2, a1, b1⟩ := kk r u t T'.heap (locs ++ L) e1.symm (by rw [← e2]; exact X'.warmed.alike) hp hb k1 k2 k3 T' rfl X'
    exact ⟨t2, st t2 a1, b1⟩
  · obtain ⟨k1, k2, k3⟩ := vx_keep h0 e1 hS hAX hf hL hF
    obtain ⟨t2, a1, b1⟩ := kx E ce q u t T'.heap (locs ++ L) e1.symm (by rw [← e2]; exact X'.warmed.alike) hp hb k1 k2 k3 (by rw [e1]; exact hce) hcv hcl T' rfl X'
    exact ⟨t2, st.trans a1, b1⟩
theorem vx_callf {S SX : Type} {post : UInt32 → S → Prop} {px : SX → Prop} {B : S → State → Prop} {BX : String → SX → State → Prop} {AX : Nat → Prop} (hr : vx_Run p l e R s m args below meth c H locs cells slots mc ms (F0 m pc ls st0) rest (va_Qf post B A1 a) (vx_X px BX AX) free) (hS : va_S A0 H0 H locs) (hA : ∀ q, q < H.size → A1 q → A0 q) (hf : ∀ q, free q → A0 q) (hAX : ∀ q, q < H.size → AX q → A0 q)
    (kx : ∀ (E : String) (ce : Cell) (q9 : Addr) (u : SX) (t : State) (H1 : Heap) (locs1 : List Loc), t.heap = H1 → s.vm.Alike t.vm → px u → BX E u t → H.size ≤ H1.size → (∀ q : Nat, q < H.size → ¬ AX q → H1[q]? = H[q]?) → va_S A0 H0 H1 locs1 → H1[q9]? = some ce → ce.vm = .none → s.vm.findClass E = some ce.cls → vx_W p l e R s m args below meth c H1 locs1 (cells + mc) (slots + ms) Q (F0 m pc ls rest) q9)
    (kk : ∀ (r : UInt32) (u : S) (t : State) (H1 : Heap) (locs1 : List Loc), t.heap = H1 → s.vm.Alike t.vm → post r u → B u t → H.size ≤ H1.size → (∀ q : Nat, q < H.size → ¬ A1 q → H1[q]? = H[q]?) → va_S A0 H0 H1 locs1 → W p l e R s m args below meth c H1 locs1 (cells + mc) (slots + ms) Q (F0 m (pc + 3) ls (.float r :: rest))) : W p l e R s m args below meth c H locs cells slots Q (F0 m pc ls st0) := by
  intro T hT X
  rcases hr T hT X with ⟨v, st₀, t, T', L, h0, X', hL, e1, e2, ⟨⟨r, u, hv, hp, hb⟩, hF⟩, st⟩ | ⟨q, st₀, t, T', L, E, ce, h0, X', hL, e1, e2, ⟨u, hp, hb, hF⟩, hce, hcv, hcl, st⟩
  · cases hv
    obtain ⟨k1, k2, k3⟩ := vx_keep h0 e1 hS hA hf hL hF
    obtain ⟨t2, a1, b1⟩ := kk r u t T'.heap (locs ++ L) e1.symm (by rw [← e2]; exact X'.warmed.alike) hp hb k1 k2 k3 T' rfl X'
    exact ⟨t2, st t2 a1, b1⟩
  · obtain ⟨k1, k2, k3⟩ := vx_keep h0 e1 hS hAX hf hL hF
    obtain ⟨t2, a1, b1⟩ := kx E ce q u t T'.heap (locs ++ L) e1.symm (by rw [← e2]; exact X'.warmed.alike) hp hb k1 k2 k3 (by rw [e1]; exact hce) hcv hcl T' rfl X'
    exact ⟨t2, st.trans a1, b1⟩
theorem vx_calld {S SX : Type} {post : UInt64 → S → Prop} {px : SX → Prop} {B : S → State → Prop} {BX : String → SX → State → Prop} {AX : Nat → Prop} (hr : vx_Run p l e R s m args below meth c H locs cells slots mc ms (F0 m pc ls st0) rest (va_Qd post B A1 a) (vx_X px BX AX) free) (hS : va_S A0 H0 H locs) (hA : ∀ q, q < H.size → A1 q → A0 q) (hf : ∀ q, free q → A0 q) (hAX : ∀ q, q < H.size → AX q → A0 q)
    (kx : ∀ (E : String) (ce : Cell) (q9 : Addr) (u : SX) (t : State) (H1 : Heap) (locs1 : List Loc), t.heap = H1 → s.vm.Alike t.vm → px u → BX E u t → H.size ≤ H1.size → (∀ q : Nat, q < H.size → ¬ AX q → H1[q]? = H[q]?) → va_S A0 H0 H1 locs1 → H1[q9]? = some ce → ce.vm = .none → s.vm.findClass E = some ce.cls → vx_W p l e R s m args below meth c H1 locs1 (cells + mc) (slots + ms) Q (F0 m pc ls rest) q9)
    (kk : ∀ (r : UInt64) (u : S) (t : State) (H1 : Heap) (locs1 : List Loc), t.heap = H1 → s.vm.Alike t.vm → post r u → B u t → H.size ≤ H1.size → (∀ q : Nat, q < H.size → ¬ A1 q → H1[q]? = H[q]?) → va_S A0 H0 H1 locs1 → W p l e R s m args below meth c H1 locs1 (cells + mc) (slots + ms) Q (F0 m (pc + 3) ls (.double r :: rest))) : W p l e R s m args below meth c H locs cells slots Q (F0 m pc ls st0) := by
  intro T hT X
  rcases hr T hT X with ⟨v, st₀, t, T', L, h0, X', hL, e1, e2, ⟨⟨r, u, hv, hp, hb⟩, hF⟩, st⟩ | ⟨q, st₀, t, T', L, E, ce, h0, X', hL, e1, e2, ⟨u, hp, hb, hF⟩, hce, hcv, hcl, st⟩
  · cases hv
    obtain ⟨k1, k2, k3⟩ := vx_keep h0 e1 hS hA hf hL hF
    obtain ⟨t2, a1, b1⟩ := kk r u t T'.heap (locs ++ L) e1.symm (by rw [← e2]; exact X'.warmed.alike) hp hb k1 k2 k3 T' rfl X'
    exact ⟨t2, st t2 a1, b1⟩
  · obtain ⟨k1, k2, k3⟩ := vx_keep h0 e1 hS hAX hf hL hF
    obtain ⟨t2, a1, b1⟩ := kx E ce q u t T'.heap (locs ++ L) e1.symm (by rw [← e2]; exact X'.warmed.alike) hp hb k1 k2 k3 (by rw [e1]; exact hce) hcv hcl T' rfl X'
    exact ⟨t2, st.trans a1, b1⟩
theorem vx_callv {S SX : Type} {post : S → Prop} {px : SX → Prop} {B : S → State → Prop} {BX : String → SX → State → Prop} {AX : Nat → Prop} (hr : vx_Run p l e R s m args below meth c H locs cells slots mc ms (F0 m pc ls st0) rest (va_Qv post B A1 a) (vx_X px BX AX) free) (hS : va_S A0 H0 H locs) (hA : ∀ q, q < H.size → A1 q → A0 q) (hf : ∀ q, free q → A0 q) (hAX : ∀ q, q < H.size → AX q → A0 q)
    (kx : ∀ (E : String) (ce : Cell) (q9 : Addr) (u : SX) (t : State) (H1 : Heap) (locs1 : List Loc), t.heap = H1 → s.vm.Alike t.vm → px u → BX E u t → H.size ≤ H1.size → (∀ q : Nat, q < H.size → ¬ AX q → H1[q]? = H[q]?) → va_S A0 H0 H1 locs1 → H1[q9]? = some ce → ce.vm = .none → s.vm.findClass E = some ce.cls → vx_W p l e R s m args below meth c H1 locs1 (cells + mc) (slots + ms) Q (F0 m pc ls rest) q9)
    (kk : ∀ (u : S) (t : State) (H1 : Heap) (locs1 : List Loc), t.heap = H1 → s.vm.Alike t.vm → post u → B u t → H.size ≤ H1.size → (∀ q : Nat, q < H.size → ¬ A1 q → H1[q]? = H[q]?) → va_S A0 H0 H1 locs1 → W p l e R s m args below meth c H1 locs1 (cells + mc) (slots + ms) Q (F0 m (pc + 3) ls (rest))) : W p l e R s m args below meth c H locs cells slots Q (F0 m pc ls st0) := by
  intro T hT X
  rcases hr T hT X with ⟨v, st₀, t, T', L, h0, X', hL, e1, e2, ⟨⟨u, hv, hp, hb⟩, hF⟩, st⟩ | ⟨q, st₀, t, T', L, E, ce, h0, X', hL, e1, e2, ⟨u, hp, hb, hF⟩, hce, hcv, hcl, st⟩
  · cases hv
    obtain ⟨k1, k2, k3⟩ := vx_keep h0 e1 hS hA hf hL hF
    obtain ⟨t2, a1, b1⟩ := kk u t T'.heap (locs ++ L) e1.symm (by rw [← e2]; exact X'.warmed.alike) hp hb k1 k2 k3 T' rfl X'
    exact ⟨t2, st t2 a1, b1⟩
  · obtain ⟨k1, k2, k3⟩ := vx_keep h0 e1 hS hAX hf hL hF
    obtain ⟨t2, a1, b1⟩ := kx E ce q u t T'.heap (locs ++ L) e1.symm (by rw [← e2]; exact X'.warmed.alike) hp hb k1 k2 k3 (by rw [e1]; exact hce) hcv hcl T' rfl X'
    exact ⟨t2, st.trans a1, b1⟩
/-- caught by the row x of this method's table; the rows ahead don't take it -/
theorem vx_catch {own name : String} {E : String} {ce : Cell} {q : Addr} (hown : s.vm.findClass own = some m.cls) (pre : List ExceptionTableEntry) (x : ExceptionTableEntry) (suf : List ExceptionTableEntry) (hsplit : c.exceptionTable.toList = pre ++ x :: suf)
    (hpass : ∀ z ∈ pre, covers z pc = false ∨ (z.catchType ≠ 0 ∧ ∃ nm : String, (Cond.classLink own z.catchType nm).before args s = true ∧ va_Nc E nm s)) (hx : covers x pc = true) (h0 : x.catchType ≠ 0)
    (hlink : (Cond.classLink own x.catchType name).before args s = true) (hcast : (Cond.castable E name).before args s = true) (hcell : H[q]? = some ce) (hv : ce.vm = .none) (hcl : s.vm.findClass E = some ce.cls)
    (kk : W p l e R s m args below meth c H locs cells slots Q (F0 m x.handlerPc ls [.ref q])) : vx_W p l e R s m args below meth c H locs cells slots Q (F0 m pc ls rest) q := by
  intro T hT X
  have hpl : e.platform.magicAccessors = ({} : Platform).magicAccessors := by rw [X.admits.platform]
  obtain ⟨c3, c4, hc3, hc4, hasg⟩ := Cond.castable_spec hcast
  cases Option.some.inj (hc3.symm.trans hcl)
  obtain ⟨c5, hc5, hcl5⟩ := Cond.classLink_spec hown hlink e.platform hpl
  cases Option.some.inj (hc4.symm.trans hc5)
  obtain ⟨vm', X', st⟩ := X.thenCaughtThrough q (g := F0 m pc ls rest) rfl (Steps.refl _) (by rw [hT]; exact hcell) (by rw [hv]; rfl) (by obtain ⟨k9, h9, -⟩ := Vm.findClass_spec hcl; exact ⟨k9, h9⟩) pre x suf hsplit
    (fun z hz => by
      rcases hpass z hz with h | ⟨hz0, nm, hl1, hn1⟩
      · exact Or.inl h
      · obtain ⟨c6, hc6, hcl6⟩ := Cond.classLink_spec hown hl1 e.platform hpl
        obtain ⟨a8, b8, h1, h2, h3⟩ := hn1
        cases Option.some.inj (h1.symm.trans hcl)
        cases Option.some.inj (h2.symm.trans hc6)
        exact Or.inr ⟨hz0, _, hcl6, h3⟩) hx (Or.inr ⟨h0, c4, hcl5, hasg⟩)
  obtain ⟨t, a1, b1⟩ := kk (T.setVm vm') hT X'
  exact ⟨t, st.trans a1, b1⟩
end Rows
section Ends
variable {p : Program} {l : Launch} {e : Env} {R : Room} {s : State} {m : MethodId} {args : Array Value} {below : List Frame} {meth : Method} {c : Code} {H : Heap} {locs : List Loc} {cells slots : Nat} {Q : State → Prop}
variable {mc ms : Nat} {free : Addr → Prop} {A0 A1 : Nat → Prop} {H0 : Heap} {a : Array Value} {ls : Array Slot} {st0 rest : List Value}
variable {Qc : Array Value → State → Outcome → State → Prop} {XC : String → State → State → Prop}
/-- what a body that may throw owes at its end -/
def vx_MQ (below : List Frame) (Qc : Array Value → State → Outcome → State → Prop) (XC : String → State → State → Prop) (a : Array Value) (s : State) (mc ms : Nat) (free : Addr → Prop) : State → Prop := fun t =>
  ∃ o, t.status = .running ∧ Ended t below o ∧ vx_Q Qc XC mc ms free a s o t
theorem vx_ret {g : JFrame} {mc ms : Nat} (k : W p l e R s m args below meth c H locs cells slots (MQ below Qc args s mc ms free) g) : W p l e R s m args below meth c H locs cells slots (vx_MQ below Qc XC args s mc ms free) g := by
  intro T hT X
  obtain ⟨t, a1, o, b1, b2, b3, b4⟩ := k T hT X
  exact ⟨t, a1, o, b1, b2, Or.inl ⟨b3, b4⟩⟩
/-- not caught here: it goes on to the caller -/
theorem vx_widen {g : JFrame} {q : Addr} {k n : Nat} (h1 : cells ≤ k) (h2 : slots ≤ n) (kk : vx_W p l e R s m args below meth c H locs k n Q g q) : vx_W p l e R s m args below meth c H locs cells slots Q g q := fun T hT X => kk T hT (stand_widen X h1 h2)
theorem vx_out {pc : Nat} {E : String} {ce : Cell} {q : Addr} {mc ms : Nat} (hout : ∀ x ∈ c.exceptionTable.toList, covers x pc = false) (hlocks : meth.locks = false) (hcell : H[q]? = some ce) (hv : ce.vm = .none) (hcl : s.vm.findClass E = some ce.cls)
    (hx : ∀ t : State, t.heap = H → s.vm.Alike t.vm → XC E s t) (hf : ∀ z ∈ locs, free z.base) (hc : cells ≤ mc) (hs : slots ≤ ms) :
    vx_W p l e R s m args below meth c H locs cells slots (vx_MQ below Qc XC args s mc ms free) (F0 m pc ls rest) q := by
  intro T hT X
  obtain ⟨st1, hrun, hend, hW, hsm⟩ := X.leaveThrown q (g := F0 m pc ls rest) rfl rfl rfl hout hlocks
  have hcell9 : (T.setFrames (.throwing q :: below)).heap[q]? = some ce := by
    show T.heap[q]? = some ce
    rw [hT]; exact hcell
  exact ⟨_, st1, .threw q, hrun, hend, Or.inr ⟨q, rfl, E, ce, locs, hx _ hT hW.alike, hcell9, hv, hcl, hW, hsm.mono hc hs, hf⟩⟩
theorem vx_frame {U : State} {k n : Nat} (h : s.sameButNew ({ U with vm := s.vm } : State) locs k n) : s.heap.size ≤ U.heap.size ∧ ∀ q : Nat, q < s.heap.size → (∀ z ∈ locs, z.base ≠ q) → U.heap[q]? = s.heap[q]? := by
  obtain ⟨-, h2, -, -, -, h6⟩ := h
  refine ⟨h2, fun q hq hz => ?_⟩
  obtain ⟨c9, e1, e2, e3, e4⟩ := h6 q _ (Array.getElem?_eq_getElem hq)
  have hs : c9.slots = (s.heap[q]).slots := Array.ext_getElem? fun i => e4 i fun hm => hz _ hm rfl
  have h9 : c9 = s.heap[q] := by
    rw [hs] at e2
    exact e2
  have e5 : U.heap[q]? = some c9 := e1
  rw [e5, h9, Array.getElem?_eq_getElem hq]
/-- the words of a throw but the four that speak of the heap -/
def vx_no (w : Cond) : Bool := decide (w ≠ .isRef (.static Bundle.tN "UNASSIGNED_STACK" Bundle.steD)) && decide (w ≠ .isRef (.static Bundle.tN "SUPPRESSED_SENTINEL" Bundle.listD)) && decide (w ≠ .laysStatic Bundle.tN "UNASSIGNED_STACK" Bundle.steD) && decide (w ≠ .laysStatic Bundle.tN "SUPPRESSED_SENTINEL" Bundle.listD)
def vx_at0 (own : String) (ic : Nat) (X : String) (names : List String) : List Cond := (Bundle.ownAtoms0 own ic X names).filter vx_no
def vx_atS (own : String) (ic : Nat) (X : String) (names : List String) : List Cond := (Bundle.ownAtoms own ic X names).filter vx_no
/-- a word that the tables alone decide, or a good one -/
def vx_ot (w : Cond) : Bool := w.onTables || goodWord w
theorem vx_ot_at {args a' : Array Value} {s U : State} {w : Cond} (hW : s.WarmedH U.vm) (hvm : s.vm = U.vm) (hg : vx_ot w = true) (h : w.before args s = true) : w.before a' U = true := by
  simp only [vx_ot, Bool.or_eq_true] at hg
  rcases hg with hg | hg
  · exact va_tabs hg hvm h
  · exact word_at hW (good_of_word hg) h
/-- a list's words: the good ones out of the method's own list, the others by premises of their own -/
theorem vx_hat {args : Array Value} {s : State} {L B : List Cond} (h1 : ∀ w ∈ L.filter goodWord, w.before args s = true) (h2 : ∀ w ∈ L.filter (fun w => !goodWord w), w ∈ B) (h3 : ∀ w ∈ B, w.before args s = true) : ∀ w ∈ L, w.before args s = true := by
  intro w hw
  by_cases g : goodWord w = true
  · exact h1 w (List.mem_filter.mpr ⟨hw, g⟩)
  · refine h3 w (h2 w (List.mem_filter.mpr ⟨hw, ?_⟩))
    show (!goodWord w) = true
    cases hgw : goodWord w
    · rfl
    · exact absurd hgw g
theorem vx_c {args : Array Value} {s : State} {w : Cond} {B : List Cond} (h : w.before args s = true) (t : ∀ w ∈ B, w.before args s = true) : ∀ w' ∈ w :: B, w'.before args s = true := fun w' h' => (List.mem_cons.mp h').elim (fun e => by rw [e]; exact h) (t w')
theorem vx_n {args : Array Value} {s : State} : ∀ w ∈ ([] : List Cond), w.before args s = true := fun _ h => nomatch h
theorem vx_own {args : Array Value} {s : State} {L : List Cond} (h1 : ∀ w ∈ L.filter vx_no, w.before args s = true)
    (hU : (Cond.isRef (.static Bundle.tN "UNASSIGNED_STACK" Bundle.steD)).before args s = true) (hN : (Cond.isRef (.static Bundle.tN "SUPPRESSED_SENTINEL" Bundle.listD)).before args s = true)
    (lU : (Cond.laysStatic Bundle.tN "UNASSIGNED_STACK" Bundle.steD).before args s = true) (lN : (Cond.laysStatic Bundle.tN "SUPPRESSED_SENTINEL" Bundle.listD).before args s = true) : ∀ w ∈ L, w.before args s = true := by
  intro w hw
  by_cases e1 : w = .isRef (.static Bundle.tN "UNASSIGNED_STACK" Bundle.steD)
  · rw [e1]; exact hU
  · by_cases e2 : w = .isRef (.static Bundle.tN "SUPPRESSED_SENTINEL" Bundle.listD)
    · rw [e2]; exact hN
    · by_cases e3 : w = .laysStatic Bundle.tN "UNASSIGNED_STACK" Bundle.steD
      · rw [e3]; exact lU
      · by_cases e4 : w = .laysStatic Bundle.tN "SUPPRESSED_SENTINEL" Bundle.listD
        · rw [e4]; exact lN
        · exact h1 w (List.mem_filter.mpr ⟨hw, by unfold vx_no; rw [decide_eq_true e1, decide_eq_true e2, decide_eq_true e3, decide_eq_true e4]; rfl⟩)
/-- where a static field lies, its class's statics cell in H -/
def vx_L (C n d : String) (A : Nat → Prop) (U : State) (H : Heap) : Prop := ∃ (c : ClassId) (k : Class) (i : Nat) (f : Field) (a : Nat) (cell : Cell), U.vm.findClass C = some c ∧ U.fieldFound? C n d = some (c, k, i, f) ∧ f.isStatic = true ∧ k.statics = some a ∧ H[a]? = some cell ∧ cell.vm.isStatics = true ∧ cell.cls = c ∧ f.slot < cell.slots.size ∧ k.staticTypes[f.slot]? = some f.type ∧ ¬ A a
theorem vx_L.moved {C n d : String} {A : Nat → Prop} {u U : State} {H : Heap} (hvm : u.vm.Alike U.vm) (h : vx_L C n d A u H) : vx_L C n d A U H := by
  obtain ⟨c, k, i, f, a, cell, h1, h2, h3, h4, h5, h6, h7, h8, h9, h10⟩ := h
  obtain ⟨k', hi', he⟩ := State.fieldFound?_setVm hvm h2
  exact ⟨c, k', i, f, a, cell, by rw [hvm.findClass]; exact h1, hi', h3, by rw [he]; exact h4, h5, h6, h7, h8, by rw [he]; exact h9, h10⟩
theorem vx_L.kept {C n d : String} {A : Nat → Prop} {U : State} {H H1 : Heap} (h : vx_L C n d A U H) (hq : ∀ a : Nat, a < H.size → ¬ A a → H1[a]? = H[a]?) : vx_L C n d A U H1 := by
  obtain ⟨c, k, i, f, a, cell, h1, h2, h3, h4, h5, h6, h7, h8, h9, h10⟩ := h
  exact ⟨c, k, i, f, a, cell, h1, h2, h3, h4, by rw [hq a (Array.getElem?_eq_some_iff.mp h5).1 h10]; exact h5, h6, h7, h8, h9, h10⟩
theorem vx_L.narrow {C n d : String} {A B : Nat → Prop} {U : State} {H : Heap} (h : vx_L C n d A U H) (hAB : ∀ q, B q → A q) : vx_L C n d B U H := by
  obtain ⟨c, k, i, f, a, cell, h1, h2, h3, h4, h5, h6, h7, h8, h9, h10⟩ := h
  exact ⟨c, k, i, f, a, cell, h1, h2, h3, h4, h5, h6, h7, h8, h9, fun z => h10 (hAB _ z)⟩
theorem vx_L.word {C n d : String} {A : Nat → Prop} {s : State} {args : Array Value} (h : vx_L C n d A s s.heap) : (Cond.laysStatic C n d).before args s = true := by
  obtain ⟨c, k, i, f, a, cell, h1, h2, h3, h4, h5, h6, h7, h8, h9, -⟩ := h
  show (Cond.laysStatic C n d).holds args s none s [] = true
  exact Cond.laysStatic_of h1 h2 h3 h4 h5 h6 h7 h8 h9
/-- .. and what it holds: null or some reference -/
def vx_Zq (C n d : String) (A : Nat → Prop) (U : State) (H : Heap) : Prop := va_Zq C n d A U H ∧ vx_L C n d A U H
theorem vx_Zq.moved {C n d : String} {A : Nat → Prop} {u U : State} {H : Heap} (hvm : u.vm.Alike U.vm) (h : vx_Zq C n d A u H) : vx_Zq C n d A U H := ⟨va_Zq.moved hvm h.1, vx_L.moved hvm h.2⟩
theorem vx_Zq.kept {C n d : String} {A : Nat → Prop} {U : State} {H H1 : Heap} (h : vx_Zq C n d A U H) (hq : ∀ a : Nat, a < H.size → ¬ A a → H1[a]? = H[a]?) : vx_Zq C n d A U H1 := ⟨va_Zq.kept h.1 hq, vx_L.kept h.2 hq⟩
theorem vx_Zq.narrow {C n d : String} {A B : Nat → Prop} {U : State} {H : Heap} (h : vx_Zq C n d A U H) (hAB : ∀ q, B q → A q) : vx_Zq C n d B U H := ⟨va_Zq.narrow h.1 hAB, vx_L.narrow h.2 hAB⟩
theorem vx_Zqof {args : Array Value} {s : State} {C n d : String} {A : Nat → Prop} (hl : (Cond.laysStatic C n d).before args s = true) (hini : (Cond.initialized C).before args s = true) (h : (Cond.isRef (.static C n d)).before args s = true) (hA : ∀ a : Nat, a < s.heap.size → ¬ A a) : vx_Zq C n d A s s.heap := by
  refine ⟨va_Zqof hl hini h hA, ?_⟩
  obtain ⟨c, k, i, f, a, cell, h1, h2, h3, h4, h5, h6, h7, h8, h9⟩ := Cond.laysStatic_spec hl
  exact ⟨c, k, i, f, a, cell, h1, h2, h3, h4, h5, h6, h7, h8, h9, hA a (Array.getElem?_eq_some_iff.mp h5).1⟩
theorem vx_isRef {C n d : String} {v : Value} {A : Nat → Prop} {s : State} {args : Array Value} (h : va_Z C n d v A s s.heap) (hv : v.isRef = true) : (Cond.isRef (.static C n d)).before args s = true := by
  obtain ⟨cf, kf, fi, f, a, cell, h1, h2, h3, h4, h5, h6, h7, -⟩ := h
  have he : (Term.static C n d).eval args s none [] s = some v := by
    simp [Term.eval, State.fieldNamed?, h1, h2, h4, h5, h6, h7]
  simp only [Cond.before, Cond.holds, Cond.value, he]
  cases v <;> simp_all [Value.isRef]
theorem vx_isRefq {C n d : String} {A : Nat → Prop} {s : State} {args : Array Value} (h : va_Zq C n d A s s.heap) : (Cond.isRef (.static C n d)).before args s = true := by
  rcases h with h | ⟨t, h⟩
  · exact vx_isRef h rfl
  · exact vx_isRef h rfl
/-- the same frame, seen from here: as if the method were called anew in this heap -/
theorem vx_rebase {T : State} (X : Stand p l e R s m args below meth c T locs cells slots) {R' : Room} (hf : R'.frames ≤ R.frames) (hl : R'.locals ≤ R.locals) (hc : cells + R'.cells ≤ R.cells) (hs : slots + R'.slots ≤ R.slots) :
    Stand p l e R' ((T.setVm s.vm).setFrames (.invoking m args :: below)) m args below meth c T [] 0 0 := by
  have htop : (T.setVm s.vm).topJava?.isSome := X.here.top
  have hF : ((T.setVm s.vm).setFrames (.invoking m args :: below)).frames = .invoking m args :: below := State.frames_setFrames _ (State.cur_lt_of_top htop)
  obtain ⟨g₀, hg0⟩ := Option.isSome_iff_exists.mp htop
  obtain ⟨r, hr⟩ := State.topJava?_eq_some.mp hg0
  have hl9 : e.platform.stackLimits (T.setVm s.vm).me = e.platform.stackLimits s.me := X.limits
  have hb9 : (T.setVm s.vm).me.stackBytes = s.me.stackBytes := X.bytes
  refine ⟨X.admits, X.cas, X.clock, hF, ?_, X.hears, X.method, X.code, X.here, X.tail, X.warmed, ?_, ?_, ?_⟩
  · have h := X.room
    have hU : ((T.setVm s.vm).setFrames (.invoking m args :: below)).localsInUse = s.localsInUse := by
      rw [State.localsInUse_invoking hF (meth := meth) (c := c) X.method X.code, State.localsInUse_invoking X.frames X.method X.code]
    simp only [State.hasRoom, Bool.and_eq_true, decide_eq_true_eq] at h ⊢
    obtain ⟨⟨⟨⟨h1, h2, h3, h4, h5, h6⟩, h7⟩, h8⟩, h9⟩ := h
    rw [X.frames, List.length_cons] at h2 h3
    have q1 := X.heapSize
    have q2 := X.used
    simp only [hF, hU, List.length_cons, State.stackLimits_setFrames, State.stackBytes_setFrames, hl9, hb9]
    refine ⟨⟨⟨⟨by omega, by omega, by omega, by omega, by omega, h6⟩, ?_⟩, ?_⟩, X.book⟩
    · show T.heap.size + R'.cells ≤ e.platform.maxCells
      omega
    · show T.slotsUsed + R'.slots ≤ e.platform.maxSlots
      omega
  · rw [State.stackLimits_setFrames]; rfl
  · rw [State.stackBytes_setFrames]; rfl
  · refine ⟨?_, Nat.le_refl _, Nat.le_refl _, ?_, ?_, fun a c9 h9 => ⟨c9, h9, rfl, rfl, fun _ _ => rfl⟩⟩
    · obtain ⟨t, ht, -⟩ := State.frames_cons hr
      show T.setVm s.vm = { ((T.setVm s.vm).setFrames (.invoking m args :: below)).setFrames (T.setVm s.vm).frames with heap := T.heap, slotsUsed := T.slotsUsed }
      rw [State.setFrames_setFrames, State.setFrames_self ht]
      rfl
    · show T.slotsUsed = T.slotsUsed + ((T.heap.toList.drop T.heap.size).map (·.slots.size)).sum
      rw [List.drop_eq_nil_of_le (Nat.le_of_eq Array.length_toList)]
      rfl
    · show ((T.heap.toList.drop T.heap.size).map (·.slots.size)).sum ≤ 0
      rw [List.drop_eq_nil_of_le (Nat.le_of_eq Array.length_toList)]
      exact Nat.le_refl _
/-- 'throw new E()': new; dup; invokespecial; athrow -/
theorem vx_throw0 {cc : ByteArray} {pc : Nat} (hexec : p.tables.exec = Jvm.exec) (hb : c.code = cc) (hl : l.stackTraces = false) {own cls : String} {names : List String} {ik ic mc ms : Nat} {A : Nat → Prop}
    (hown : s.vm.findClass own = some m.cls) (hcls : Bundle.fit cls = true) (hnames : ∀ n ∈ names, Bundle.fit n = true)
    (hk : (Cond.classLink own ik cls).before args s = true) (hini : (Cond.initialized cls).before args s = true) (hat : ∀ w ∈ vx_at0 own ic cls names, w.before args s = true)
    (hgood : ∀ w ∈ Cond.classLink own ik cls :: Cond.initialized cls :: vx_at0 own ic cls names, vx_ot w = true)
    (hU : vx_Zq Bundle.tN "UNASSIGNED_STACK" Bundle.steD A s s.heap) (hN : vx_Zq Bundle.tN "SUPPRESSED_SENTINEL" Bundle.listD A s s.heap) (hS : va_S A s.heap H locs) (hsize : ls.size = c.maxLocals)
    (d0 : decode cc pc = .ok (.new ik, 3)) (d3 : decode cc (pc + 3) = .ok (.dup, 1)) (d4 : decode cc (pc + 4) = .ok (.invokespecial ic, 3)) (d7 : decode cc (pc + 7) = .ok (.athrow, 1))
    (hout : ∀ x ∈ c.exceptionTable.toList, covers x (pc + 7) = false)
    (hRframes : names.length + 3 < R.frames) (hRlocals : (rest.map fun v => v.category).sum + (13 * (names.length + 1) + 42) ≤ R.locals) (hRcells : cells + 1 ≤ R.cells) (hRslots : slots + 6 ≤ R.slots) (hlocks : meth.locks = false)
    (hx : ∀ t : State, s.vm.Alike t.vm → H.size ≤ t.heap.size → (∀ q : Nat, q < H.size → t.heap[q]? = H[q]?) → XC cls s t)
    (hf : ∀ z ∈ locs, free z.base) (hc : cells + 1 ≤ mc) (hs : slots + 6 ≤ ms) :
    W p l e R s m args below meth c H locs cells slots (vx_MQ below Qc XC args s mc ms free) (F0 m pc ls rest) := by
  intro T hT X
  have htr : e.platform.stackTraces = false := (show e.platform.stackTraces = l.stackTraces by rw [X.admits.platform]).trans hl
  have Y := vx_rebase X (R' := { frames := R.frames, locals := R.locals, cells := 1, slots := 6 }) (Nat.le_refl _) (Nat.le_refl _) hRcells hRslots
  obtain ⟨s', hA⟩ : ∃ z, z = (T.setVm s.vm).setFrames (.invoking m args :: below) := ⟨_, rfl⟩
  rw [← hA] at Y
  have hvm : s'.vm = s.vm := by rw [hA]; rfl
  have hhp : s'.heap = H := by rw [hA]; exact hT
  have hW0 : s.WarmedH s'.vm := by rw [hvm]; exact State.WarmedH.refl s
  have hat' : ∀ w ∈ vx_at0 own ic cls names, w.before args s' = true := fun w hw => vx_ot_at hW0 hvm.symm (hgood w (List.mem_cons_of_mem _ (List.mem_cons_of_mem _ hw))) (hat w hw)
  have hk' : (Cond.classLink own ik cls).before args s' = true := vx_ot_at hW0 hvm.symm (hgood _ List.mem_cons_self) hk
  have hini' : (Cond.initialized cls).before args s' = true := vx_ot_at hW0 hvm.symm (hgood _ (List.mem_cons_of_mem _ List.mem_cons_self)) hini
  have hU' : vx_Zq Bundle.tN "UNASSIGNED_STACK" Bundle.steD A s' s'.heap := by rw [hhp]; exact vx_Zq.moved hW0.alike (hU.kept hS.2.1)
  have hN' : vx_Zq Bundle.tN "SUPPRESSED_SENTINEL" Bundle.listD A s' s'.heap := by rw [hhp]; exact vx_Zq.moved hW0.alike (hN.kept hS.2.1)
  have h : ∀ w ∈ Bundle.ownAtoms0 own ic cls names, w.before args s' = true := vx_own hat' (vx_isRefq hU'.1) (vx_isRefq hN'.1) hU'.2.word hN'.2.word
  have hown' : s'.vm.findClass own = some m.cls := by rw [hvm]; exact hown
  have hins : (Cond.instantiable cls 6).before args s' = true := h _ (by simp [Bundle.ownAtoms0])
  obtain ⟨vm₁, cX, kX, hfX, hkX, -, -, X₁, st1⟩ := Y.newCold hexec (own := own) (C := cls) (index := ik) (n := 6) hown' hk' hins hini'
    (g := F0 m pc ls rest) rfl (by rw [hb]; exact d0) (Nat.le_refl _) (Nat.le_refl _)
  generalize hT1 : (T.setVm vm₁).pushCell { cls := cX, slots := kX.instanceTypes.map defaultValue, vm := .none } = T1 at X₁ st1
  have hcat : (Value.ref T.heap.size).category = 1 := rfl
  have hcellA : T1.heap[T.heap.size]? = some (freshCell cX kX) := by rw [← hT1]; exact State.heap_pushCell_size _ _
  have d3' : decode c.code (pc + 3) = .ok (.dup, 1) := by rw [hb]; exact d3
  obtain ⟨U, hsteps, hrun, hend, hW, hsame, ce, hce, hO⟩ := X₁.ctorThrow0 hexec htr (own := own) (cls := cls) (names := names) (ic := ic) hown' hcls hnames h (fun x hx => nomatch hx) hfX hkX hcellA (by rw [hhp, hT]; exact Nat.le_refl _)
    (g := { method := m, pc := pc + 4, locals := ls, stack := .ref T.heap.size :: .ref T.heap.size :: rest, locked := none }) rfl hsize rfl rfl (rest := rest) rfl
    (by rw [hb]; exact d4) (by rw [hb]; exact d7) hout hRframes (by simp only [List.map_cons, List.sum_cons, hcat]; omega) hlocks
  obtain ⟨f1, f2⟩ := vx_frame hsame
  rw [hhp] at f1 f2
  have hWs : s.WarmedH U.vm := State.WarmedH.trans hW0 hW
  have hcl : s.vm.findClass cls = some ce.cls := by
    have h9 := hO.cls
    rw [hvm] at h9
    exact h9
  have hall : s.sameButNew ({ U with vm := s.vm } : State) locs mc ms := by
    subst hA
    obtain ⟨e1, e2⟩ := hsame
    rw [State.setFrames_setFrames] at e1
    have h2 : (T.setVm s.vm).sameButNew ({ U with vm := s.vm } : State) [] (0 + 1) (0 + 6) := ⟨e1, e2⟩
    have h3 := X.same.trans h2
    rw [List.append_nil] at h3
    exact h3.mono hc hs
  refine ⟨U, ?_, .threw T.heap.size, hrun, hend, Or.inr ⟨T.heap.size, rfl, cls, ce, locs, hx U hWs.alike f1 (fun q hq => f2 q hq (fun z hz => nomatch hz)), hce, hO.vm, hcl, hWs, hall, hf⟩⟩
  refine st1 _ ?_
  show Steps p.tables e below (T1.setTop { method := m, pc := pc + 3, locals := ls, stack := .ref T.heap.size :: rest, locked := none }) _
  jvm_step X₁.here [X₁.here.top, hexec, d3', Value.category]
  exact hsteps
/-- 'throw new E("text")': new; dup; ldc; invokespecial; athrow -/
theorem vx_throwS {cc : ByteArray} {pc : Nat} (hexec : p.tables.exec = Jvm.exec) (hb : c.code = cc) (hl : l.stackTraces = false) {own cls text : String} {names : List String} {ik is ic mc ms sa : Nat} {A : Nat → Prop}
    (hown : s.vm.findClass own = some m.cls) (hcls : Bundle.fit cls = true) (hnames : ∀ n ∈ names, Bundle.fit n = true)
    (hk : (Cond.classLink own ik cls).before args s = true) (hini : (Cond.initialized cls).before args s = true) (hstr : vk_R own is text sa s) (hat : ∀ w ∈ vx_atS own ic cls names, w.before args s = true)
    (hgood : ∀ w ∈ Cond.classLink own ik cls :: Cond.initialized cls :: vx_atS own ic cls names, vx_ot w = true)
    (hU : vx_Zq Bundle.tN "UNASSIGNED_STACK" Bundle.steD A s s.heap) (hN : vx_Zq Bundle.tN "SUPPRESSED_SENTINEL" Bundle.listD A s s.heap) (hS : va_S A s.heap H locs) (hsize : ls.size = c.maxLocals)
    (d0 : decode cc pc = .ok (.new ik, 3)) (d3 : decode cc (pc + 3) = .ok (.dup, 1)) (d4 : decode cc (pc + 4) = .ok (.ldc is, 2)) (d6 : decode cc (pc + 6) = .ok (.invokespecial ic, 3)) (d9 : decode cc (pc + 9) = .ok (.athrow, 1))
    (hout : ∀ x ∈ c.exceptionTable.toList, covers x (pc + 9) = false)
    (hRframes : names.length + 3 < R.frames) (hRlocals : (rest.map fun v => v.category).sum + (13 * (names.length + 1) + 43) ≤ R.locals) (hRcells : cells + 1 ≤ R.cells) (hRslots : slots + 6 ≤ R.slots) (hlocks : meth.locks = false)
    (hx : ∀ t : State, s.vm.Alike t.vm → H.size ≤ t.heap.size → (∀ q : Nat, q < H.size → t.heap[q]? = H[q]?) → XC cls s t)
    (hf : ∀ z ∈ locs, free z.base) (hc : cells + 1 ≤ mc) (hs : slots + 6 ≤ ms) :
    W p l e R s m args below meth c H locs cells slots (vx_MQ below Qc XC args s mc ms free) (F0 m pc ls rest) := by
  intro T hT X
  have htr : e.platform.stackTraces = false := (show e.platform.stackTraces = l.stackTraces by rw [X.admits.platform]).trans hl
  have Y := vx_rebase X (R' := { frames := R.frames, locals := R.locals, cells := 1, slots := 6 }) (Nat.le_refl _) (Nat.le_refl _) hRcells hRslots
  obtain ⟨s', hA⟩ : ∃ z, z = (T.setVm s.vm).setFrames (.invoking m args :: below) := ⟨_, rfl⟩
  rw [← hA] at Y
  have hvm : s'.vm = s.vm := by rw [hA]; rfl
  have hhp : s'.heap = H := by rw [hA]; exact hT
  have hW0 : s.WarmedH s'.vm := by rw [hvm]; exact State.WarmedH.refl s
  have hat' : ∀ w ∈ vx_atS own ic cls names, w.before args s' = true := fun w hw => vx_ot_at hW0 hvm.symm (hgood w (List.mem_cons_of_mem _ (List.mem_cons_of_mem _ hw))) (hat w hw)
  have hk' : (Cond.classLink own ik cls).before args s' = true := vx_ot_at hW0 hvm.symm (hgood _ List.mem_cons_self) hk
  have hini' : (Cond.initialized cls).before args s' = true := vx_ot_at hW0 hvm.symm (hgood _ (List.mem_cons_of_mem _ List.mem_cons_self)) hini
  have hU' : vx_Zq Bundle.tN "UNASSIGNED_STACK" Bundle.steD A s' s'.heap := by rw [hhp]; exact vx_Zq.moved hW0.alike (hU.kept hS.2.1)
  have hN' : vx_Zq Bundle.tN "SUPPRESSED_SENTINEL" Bundle.listD A s' s'.heap := by rw [hhp]; exact vx_Zq.moved hW0.alike (hN.kept hS.2.1)
  have h : ∀ w ∈ Bundle.ownAtoms own ic cls names, w.before args s' = true := vx_own hat' (vx_isRefq hU'.1) (vx_isRefq hN'.1) hU'.2.word hN'.2.word
  have hown' : s'.vm.findClass own = some m.cls := by rw [hvm]; exact hown
  have hins : (Cond.instantiable cls 6).before args s' = true := h _ (by simp [Bundle.ownAtoms])
  obtain ⟨vm₁, cX, kX, hfX, hkX, -, -, X₁, st1⟩ := Y.newCold hexec (own := own) (C := cls) (index := ik) (n := 6) hown' hk' hins hini'
    (g := F0 m pc ls rest) rfl (by rw [hb]; exact d0) (Nat.le_refl _) (Nat.le_refl _)
  generalize hT1 : (T.setVm vm₁).pushCell { cls := cX, slots := kX.instanceTypes.map defaultValue, vm := .none } = T1 at X₁ st1
  have hcat : (Value.ref T.heap.size).category = 1 := rfl
  have hcellA : T1.heap[T.heap.size]? = some (freshCell cX kX) := by rw [← hT1]; exact State.heap_pushCell_size _ _
  have d3' : decode c.code (pc + 3) = .ok (.dup, 1) := by rw [hb]; exact d3
  have d4' : decode c.code (pc + 4) = .ok (.ldc is, 2) := by rw [hb]; exact d4
  have hstr' : vk_R own is text sa s' := vk_R.warm hW0 hstr
  obtain ⟨U, hsteps, hrun, hend, hW, hsame, ce, hce, hO⟩ := X₁.ctorThrowS hexec htr (own := own) (cls := cls) (names := names) (ic := ic) hown' hcls hnames h (fun x hx => nomatch hx) hfX hkX hcellA (by rw [hhp, hT]; exact Nat.le_refl _) (msg := .ref sa) rfl
    (g := { method := m, pc := pc + 6, locals := ls, stack := .ref sa :: .ref T.heap.size :: .ref T.heap.size :: rest, locked := none }) rfl hsize rfl rfl (rest := rest) rfl
    (by rw [hb]; exact d6) (by rw [hb]; exact d9) hout hRframes (by simp only [List.map_cons, List.sum_cons, hcat]; omega) hlocks
  obtain ⟨f1, f2⟩ := vx_frame hsame
  rw [hhp] at f1 f2
  have hWs : s.WarmedH U.vm := State.WarmedH.trans hW0 hW
  have hcl : s.vm.findClass cls = some ce.cls := by
    have h9 := hO.cls
    rw [hvm] at h9
    exact h9
  have hall : s.sameButNew ({ U with vm := s.vm } : State) locs mc ms := by
    subst hA
    obtain ⟨e1, e2⟩ := hsame
    rw [State.setFrames_setFrames] at e1
    have h2 : (T.setVm s.vm).sameButNew ({ U with vm := s.vm } : State) [] (0 + 1) (0 + 6) := ⟨e1, e2⟩
    have h3 := X.same.trans h2
    rw [List.append_nil] at h3
    exact h3.mono hc hs
  refine ⟨U, ?_, .threw T.heap.size, hrun, hend, Or.inr ⟨T.heap.size, rfl, cls, ce, locs, hx U hWs.alike f1 (fun q hq => f2 q hq (fun z hz => nomatch hz)), hce, hO.vm, hcl, hWs, hall, hf⟩⟩
  refine st1 _ ?_
  show Steps p.tables e below (T1.setTop { method := m, pc := pc + 3, locals := ls, stack := .ref T.heap.size :: rest, locked := none }) _
  jvm_step X₁.here [X₁.here.top, hexec, d3', Value.category]
  exact X₁.ldcString hexec (own := own) (text := text) (index := is) (a := sa) hown' hstr'.1 hstr'.2
    (g := { method := m, pc := pc + 4, locals := ls, stack := .ref T.heap.size :: .ref T.heap.size :: rest, locked := none }) rfl d4' _ hsteps
/-- 'throw new E("text")', the text by a wide index -/
theorem vx_throwSW {cc : ByteArray} {pc : Nat} (hexec : p.tables.exec = Jvm.exec) (hb : c.code = cc) (hl : l.stackTraces = false) {own cls text : String} {names : List String} {ik is ic mc ms sa : Nat} {A : Nat → Prop}
    (hown : s.vm.findClass own = some m.cls) (hcls : Bundle.fit cls = true) (hnames : ∀ n ∈ names, Bundle.fit n = true)
    (hk : (Cond.classLink own ik cls).before args s = true) (hini : (Cond.initialized cls).before args s = true) (hstr : vk_R own is text sa s) (hat : ∀ w ∈ vx_atS own ic cls names, w.before args s = true)
    (hgood : ∀ w ∈ Cond.classLink own ik cls :: Cond.initialized cls :: vx_atS own ic cls names, vx_ot w = true)
    (hU : vx_Zq Bundle.tN "UNASSIGNED_STACK" Bundle.steD A s s.heap) (hN : vx_Zq Bundle.tN "SUPPRESSED_SENTINEL" Bundle.listD A s s.heap) (hS : va_S A s.heap H locs) (hsize : ls.size = c.maxLocals)
    (d0 : decode cc pc = .ok (.new ik, 3)) (d3 : decode cc (pc + 3) = .ok (.dup, 1)) (d4 : decode cc (pc + 4) = .ok (.ldc_w is, 3)) (d7 : decode cc (pc + 7) = .ok (.invokespecial ic, 3)) (d10 : decode cc (pc + 10) = .ok (.athrow, 1))
    (hout : ∀ x ∈ c.exceptionTable.toList, covers x (pc + 10) = false)
    (hRframes : names.length + 3 < R.frames) (hRlocals : (rest.map fun v => v.category).sum + (13 * (names.length + 1) + 43) ≤ R.locals) (hRcells : cells + 1 ≤ R.cells) (hRslots : slots + 6 ≤ R.slots) (hlocks : meth.locks = false)
    (hx : ∀ t : State, s.vm.Alike t.vm → H.size ≤ t.heap.size → (∀ q : Nat, q < H.size → t.heap[q]? = H[q]?) → XC cls s t)
    (hf : ∀ z ∈ locs, free z.base) (hc : cells + 1 ≤ mc) (hs : slots + 6 ≤ ms) :
    W p l e R s m args below meth c H locs cells slots (vx_MQ below Qc XC args s mc ms free) (F0 m pc ls rest) := by
  intro T hT X
  have htr : e.platform.stackTraces = false := (show e.platform.stackTraces = l.stackTraces by rw [X.admits.platform]).trans hl
  have Y := vx_rebase X (R' := { frames := R.frames, locals := R.locals, cells := 1, slots := 6 }) (Nat.le_refl _) (Nat.le_refl _) hRcells hRslots
  obtain ⟨s', hA⟩ : ∃ z, z = (T.setVm s.vm).setFrames (.invoking m args :: below) := ⟨_, rfl⟩
  rw [← hA] at Y
  have hvm : s'.vm = s.vm := by rw [hA]; rfl
  have hhp : s'.heap = H := by rw [hA]; exact hT
  have hW0 : s.WarmedH s'.vm := by rw [hvm]; exact State.WarmedH.refl s
  have hat' : ∀ w ∈ vx_atS own ic cls names, w.before args s' = true := fun w hw => vx_ot_at hW0 hvm.symm (hgood w (List.mem_cons_of_mem _ (List.mem_cons_of_mem _ hw))) (hat w hw)
  have hk' : (Cond.classLink own ik cls).before args s' = true := vx_ot_at hW0 hvm.symm (hgood _ List.mem_cons_self) hk
  have hini' : (Cond.initialized cls).before args s' = true := vx_ot_at hW0 hvm.symm (hgood _ (List.mem_cons_of_mem _ List.mem_cons_self)) hini
  have hU' : vx_Zq Bundle.tN "UNASSIGNED_STACK" Bundle.steD A s' s'.heap := by rw [hhp]; exact vx_Zq.moved hW0.alike (hU.kept hS.2.1)
  have hN' : vx_Zq Bundle.tN "SUPPRESSED_SENTINEL" Bundle.listD A s' s'.heap := by rw [hhp]; exact vx_Zq.moved hW0.alike (hN.kept hS.2.1)
  have h : ∀ w ∈ Bundle.ownAtoms own ic cls names, w.before args s' = true := vx_own hat' (vx_isRefq hU'.1) (vx_isRefq hN'.1) hU'.2.word hN'.2.word
  have hown' : s'.vm.findClass own = some m.cls := by rw [hvm]; exact hown
  have hins : (Cond.instantiable cls 6).before args s' = true := h _ (by simp [Bundle.ownAtoms])
  obtain ⟨vm₁, cX, kX, hfX, hkX, -, -, X₁, st1⟩ := Y.newCold hexec (own := own) (C := cls) (index := ik) (n := 6) hown' hk' hins hini'
    (g := F0 m pc ls rest) rfl (by rw [hb]; exact d0) (Nat.le_refl _) (Nat.le_refl _)
  generalize hT1 : (T.setVm vm₁).pushCell { cls := cX, slots := kX.instanceTypes.map defaultValue, vm := .none } = T1 at X₁ st1
  have hcat : (Value.ref T.heap.size).category = 1 := rfl
  have hcellA : T1.heap[T.heap.size]? = some (freshCell cX kX) := by rw [← hT1]; exact State.heap_pushCell_size _ _
  have d3' : decode c.code (pc + 3) = .ok (.dup, 1) := by rw [hb]; exact d3
  have d4' : decode c.code (pc + 4) = .ok (.ldc_w is, 3) := by rw [hb]; exact d4
  have hstr' : vk_R own is text sa s' := vk_R.warm hW0 hstr
  obtain ⟨U, hsteps, hrun, hend, hW, hsame, ce, hce, hO⟩ := X₁.ctorThrowS hexec htr (own := own) (cls := cls) (names := names) (ic := ic) hown' hcls hnames h (fun x hx => nomatch hx) hfX hkX hcellA (by rw [hhp, hT]; exact Nat.le_refl _) (msg := .ref sa) rfl
    (g := { method := m, pc := pc + 7, locals := ls, stack := .ref sa :: .ref T.heap.size :: .ref T.heap.size :: rest, locked := none }) rfl hsize rfl rfl (rest := rest) rfl
    (by rw [hb]; exact d7) (by rw [hb]; exact d10) hout hRframes (by simp only [List.map_cons, List.sum_cons, hcat]; omega) hlocks
  obtain ⟨f1, f2⟩ := vx_frame hsame
  rw [hhp] at f1 f2
  have hWs : s.WarmedH U.vm := State.WarmedH.trans hW0 hW
  have hcl : s.vm.findClass cls = some ce.cls := by
    have h9 := hO.cls
    rw [hvm] at h9
    exact h9
  have hall : s.sameButNew ({ U with vm := s.vm } : State) locs mc ms := by
    subst hA
    obtain ⟨e1, e2⟩ := hsame
    rw [State.setFrames_setFrames] at e1
    have h2 : (T.setVm s.vm).sameButNew ({ U with vm := s.vm } : State) [] (0 + 1) (0 + 6) := ⟨e1, e2⟩
    have h3 := X.same.trans h2
    rw [List.append_nil] at h3
    exact h3.mono hc hs
  refine ⟨U, ?_, .threw T.heap.size, hrun, hend, Or.inr ⟨T.heap.size, rfl, cls, ce, locs, hx U hWs.alike f1 (fun q hq => f2 q hq (fun z hz => nomatch hz)), hce, hO.vm, hcl, hWs, hall, hf⟩⟩
  refine st1 _ ?_
  show Steps p.tables e below (T1.setTop { method := m, pc := pc + 3, locals := ls, stack := .ref T.heap.size :: rest, locked := none }) _
  jvm_step X₁.here [X₁.here.top, hexec, d3', Value.category]
  exact X₁.ldcStringW hexec (own := own) (text := text) (index := is) (a := sa) hown' hstr'.1 hstr'.2
    (g := { method := m, pc := pc + 4, locals := ls, stack := .ref T.heap.size :: .ref T.heap.size :: rest, locked := none }) rfl d4' _ hsteps
end Ends
section Bodies
variable {l : Launch}
theorem vx_ofW {y : MethodName} {ws ws' : List Cond} {rm : Room} {Pc : Array Value → State → Prop} {Qc : Array Value → State → Outcome → State → Prop} {XC : String → State → State → Prop} {mc ms : Nat} {free : Addr → Prop} {cc : ByteArray} {maxL : Nat} {ret : Option FieldType}
    (hy : plainName y.cls = true) (hw : ws = Cond.code y cc maxL ret :: ws')
    (body : ∀ p e s m args below meth c s₁, BodyLoose p l y (headSpec ws rm) cc maxL ret e s m args below meth c s₁ → c.maxLocals = maxL → (∀ x ∈ c.exceptionTable.toList, False) → Pc args s →
      W p l e (headSpec ws rm).room s m args below meth c s.heap [] 0 0 (vx_MQ below Qc XC args s mc ms free) (entryFrame m args maxL)) : vx_Met l y ws rm Pc Qc XC mc ms free := by
  refine MetFree.of_bodyS (code := cc) (maxLocals := maxL) (ret := ret) hy ?_ ?_
  · intro args s m h hn
    obtain ⟨meth, c, h1, h2, h3, h4, h5, h6, -, -⟩ := Cond.code_spec hn (atoms_spec (ws := ws) h _ (by rw [hw]; exact List.mem_cons_self))
    exact ⟨meth, c, h1, h2, h3, h4, h5, h6⟩
  · intro p e s m args below meth c s₁ B hml hP _
    have hh0 : s₁.heap = s.heap := by rw [B.state]; rfl
    have ht : ∀ x ∈ c.exceptionTable.toList, False := by
      obtain ⟨meth9, c9, h1, h2, -, -, -, -, h7, -⟩ := Cond.code_spec B.named (atoms_spec (ws := ws) B.pre _ (by rw [hw]; exact List.mem_cons_self))
      cases Option.some.inj (h1.symm.trans B.method)
      cases Option.some.inj (h2.symm.trans (Stand.of_body B).code)
      intro x hx
      rw [Array.isEmpty_iff.mp h7] at hx
      cases hx
    obtain ⟨t, a1, o, b1, b2, b3⟩ := body p e s m args below meth c s₁ B hml ht hP s₁ hh0 (Stand.of_body B)
    exact ⟨t, o, a1, b1, b2, b3⟩
/-- the table of a body with handlers -/
theorem vx_table {p : Program} {x y : MethodName} {S : Spec} {cc bytes : ByteArray} {maxL maxL' : Nat} {ret ret' : Option FieldType} {e : Env} {s s₁ : State} {m : MethodId} {args : Array Value} {below : List Frame} {meth : Method} {c : Code} {hh : List (Nat × Nat × Nat × Nat)}
    (B : BodyLoose p l y S cc maxL ret e s m args below meth c s₁) (h : (Cond.codeWith y bytes maxL' ret' hh).before args s = true) : c.exceptionTable.toList = tableOf hh := by
  obtain ⟨m9, meth9, c9, hn9, h1, h2, -, -, h6, -⟩ := Cond.codeWith_spec h
  cases Option.some.inj (hn9.symm.trans B.named)
  cases Option.some.inj (h1.symm.trans B.method)
  cases Option.some.inj (h2.symm.trans (Stand.of_body B).code)
  rw [← h6, table_eq]
end Bodies
end VXA
/-! ===== END ===== -/
/-! ===== BEGIN a static call of a method with an exception table ===== -/
section VXS
variable {p : Program} {l : Launch} {e : Env} {R : Room} {s : State} {m : MethodId} {args : Array Value} {below : List Frame} {meth : Method} {c : Code} {T : State} {H : Heap} {locs : List Loc} {cells slots : Nat}
abbrev vx_CSW (R : Room) (s : State) (args : Array Value) (own : String) (index : Nat) (y : MethodName) (bytes : ByteArray) (maxL : Nat) (ret : Option FieldType) (hh : List (Nat × Nat × Nat × Nat)) (ws : List Cond) (rm : Room) (mc ms n : Nat) : Prop :=
  (rm.cells = mc ∧ rm.slots = ms ∧ rm.frames + 1 ≤ R.frames ∧ 8 + (maxL + 11) + rm.locals ≤ R.locals ∧ (∀ w ∈ ws, ∀ (a' : Array Value) (U : State), s.WarmedH U.vm → w.before a' U = true) ∧ Cond.codeWith y bytes maxL ret hh ∈ ws) ∧
  (Cond.codeWith y bytes maxL ret hh).before args s = true ∧ (Cond.initialized y.cls).before args s = true ∧ (y.cls ≠ "java/lang/invoke/MethodHandle" ∧ y.cls ≠ "java/lang/invoke/VarHandle") ∧
  (∀ sig, parseMethodDescriptor y.desc = some sig → n = sig.parameters.length) ∧ (Cond.methodLink own index y).before args s = true ∧ (Cond.static y).before args s = true
theorem vx_cwSW {own : String} {index maxL mc ms : Nat} {y : MethodName} {bytes : ByteArray} {ret : Option FieldType} {hh : List (Nat × Nat × Nat × Nat)} {Ts ws ws' : List Cond} {rm : Room} (n : Nat) (ht : ∀ w ∈ Ts, w.before args s = true) (hT : GoodIn Ts (va_wsS own index y ws)) (hw : ws = Cond.codeWith y bytes maxL ret hh :: ws') (hrc : rm.cells = mc) (hrs : rm.slots = ms)
    (hd : y.cls ≠ "java/lang/invoke/MethodHandle" ∧ y.cls ≠ "java/lang/invoke/VarHandle" ∧ (parseMethodDescriptor y.desc).map (fun d => d.parameters.length) = some n) (hR : rm.frames + 1 ≤ R.frames ∧ 8 + (maxL + 11) + rm.locals ≤ R.locals) :
    vx_CSW R s args own index y bytes maxL ret hh ws rm mc ms n := by
  have ok : ∀ w ∈ va_wsS own index y ws, w.before args s = true := fun w h => ht w (hT w h).1
  have hG : GoodIn Ts ws := fun w h => hT w (by unfold va_wsS; exact List.mem_append_right _ h)
  have hc : Cond.codeWith y bytes maxL ret hh ∈ ws := by rw [hw]; exact List.mem_cons_self
  refine ⟨⟨hrc, hrs, hR.1, hR.2, pay_in ht hG, hc⟩, ht _ (hG _ hc).1, ok _ (by simp [va_wsS]), ⟨hd.1, hd.2.1⟩, fun sig h => ?_, ok _ (by simp [va_wsS]), ok _ (by simp [va_wsS])⟩
  have h2 := hd.2.2
  rw [h] at h2
  exact (Option.some.inj h2).symm
theorem vx_callSW (X : Stand p l e R s m args below meth c T locs cells slots) (hexec : p.tables.exec = Jvm.exec) {own : String} {index : Nat} {y : MethodName} {bytes : ByteArray} {maxL : Nat} {ret : Option FieldType} {hh : List (Nat × Nat × Nat × Nat)}
    (hown : s.vm.findClass own = some m.cls) (hlink : (Cond.methodLink own index y).before args s = true) (hstat : (Cond.static y).before args s = true) (hinit : (Cond.initialized y.cls).before args s = true)
    (hcode : (Cond.codeWith y bytes maxL ret hh).before args s = true) (hy : y.cls ≠ "java/lang/invoke/MethodHandle" ∧ y.cls ≠ "java/lang/invoke/VarHandle")
    {W9 : Nat} {Pre : Pt → Array Value → Prop} {Post : Pt → Array Value → Option Value → Pt → Prop} (hK : Back l R p e below s args y 3 W9 Pre Post)
    {g : JFrame} (hg : g.method = m) (hsize : g.locals.size = c.maxLocals) {argsL rest : List Value} (hlen : ∀ sig, parseMethodDescriptor y.desc = some sig → argsL.length = sig.parameters.length)
    (hstack : g.stack = argsL.reverse ++ rest) (hW : 2 * g.monitorRoom + (rest.map fun v => v.category).sum ≤ W9) (hdg : decode c.code g.pc = .ok (.invokestatic index, 3))
    (hpre : ∀ vm₁, s.WarmedH vm₁ → Pre ⟨T.setVm vm₁, locs, cells, slots⟩ argsL.toArray) :
    ∃ (v : Option Value) (vm₁ : Vm) (B : Pt), s.WarmedH vm₁ ∧ Stand p l e R s m args below meth c B.U B.locs B.cells B.slots ∧ Post ⟨T.setVm vm₁, locs, cells, slots⟩ argsL.toArray v B ∧
      ∀ target, Steps p.tables e below (B.U.setTop { g with pc := g.pc + 3, stack := v.toList ++ rest }) target → Steps p.tables e below (T.setTop g) target := by
  obtain ⟨mk, methM, cM, hnamed, hmethM, -, -, -, -, -, -, hsigM⟩ := Cond.codeWith_spec hcode
  have hstatic : methM.isStatic = true := Cond.static_spec hnamed hmethM hstat
  obtain ⟨kP, hkP, -⟩ := className_of_methodNamed hnamed
  have hinitP : kP.init = .initialized := Cond.initialized_spec (findClass_of_methodNamed hnamed) hkP hinit
  obtain ⟨vm₁, X₁, hstep₁⟩ := X.invokestatic hexec hown hlink hnamed hmethM hstatic hkP hinitP hy (g := g) hg (argsL := argsL) (rest := rest) (hlen _ hsigM) hstack hdg
  obtain ⟨v, B, X', hpost, hsteps⟩ := hK m meth c ⟨T.setVm vm₁, locs, cells, slots⟩ { g with stack := rest } (.invokestatic index) mk argsL.toArray X₁ hg hsize hdg hW (X₁.named hnamed) (hpre vm₁ X₁.warmed)
  exact ⟨v, vm₁, B, X₁.warmed, X', hpost, fun target h => hstep₁ _ fun acts => by rw [doInvoke_state]; exact hsteps.trans h⟩
theorem vx_runSW {y : MethodName} {bytes cc : ByteArray} {maxL nL mc ms n index : Nat} {ret : Option FieldType} {hh : List (Nat × Nat × Nat × Nat)} {ws : List Cond} {rm : Room} {Pc : Array Value → State → Prop} {Qc : Array Value → State → Outcome → State → Prop} {free : Addr → Prop} {Ts : List Cond} {own : String} {As rest : List Value} {g : JFrame}
    (S : CallFix p m c cc nL s args Ts own) (hM : Met l y ws rm Pc Qc mc ms free) (cw : vx_CSW R s args own index y bytes maxL ret hh ws rm mc ms n) (hp : PreS s H Pc As)
    (hg : g.method = m) (hn : As.length = n) (hsize : g.locals.size = nL) (hstack : g.stack = As.reverse ++ rest) (hW : 2 * g.monitorRoom + (rest.map fun v => v.category).sum ≤ 8) (hdg : decode cc g.pc = .ok (.invokestatic index, 3)) (hf : cells + mc ≤ R.cells ∧ slots + ms ≤ R.slots) :
    va_Run p l e R s m args below meth c H locs cells slots mc ms g rest (Qc As.toArray) (free) := by
  obtain ⟨⟨hrc, hrs, hfr, hlo, hws, hcw⟩, hcode, hini, hy, hlen, hl, hstt⟩ := cw
  have hK : Back l R p e below s args y 3 8 (PreOf R mc ms Pc) (PostOf Qc mc ms free) := va_backW (hh := hh) (bytes := bytes) (maxL := maxL) (ret := ret) hM hp.1 hrc hrs hfr hlo hws hcw (fun a' U hW => word_at hW (Or.inl (by first | rfl | simp [Cond.onTables, Cond.keeps, Cond.steady])) hini)
  obtain ⟨hx, hb, hml, ho, -⟩ := S
  intro T hT X
  obtain ⟨v, vm₁, ⟨U', l2, c2, s2⟩, hW₁, X', ⟨g', mk, t, L, e1, e2, hq, h1, hL, h2, h3⟩, st⟩ := vx_callSW X hx (hh := hh) (bytes := bytes) (maxL := maxL) (ret := ret) ho hl hstt hini hcode hy hK hg (hsize.trans hml.symm) (argsL := As) (rest := rest) (fun sig h => hn.trans (hlen sig h)) hstack hW (by rw [hb]; exact hdg)
    (fun vm₁ hW₁ => ⟨hf.1, hf.2, hp.2 (T.setVm vm₁) hT hW₁⟩)
  dsimp only [Pt.U, Pt.locs, Pt.cells, Pt.slots] at X' e1 e2 h1 h2 h3 st
  subst h1; subst h2; subst h3
  exact ⟨v, (T.setVm vm₁).calling g' mk As.toArray, t, U', L, hT, X', hL, e1, e2, hq, st⟩
/-- not caught here, past rows that name other classes: it goes on to the caller -/
theorem vx_outP {p : Program} {l : Launch} {e : Env} {R : Room} {s : State} {m : MethodId} {args : Array Value} {below : List Frame} {meth : Method} {c : Code} {H : Heap} {locs : List Loc} {cells slots : Nat} {free : Addr → Prop} {ls : Array Slot} {rest : List Value} {Qc : Array Value → State → Outcome → State → Prop} {XC : String → State → State → Prop}
    {pc : Nat} {own E : String} {ce : Cell} {q : Addr} {mc ms : Nat} (hown : s.vm.findClass own = some m.cls) (hlocks : meth.locks = false)
    (hpass : ∀ z ∈ c.exceptionTable.toList, covers z pc = false ∨ (z.catchType ≠ 0 ∧ ∃ nm : String, (Cond.classLink own z.catchType nm).before args s = true ∧ va_Nc E nm s)) (hcell : H[q]? = some ce) (hv : ce.vm = .none) (hcl : s.vm.findClass E = some ce.cls)
    (hx : ∀ t : State, t.heap = H → s.vm.Alike t.vm → XC E s t) (hf : ∀ z ∈ locs, free z.base) (hc : cells ≤ mc) (hs : slots ≤ ms) :
    vx_W p l e R s m args below meth c H locs cells slots (vx_MQ below Qc XC args s mc ms free) (F0 m pc ls rest) q := by
  intro T hT X
  have hpl : e.platform.magicAccessors = ({} : Platform).magicAccessors := by rw [X.admits.platform]
  obtain ⟨vm', hW', X', st⟩ := X.outThrough hlocks q (g := F0 m pc ls rest) rfl rfl rfl (cell := ce) (by rw [hT]; exact hcell) (by rw [hv]; rfl)
    (by obtain ⟨k9, h9, -⟩ := Vm.findClass_spec hcl; exact ⟨k9, h9⟩) (fun z hz => by
      rcases hpass z hz with h | ⟨hz0, nm, hl1, hn1⟩
      · exact Or.inl h
      · obtain ⟨c6, hc6, hcl6⟩ := Cond.classLink_spec hown hl1 e.platform hpl
        obtain ⟨a8, b8, h1, h2, h3⟩ := hn1
        cases Option.some.inj (h1.symm.trans hcl)
        cases Option.some.inj (h2.symm.trans hc6)
        exact Or.inr ⟨hz0, _, hcl6, h3⟩)
  obtain ⟨g₀, hfr⟩ := X'.frames_eq
  have hcell9 : ((T.setVm vm').setFrames (.throwing q :: below)).heap[q]? = some ce := by
    show T.heap[q]? = some ce
    rw [hT]; exact hcell
  have hend : Ended ((T.setVm vm').setFrames (.throwing q :: below)) below (.threw q) := State.frames_setFrames _ (State.cur_lt_of_frames hfr)
  refine ⟨(T.setVm vm').setFrames (.throwing q :: below), ?_, .threw q, X'.here.running, hend, Or.inr ⟨q, rfl, E, ce, locs, hx _ hT (X'.ends _).1.alike, hcell9, hv, hcl, (X'.ends _).1, (X'.ends _).2.mono hc hs, hf⟩⟩
  rw [X.pushThrowing_eq]
  exact st
/-- a thing of a world lies in the heap -/
theorem vx_lt {D : va_G} {cl : List vw_C} {ws : va_W} {H1 : Heap} (h : va_P D cl ws H1) {k : Nat} {q : Nat × va_E} (hk : ws[k]? = some q) : q.1 < H1.size := (h k q hk).lt
end VXS
/-! ===== END ===== -/
/-! ===== BEGIN methods with a table of their own: called by a name, returning or throwing ===== -/
section VXH
/-! vx_backW, vx_callVX, vx_callSX, vx_callVW, vx_runVW, vx_runVX, vx_runSX, vx_ofWH follow the same proofs as their sisters above (Free/Laws.lean, Shelf42/LK1.lean); vx_outP calls Shelf42/NT130.lean (outThrough). -/
section
variable {l : Launch} {R : Room} {p : Program} {e : Env} {below : List Frame} {s : State} {sargs : Array Value} {y : MethodName} {len W9 : Nat}
theorem vx_backW {ws : List Cond} {rm : Room} {Pc : Array Value → State → Prop} {Qc : Array Value → State → Outcome → State → Prop} {XC : String → State → State → Prop} {mc ms : Nat} {free : Addr → Prop} {bytes : ByteArray} {maxL : Nat} {ret : Option FieldType} {hh : List (Nat × Nat × Nat × Nat)}
    (hM : vx_Met l y ws rm Pc Qc XC mc ms free) (hblind : FrameBlind Pc) (hrc : rm.cells = mc) (hrs : rm.slots = ms)
    (hframes : rm.frames + 1 ≤ R.frames) (hlocals : W9 + (maxL + 11) + rm.locals ≤ R.locals)
    (hws : ∀ w ∈ ws, ∀ a' U, s.WarmedH U.vm → w.before a' U = true) (hcode : Cond.codeWith y bytes maxL ret hh ∈ ws) (hinit : ∀ a' U, s.WarmedH U.vm → (Cond.initialized y.cls).before a' U = true) :
    vx_Back l R p e below s sargs y len W9 (PreOf R mc ms Pc) (PostOf Qc mc ms free) (vx_Post XC mc ms free) := by
  intro m meth c A g ig mk a X hg hsize hdg hW hn hp
  have h1 : (headSpec ws rm).pre.before a A.U = true := atoms_intro fun w hw => hws w hw _ _ X.warmed
  have h2 : (Cond.codeWith y bytes maxL ret hh).before a A.U = true := hws _ hcode _ _ X.warmed
  have h3 : (Cond.initialized y.cls).before a A.U = true := hinit _ _ X.warmed
  have h4 : A.cells + (headSpec ws rm).room.cells ≤ R.cells := by rw [show (headSpec ws rm).room.cells = mc from hrc]; exact hp.1
  have h5 : A.slots + (headSpec ws rm).room.slots ≤ R.slots := by rw [show (headSpec ws rm).room.slots = ms from hrs]; exact hp.2.1
  have hPc : Pc a (A.U.calling g mk a) := hblind _ _ _ _ hp.2.2
  obtain ⟨U, Ls, c0, s0⟩ := A
  dsimp only [Pt.U, Pt.locs, Pt.cells, Pt.slots] at h1 h2 h3 h4 h5 X hn hPc ⊢
  obtain ⟨m9, methY, cY, hn9, hmY, hcY, -, hlY, -⟩ := Cond.codeWith_spec h2
  cases Option.some.inj (hn9.symm.trans hn)
  obtain ⟨kY, hkY, -⟩ := className_of_methodNamed hn
  have hinitY : kY.init = .initialized := Cond.initialized_spec (findClass_of_methodNamed hn) hkY h3
  have h : At U g.method c below := by rw [hg]; exact X.here
  have hlocals9 : W9 + (maxL + 11) + (headSpec ws rm).room.locals ≤ R.locals := hlocals
  have happ : (headSpec ws rm).appliesLoose y e.platform (U.calling g mk a) = true :=
    Spec.appliesLoose_calling (g := g) h hdg hn hkY hinitY
      (X.room_calling (g := g) (R' := (headSpec ws rm).room) hsize hmY hcY hframes (by rw [hlY]; omega) h4 h5) h1
  obtain ⟨mid, hmid⟩ := h.above
  have hfr : (U.setTop g).frames = (.java g :: mid) ++ below := by rw [State.frames_setTop' g h.top, hmid]; rfl
  obtain ⟨o, s₂, hsteps, -, hend, hq⟩ := Steps.callFree hM p X.admits X.cas X.clock (acts := []) hfr happ hPc trivial
  have hq' : vx_Q Qc XC mc ms free a (U.calling g mk a) o s₂ := hq
  rw [State.frames_setTop' g h.top] at hend
  obtain ⟨g₀, hg0⟩ := Option.isSome_iff_exists.mp h.top
  obtain ⟨r, hr⟩ := State.topJava?_eq_some.mp hg0
  have hr' : (({ U with heap := s₂.heap, slotsUsed := s₂.slotsUsed } : State).setVm s₂.vm).frames = .java g₀ :: r := hr
  rcases hq' with ⟨hqc, L, hfe, hL⟩ | ⟨q, rfl, E, ce, L, hx, hce, hcv, hcl, hW₂, hsm, hL⟩
  · obtain ⟨⟨v, rfl⟩, hW₂, e2, q2, q3, q4, q5, q6⟩ := id hfe
    have e3 : s₂ = ({ (U.calling g mk a).setFrames s₂.frames with heap := s₂.heap, slotsUsed := s₂.slotsUsed } : State).setVm s₂.vm := by
      have : s₂ = ({ s₂ with vm := (U.calling g mk a).vm } : State).setVm s₂.vm := rfl
      rw [e2] at this
      exact this
    obtain ⟨c₂, i₂, len₂, hc₂, hd₂, hf₂⟩ := hend
    have hW' : U.WarmedH s₂.vm := hW₂
    have hcc : c₂ = c := by
      have h1 : s₂.code? g.method = U.code? g.method := by
        rw [State.code?_eq, State.code?_eq, hW'.alike.method?]
      exact Option.some.inj (hc₂.symm.trans (h1.trans h.code))
    subst hcc
    have hlen : len₂ = len := by rw [hdg] at hd₂; cases hd₂; rfl
    subst hlen
    have hs₂ : s₂ = (({ U with heap := s₂.heap, slotsUsed := s₂.slotsUsed } : State).setVm s₂.vm).setTop { g with pc := g.pc + len₂, stack := v.toList ++ g.stack } := by
      refine e3.trans ?_
      rw [hf₂, State.calling_eq h.top, State.setFrames_setFrames, State.setTop_of_frames _ hr', hr]
      rfl
    have hsame : U.sameButNew ({ U with heap := s₂.heap, slotsUsed := s₂.slotsUsed } : State) L mc ms := by
      refine ⟨?_, q2, q3, q4, q5, q6⟩
      obtain ⟨t, ht, -⟩ := State.frames_cons hr
      show ({ U with heap := s₂.heap, slotsUsed := s₂.slotsUsed } : State) = { U.setFrames U.frames with heap := s₂.heap, slotsUsed := s₂.slotsUsed }
      rw [State.setFrames_self ht]
    subst hg
    refine Or.inl ⟨v, ⟨(({ U with heap := s₂.heap, slotsUsed := s₂.slotsUsed } : State).setVm s₂.vm), Ls ++ L, c0 + mc, s0 + ms⟩,
      ⟨X.admits, X.cas, X.clock, X.frames, X.room, X.hears, X.method, X.code, (X.here.setHeapUsed s₂.heap s₂.slotsUsed).setVm hW'.alike, X.tail, State.WarmedH.trans X.warmed hW', X.limits, X.bytes, X.same.trans (hsame.setVm s.vm)⟩,
      ⟨g, mk, s₂, L, rfl, rfl, hqc, rfl, hL, rfl, rfl⟩, ?_⟩
    show Steps p.tables e below _ ((({ U with heap := s₂.heap, slotsUsed := s₂.slotsUsed } : State).setVm s₂.vm).setTop { g with pc := g.pc + len₂, stack := v.toList ++ g.stack })
    rw [← hs₂]
    exact hsteps
  · obtain ⟨e2, q2, q3, q4, q5, q6⟩ := id hsm
    have e3 : s₂ = ({ (U.calling g mk a).setFrames s₂.frames with heap := s₂.heap, slotsUsed := s₂.slotsUsed } : State).setVm s₂.vm := by
      have : s₂ = ({ s₂ with vm := (U.calling g mk a).vm } : State).setVm s₂.vm := rfl
      rw [e2] at this
      exact this
    have hf₂ : s₂.frames = .throwing q :: .java g :: U.frames.tail := hend
    have hW' : U.WarmedH s₂.vm := hW₂
    have hs₂ : s₂ = ((({ U with heap := s₂.heap, slotsUsed := s₂.slotsUsed } : State).setVm s₂.vm).setTop g).pushFrame (.throwing q) := by
      refine e3.trans ?_
      rw [hf₂, State.calling_eq h.top, State.setFrames_setFrames, State.pushFrame, State.frames_setTop _ hr', State.setTop_of_frames _ hr', State.setFrames_setFrames, hr]
      rfl
    have hsame : U.sameButNew ({ U with heap := s₂.heap, slotsUsed := s₂.slotsUsed } : State) L mc ms := by
      refine ⟨?_, q2, q3, q4, q5, q6⟩
      obtain ⟨t, ht, -⟩ := State.frames_cons hr
      show ({ U with heap := s₂.heap, slotsUsed := s₂.slotsUsed } : State) = { U.setFrames U.frames with heap := s₂.heap, slotsUsed := s₂.slotsUsed }
      rw [State.setFrames_self ht]
    subst hg
    refine Or.inr ⟨q, ⟨(({ U with heap := s₂.heap, slotsUsed := s₂.slotsUsed } : State).setVm s₂.vm), Ls ++ L, c0 + mc, s0 + ms⟩,
      ⟨X.admits, X.cas, X.clock, X.frames, X.room, X.hears, X.method, X.code, (X.here.setHeapUsed s₂.heap s₂.slotsUsed).setVm hW'.alike, X.tail, State.WarmedH.trans X.warmed hW', X.limits, X.bytes, X.same.trans (hsame.setVm s.vm)⟩,
      ⟨g, mk, s₂, L, E, ce, rfl, rfl, hx, hce, hcv, hcl, rfl, hL, rfl, rfl⟩, ?_⟩
    show Steps p.tables e below _ (((({ U with heap := s₂.heap, slotsUsed := s₂.slotsUsed } : State).setVm s₂.vm).setTop g).pushFrame (.throwing q))
    rw [← hs₂]
    exact hsteps
end
variable {p : Program} {l : Launch} {e : Env} {R : Room} {s : State} {m : MethodId} {args : Array Value} {below : List Frame} {meth : Method} {c : Code} {T : State} {H : Heap} {locs : List Loc} {cells slots : Nat}
theorem vx_callVX (X : Stand p l e R s m args below meth c T locs cells slots) (hexec : p.tables.exec = Jvm.exec) {own C : String} {index : Nat} {y : MethodName} {bytes : ByteArray} {maxL : Nat} {ret : Option FieldType} {hh : List (Nat × Nat × Nat × Nat)}
    (hown : s.vm.findClass own = some m.cls) (hlink : (Cond.methodLink own index y).before args s = true) (hinst : (Cond.instanceMethod y).before args s = true) (hsel : (Cond.selects C y y).before args s = true)
    (hcode : (Cond.codeWith y bytes maxL ret hh).before args s = true) (hy : y.cls ≠ "java/lang/invoke/MethodHandle" ∧ y.cls ≠ "java/lang/invoke/VarHandle")
    {W9 : Nat} {Pre : Pt → Array Value → Prop} {Post : Pt → Array Value → Option Value → Pt → Prop} {PostX : Pt → Array Value → Addr → Pt → Prop} (hK : vx_Back l R p e below s args y 3 W9 Pre Post PostX)
    {b : Addr} {cellB : Cell} (hcell : T.heap[b]? = some cellB) (hobj : cellB.vm.isStatics = false) (hcls : s.vm.findClass C = some cellB.cls)
    {g : JFrame} (hg : g.method = m) (hsize : g.locals.size = c.maxLocals) {argsL rest : List Value} (hlen : ∀ sig, parseMethodDescriptor y.desc = some sig → argsL.length = sig.parameters.length)
    (hstack : g.stack = argsL.reverse ++ .ref b :: rest) (hW : 2 * g.monitorRoom + (rest.map fun v => v.category).sum ≤ W9) (hdg : decode c.code g.pc = .ok (.invokevirtual index, 3))
    (hpre : ∀ vm₁, s.WarmedH vm₁ → Pre ⟨T.setVm vm₁, locs, cells, slots⟩ (Value.ref b :: argsL).toArray) :
    (∃ (v : Option Value) (vm₁ : Vm) (B : Pt), s.WarmedH vm₁ ∧ Stand p l e R s m args below meth c B.U B.locs B.cells B.slots ∧ Post ⟨T.setVm vm₁, locs, cells, slots⟩ (Value.ref b :: argsL).toArray v B ∧
      ∀ target, Steps p.tables e below (B.U.setTop { g with pc := g.pc + 3, stack := v.toList ++ rest }) target → Steps p.tables e below (T.setTop g) target) ∨
    (∃ (q : Addr) (vm₁ : Vm) (B : Pt), s.WarmedH vm₁ ∧ Stand p l e R s m args below meth c B.U B.locs B.cells B.slots ∧ PostX ⟨T.setVm vm₁, locs, cells, slots⟩ (Value.ref b :: argsL).toArray q B ∧
      Steps p.tables e below (T.setTop g) ((B.U.setTop { g with stack := rest }).pushFrame (.throwing q))) := by
  obtain ⟨mk, methM, hnamed, hmethM, hstM, habM⟩ := Cond.instanceMethod_spec hinst
  obtain ⟨m8, methM', cM, hn8, hmethM', -, -, -, -, -, -, hsigM⟩ := Cond.codeWith_spec hcode
  cases Option.some.inj (hn8.symm.trans hnamed)
  cases hmethM.symm.trans hmethM'
  obtain ⟨c2, r2, m2, q1, q2, q3, q4, kP, hkP, hkPi⟩ := Cond.selects_spec hsel
  cases hcls.symm.trans q1
  cases (State.methodFound?_of_named hnamed hy).symm.trans q2
  cases hnamed.symm.trans q3
  have hselP : selectMethod e.platform s.vm cellB.cls mk = .method mk := by rw [Launch.admits_selectMethod X.admits]; exact q4
  obtain ⟨vm₁, X₁, hstep₁⟩ := X.invokevirtual hexec hown hlink hnamed hmethM hstM hkP hkPi hy (a := b) (cell := cellB) hcell
    (fun z h => by rw [h] at hobj; cases hobj) hselP hmethM habM hkP hkPi (g := g) hg (argsL := argsL) (rest := rest) (hlen _ hsigM) hstack hdg
  rcases hK m meth c ⟨T.setVm vm₁, locs, cells, slots⟩ { g with stack := rest } (.invokevirtual index) mk (Value.ref b :: argsL).toArray X₁ hg hsize hdg hW (X₁.named hnamed) (hpre vm₁ X₁.warmed) with ⟨v, B, X', hpost, hsteps⟩ | ⟨q, B, X', hpost, hsteps⟩
  · exact Or.inl ⟨v, vm₁, B, X₁.warmed, X', hpost, fun target h => hstep₁ _ fun acts => by rw [doInvoke_state]; exact hsteps.trans h⟩
  · exact Or.inr ⟨q, vm₁, B, X₁.warmed, X', hpost, hstep₁ _ fun acts => by rw [doInvoke_state]; exact hsteps⟩
theorem vx_callSX (X : Stand p l e R s m args below meth c T locs cells slots) (hexec : p.tables.exec = Jvm.exec) {own : String} {index : Nat} {y : MethodName} {bytes : ByteArray} {maxL : Nat} {ret : Option FieldType} {hh : List (Nat × Nat × Nat × Nat)}
    (hown : s.vm.findClass own = some m.cls) (hlink : (Cond.methodLink own index y).before args s = true) (hstat : (Cond.static y).before args s = true) (hinit : (Cond.initialized y.cls).before args s = true)
    (hcode : (Cond.codeWith y bytes maxL ret hh).before args s = true) (hy : y.cls ≠ "java/lang/invoke/MethodHandle" ∧ y.cls ≠ "java/lang/invoke/VarHandle")
    {W9 : Nat} {Pre : Pt → Array Value → Prop} {Post : Pt → Array Value → Option Value → Pt → Prop} {PostX : Pt → Array Value → Addr → Pt → Prop} (hK : vx_Back l R p e below s args y 3 W9 Pre Post PostX)
    {g : JFrame} (hg : g.method = m) (hsize : g.locals.size = c.maxLocals) {argsL rest : List Value} (hlen : ∀ sig, parseMethodDescriptor y.desc = some sig → argsL.length = sig.parameters.length)
    (hstack : g.stack = argsL.reverse ++ rest) (hW : 2 * g.monitorRoom + (rest.map fun v => v.category).sum ≤ W9) (hdg : decode c.code g.pc = .ok (.invokestatic index, 3))
    (hpre : ∀ vm₁, s.WarmedH vm₁ → Pre ⟨T.setVm vm₁, locs, cells, slots⟩ argsL.toArray) :
    (∃ (v : Option Value) (vm₁ : Vm) (B : Pt), s.WarmedH vm₁ ∧ Stand p l e R s m args below meth c B.U B.locs B.cells B.slots ∧ Post ⟨T.setVm vm₁, locs, cells, slots⟩ argsL.toArray v B ∧
      ∀ target, Steps p.tables e below (B.U.setTop { g with pc := g.pc + 3, stack := v.toList ++ rest }) target → Steps p.tables e below (T.setTop g) target) ∨
    (∃ (q : Addr) (vm₁ : Vm) (B : Pt), s.WarmedH vm₁ ∧ Stand p l e R s m args below meth c B.U B.locs B.cells B.slots ∧ PostX ⟨T.setVm vm₁, locs, cells, slots⟩ argsL.toArray q B ∧
      Steps p.tables e below (T.setTop g) ((B.U.setTop { g with stack := rest }).pushFrame (.throwing q))) := by
  obtain ⟨mk, methM, cM, hnamed, hmethM, -, -, -, -, -, -, hsigM⟩ := Cond.codeWith_spec hcode
  have hstatic : methM.isStatic = true := Cond.static_spec hnamed hmethM hstat
  obtain ⟨kP, hkP, -⟩ := className_of_methodNamed hnamed
  have hinitP : kP.init = .initialized := Cond.initialized_spec (findClass_of_methodNamed hnamed) hkP hinit
  obtain ⟨vm₁, X₁, hstep₁⟩ := X.invokestatic hexec hown hlink hnamed hmethM hstatic hkP hinitP hy (g := g) hg (argsL := argsL) (rest := rest) (hlen _ hsigM) hstack hdg
  rcases hK m meth c ⟨T.setVm vm₁, locs, cells, slots⟩ { g with stack := rest } (.invokestatic index) mk argsL.toArray X₁ hg hsize hdg hW (X₁.named hnamed) (hpre vm₁ X₁.warmed) with ⟨v, B, X', hpost, hsteps⟩ | ⟨q, B, X', hpost, hsteps⟩
  · exact Or.inl ⟨v, vm₁, B, X₁.warmed, X', hpost, fun target h => hstep₁ _ fun acts => by rw [doInvoke_state]; exact hsteps.trans h⟩
  · exact Or.inr ⟨q, vm₁, B, X₁.warmed, X', hpost, hstep₁ _ fun acts => by rw [doInvoke_state]; exact hsteps⟩
theorem vx_callVW (X : Stand p l e R s m args below meth c T locs cells slots) (hexec : p.tables.exec = Jvm.exec) {own C : String} {index : Nat} {y : MethodName} {bytes : ByteArray} {maxL : Nat} {ret : Option FieldType} {hh : List (Nat × Nat × Nat × Nat)}
    (hown : s.vm.findClass own = some m.cls) (hlink : (Cond.methodLink own index y).before args s = true) (hinst : (Cond.instanceMethod y).before args s = true) (hsel : (Cond.selects C y y).before args s = true)
    (hcode : (Cond.codeWith y bytes maxL ret hh).before args s = true) (hy : y.cls ≠ "java/lang/invoke/MethodHandle" ∧ y.cls ≠ "java/lang/invoke/VarHandle")
    {W9 : Nat} {Pre : Pt → Array Value → Prop} {Post : Pt → Array Value → Option Value → Pt → Prop} (hK : Back l R p e below s args y 3 W9 Pre Post)
    {b : Addr} {cellB : Cell} (hcell : T.heap[b]? = some cellB) (hobj : cellB.vm.isStatics = false) (hcls : s.vm.findClass C = some cellB.cls)
    {g : JFrame} (hg : g.method = m) (hsize : g.locals.size = c.maxLocals) {argsL rest : List Value} (hlen : ∀ sig, parseMethodDescriptor y.desc = some sig → argsL.length = sig.parameters.length)
    (hstack : g.stack = argsL.reverse ++ .ref b :: rest) (hW : 2 * g.monitorRoom + (rest.map fun v => v.category).sum ≤ W9) (hdg : decode c.code g.pc = .ok (.invokevirtual index, 3))
    (hpre : ∀ vm₁, s.WarmedH vm₁ → Pre ⟨T.setVm vm₁, locs, cells, slots⟩ (Value.ref b :: argsL).toArray) :
    ∃ (v : Option Value) (vm₁ : Vm) (B : Pt), s.WarmedH vm₁ ∧ Stand p l e R s m args below meth c B.U B.locs B.cells B.slots ∧ Post ⟨T.setVm vm₁, locs, cells, slots⟩ (Value.ref b :: argsL).toArray v B ∧
      ∀ target, Steps p.tables e below (B.U.setTop { g with pc := g.pc + 3, stack := v.toList ++ rest }) target → Steps p.tables e below (T.setTop g) target := by
  obtain ⟨mk, methM, hnamed, hmethM, hstM, habM⟩ := Cond.instanceMethod_spec hinst
  obtain ⟨m8, methM', cM, hn8, hmethM', -, -, -, -, -, -, hsigM⟩ := Cond.codeWith_spec hcode
  cases Option.some.inj (hn8.symm.trans hnamed)
  cases hmethM.symm.trans hmethM'
  obtain ⟨c2, r2, m2, q1, q2, q3, q4, kP, hkP, hkPi⟩ := Cond.selects_spec hsel
  cases hcls.symm.trans q1
  cases (State.methodFound?_of_named hnamed hy).symm.trans q2
  cases hnamed.symm.trans q3
  have hselP : selectMethod e.platform s.vm cellB.cls mk = .method mk := by rw [Launch.admits_selectMethod X.admits]; exact q4
  obtain ⟨vm₁, X₁, hstep₁⟩ := X.invokevirtual hexec hown hlink hnamed hmethM hstM hkP hkPi hy (a := b) (cell := cellB) hcell
    (fun z h => by rw [h] at hobj; cases hobj) hselP hmethM habM hkP hkPi (g := g) hg (argsL := argsL) (rest := rest) (hlen _ hsigM) hstack hdg
  obtain ⟨v, B, X', hpost, hsteps⟩ := hK m meth c ⟨T.setVm vm₁, locs, cells, slots⟩ { g with stack := rest } (.invokevirtual index) mk (Value.ref b :: argsL).toArray X₁ hg hsize hdg hW (X₁.named hnamed) (hpre vm₁ X₁.warmed)
  exact ⟨v, vm₁, B, X₁.warmed, X', hpost, fun target h => hstep₁ _ fun acts => by rw [doInvoke_state]; exact hsteps.trans h⟩
abbrev vx_CVW (R : Room) (s : State) (args : Array Value) (own C : String) (index : Nat) (y : MethodName) (bytes : ByteArray) (maxL : Nat) (ret : Option FieldType) (hh : List (Nat × Nat × Nat × Nat)) (ws : List Cond) (rm : Room) (mc ms n : Nat) : Prop :=
  (rm.cells = mc ∧ rm.slots = ms ∧ rm.frames + 1 ≤ R.frames ∧ 8 + (maxL + 11) + rm.locals ≤ R.locals ∧ (∀ w ∈ ws, ∀ (a' : Array Value) (U : State), s.WarmedH U.vm → w.before a' U = true) ∧ Cond.codeWith y bytes maxL ret hh ∈ ws) ∧
  (Cond.codeWith y bytes maxL ret hh).before args s = true ∧ (Cond.initialized y.cls).before args s = true ∧ (y.cls ≠ "java/lang/invoke/MethodHandle" ∧ y.cls ≠ "java/lang/invoke/VarHandle") ∧
  (∀ sig, parseMethodDescriptor y.desc = some sig → n = sig.parameters.length) ∧ (Cond.methodLink own index y).before args s = true ∧ (Cond.instanceMethod y).before args s = true ∧ (Cond.selects C y y).before args s = true
theorem vx_cwVW {own C : String} {index maxL mc ms : Nat} {y : MethodName} {bytes : ByteArray} {ret : Option FieldType} {hh : List (Nat × Nat × Nat × Nat)} {Ts ws ws' : List Cond} {rm : Room} (n : Nat) (ht : ∀ w ∈ Ts, w.before args s = true) (hT : GoodIn Ts (wsV own index C y ws)) (hw : ws = Cond.codeWith y bytes maxL ret hh :: ws') (hrc : rm.cells = mc) (hrs : rm.slots = ms)
    (hd : y.cls = C ∧ y.cls ≠ "java/lang/invoke/MethodHandle" ∧ y.cls ≠ "java/lang/invoke/VarHandle" ∧ (parseMethodDescriptor y.desc).map (fun d => d.parameters.length) = some n) (hR : rm.frames + 1 ≤ R.frames ∧ 8 + (maxL + 11) + rm.locals ≤ R.locals) :
    vx_CVW R s args own C index y bytes maxL ret hh ws rm mc ms n := by
  obtain ⟨hC, hd⟩ := hd
  subst hC
  have ok : ∀ w ∈ wsV own index y.cls y ws, w.before args s = true := fun w h => ht w (hT w h).1
  have hG : GoodIn Ts ws := fun w h => hT w (by unfold wsV; exact List.mem_append_right _ h)
  have hc : Cond.codeWith y bytes maxL ret hh ∈ ws := by rw [hw]; exact List.mem_cons_self
  refine ⟨⟨hrc, hrs, hR.1, hR.2, pay_in ht hG, hc⟩, ht _ (hG _ hc).1, ok _ (by simp [wsV]), ⟨hd.1, hd.2.1⟩, fun sig h => ?_, ok _ (by simp [wsV]), ok _ (by simp [wsV]), ok _ (by simp [wsV])⟩
  have h2 := hd.2.2
  rw [h] at h2
  exact (Option.some.inj h2).symm
theorem vx_runVW {y : MethodName} {bytes cc : ByteArray} {maxL nL mc ms n index : Nat} {ret : Option FieldType} {hh : List (Nat × Nat × Nat × Nat)} {ws : List Cond} {rm : Room} {Pc : Array Value → State → Prop} {Qc : Array Value → State → Outcome → State → Prop} {free : Addr → Prop} {Ts : List Cond} {own C : String} {b : Addr} {As rest : List Value} {g : JFrame}
    (S : CallFix p m c cc nL s args Ts own) (hM : Met l y ws rm Pc Qc mc ms free) (cw : vx_CVW R s args own C index y bytes maxL ret hh ws rm mc ms n) (hp : PreV s H C b Pc As)
    (hg : g.method = m) (hn : As.length = n) (hsize : g.locals.size = nL) (hstack : g.stack = As.reverse ++ .ref b :: rest) (hW : 2 * g.monitorRoom + (rest.map fun v => v.category).sum ≤ 8) (hdg : decode cc g.pc = .ok (.invokevirtual index, 3)) (hf : cells + mc ≤ R.cells ∧ slots + ms ≤ R.slots) :
    va_Run p l e R s m args below meth c H locs cells slots mc ms g rest (Qc (Value.ref b :: As).toArray) free := by
  obtain ⟨⟨hrc, hrs, hfr, hlo, hws, hcw⟩, hcode, hini, hy, hlen, hl, hin, hse⟩ := cw
  have hK : Back l R p e below s args y 3 8 (PreOf R mc ms Pc) (PostOf Qc mc ms free) := va_backW (hh := hh) (bytes := bytes) (maxL := maxL) (ret := ret) hM hp.1 hrc hrs hfr hlo hws hcw (fun a' U hW => word_at hW (Or.inl (by first | rfl | simp [Cond.onTables, Cond.keeps, Cond.steady])) hini)
  obtain ⟨hx, hb, hml, ho, -⟩ := S
  obtain ⟨-, ⟨cellB, hcB, hoB, hclB⟩, hPc⟩ := hp
  intro T hT X
  obtain ⟨v, vm₁, ⟨U', l2, c2, s2⟩, hW₁, X', ⟨g', mk, t, L, e1, e2, hq, h1, hL, h2, h3⟩, st⟩ := vx_callVW X hx (C := C) (hh := hh) (bytes := bytes) (maxL := maxL) (ret := ret) ho hl hin hse hcode hy hK (by rw [hT]; exact hcB) hoB hclB hg (hsize.trans hml.symm) (argsL := As) (rest := rest) (fun sig h => hn.trans (hlen sig h)) hstack hW (by rw [hb]; exact hdg)
    (fun vm₁ hW₁ => ⟨hf.1, hf.2, hPc (T.setVm vm₁) hT hW₁⟩)
  dsimp only [Pt.U, Pt.locs, Pt.cells, Pt.slots] at X' e1 e2 h1 h2 h3 st
  subst h1; subst h2; subst h3
  exact ⟨v, (T.setVm vm₁).calling g' mk (Value.ref b :: As).toArray, t, U', L, hT, X', hL, e1, e2, hq, st⟩
section
variable {y : MethodName} {bytes cc : ByteArray} {maxL nL mc ms n index : Nat} {ret : Option FieldType} {ws : List Cond} {rm : Room} {Pc : Array Value → State → Prop} {Qc : Array Value → State → Outcome → State → Prop} {XC : String → State → State → Prop} {free : Addr → Prop} {Ts : List Cond} {own C : String} {b : Addr} {As rest : List Value} {g : JFrame}
theorem vx_runVX {hh : List (Nat × Nat × Nat × Nat)} (S : CallFix p m c cc nL s args Ts own) (hM : vx_Met l y ws rm Pc Qc XC mc ms free) (cw : vx_CVW R s args own C index y bytes maxL ret hh ws rm mc ms n) (hp : PreV s H C b Pc As)
    (hg : g.method = m) (hn : As.length = n) (hsize : g.locals.size = nL) (hstack : g.stack = As.reverse ++ .ref b :: rest) (hW : 2 * g.monitorRoom + (rest.map fun v => v.category).sum ≤ 8) (hdg : decode cc g.pc = .ok (.invokevirtual index, 3)) (hf : cells + mc ≤ R.cells ∧ slots + ms ≤ R.slots) :
    vx_Run p l e R s m args below meth c H locs cells slots mc ms g rest (Qc (Value.ref b :: As).toArray) XC free := by
  obtain ⟨⟨hrc, hrs, hfr, hlo, hws, hcw⟩, hcode, hini, hy, hlen, hl, hin, hse⟩ := cw
  have hK : vx_Back l R p e below s args y 3 8 (PreOf R mc ms Pc) (PostOf Qc mc ms free) (vx_Post XC mc ms free) := vx_backW (hh := hh) (bytes := bytes) (maxL := maxL) (ret := ret) hM hp.1 hrc hrs hfr hlo hws hcw (fun a' U hW => word_at hW (Or.inl (by first | rfl | simp [Cond.onTables, Cond.keeps, Cond.steady])) hini)
  obtain ⟨hx, hb, hml, ho, -⟩ := S
  obtain ⟨-, ⟨cellB, hcB, hoB, hclB⟩, hPc⟩ := hp
  intro T hT X
  rcases vx_callVX X hx (C := C) (hh := hh) (bytes := bytes) (maxL := maxL) (ret := ret) ho hl hin hse hcode hy hK (by rw [hT]; exact hcB) hoB hclB hg (hsize.trans hml.symm) (argsL := As) (rest := rest) (fun sig h => hn.trans (hlen sig h)) hstack hW (by rw [hb]; exact hdg)
    (fun vm₁ hW₁ => ⟨hf.1, hf.2, hPc (T.setVm vm₁) hT hW₁⟩) with ⟨v, vm₁, ⟨U', l2, c2, s2⟩, hW₁, X', ⟨g', mk, t, L, e1, e2, hq, h1, hL, h2, h3⟩, st⟩ | ⟨q, vm₁, ⟨U', l2, c2, s2⟩, hW₁, X', ⟨g', mk, t, L, E, ce, e1, e2, hq, hce, hcv, hcl, h1, hL, h2, h3⟩, st⟩
  · dsimp only [Pt.U, Pt.locs, Pt.cells, Pt.slots] at X' e1 e2 h1 h2 h3 st
    subst h1; subst h2; subst h3
    exact Or.inl ⟨v, (T.setVm vm₁).calling g' mk (Value.ref b :: As).toArray, t, U', L, hT, X', hL, e1, e2, hq, st⟩
  · dsimp only [Pt.U, Pt.locs, Pt.cells, Pt.slots] at X' e1 e2 h1 h2 h3 st hcl
    subst h1; subst h2; subst h3
    exact Or.inr ⟨q, (T.setVm vm₁).calling g' mk (Value.ref b :: As).toArray, t, U', L, E, ce, hT, X', hL, e1, e2, hq, hce, hcv, vx_cls hW₁ hcl, st⟩
theorem vx_runSX {hh : List (Nat × Nat × Nat × Nat)} (S : CallFix p m c cc nL s args Ts own) (hM : vx_Met l y ws rm Pc Qc XC mc ms free) (cw : vx_CSW R s args own index y bytes maxL ret hh ws rm mc ms n) (hp : PreS s H Pc As)
    (hg : g.method = m) (hn : As.length = n) (hsize : g.locals.size = nL) (hstack : g.stack = As.reverse ++ rest) (hW : 2 * g.monitorRoom + (rest.map fun v => v.category).sum ≤ 8) (hdg : decode cc g.pc = .ok (.invokestatic index, 3)) (hf : cells + mc ≤ R.cells ∧ slots + ms ≤ R.slots) :
    vx_Run p l e R s m args below meth c H locs cells slots mc ms g rest (Qc As.toArray) XC free := by
  obtain ⟨⟨hrc, hrs, hfr, hlo, hws, hcw⟩, hcode, hini, hy, hlen, hl, hstt⟩ := cw
  have hK : vx_Back l R p e below s args y 3 8 (PreOf R mc ms Pc) (PostOf Qc mc ms free) (vx_Post XC mc ms free) := vx_backW (hh := hh) (bytes := bytes) (maxL := maxL) (ret := ret) hM hp.1 hrc hrs hfr hlo hws hcw (fun a' U hW => word_at hW (Or.inl (by first | rfl | simp [Cond.onTables, Cond.keeps, Cond.steady])) hini)
  obtain ⟨hx, hb, hml, ho, -⟩ := S
  intro T hT X
  rcases vx_callSX X hx (hh := hh) (bytes := bytes) (maxL := maxL) (ret := ret) ho hl hstt hini hcode hy hK hg (hsize.trans hml.symm) (argsL := As) (rest := rest) (fun sig h => hn.trans (hlen sig h)) hstack hW (by rw [hb]; exact hdg)
    (fun vm₁ hW₁ => ⟨hf.1, hf.2, hp.2 (T.setVm vm₁) hT hW₁⟩) with ⟨v, vm₁, ⟨U', l2, c2, s2⟩, hW₁, X', ⟨g', mk, t, L, e1, e2, hq, h1, hL, h2, h3⟩, st⟩ | ⟨q, vm₁, ⟨U', l2, c2, s2⟩, hW₁, X', ⟨g', mk, t, L, E, ce, e1, e2, hq, hce, hcv, hcl, h1, hL, h2, h3⟩, st⟩
  · dsimp only [Pt.U, Pt.locs, Pt.cells, Pt.slots] at X' e1 e2 h1 h2 h3 st
    subst h1; subst h2; subst h3
    exact Or.inl ⟨v, (T.setVm vm₁).calling g' mk As.toArray, t, U', L, hT, X', hL, e1, e2, hq, st⟩
  · dsimp only [Pt.U, Pt.locs, Pt.cells, Pt.slots] at X' e1 e2 h1 h2 h3 st hcl
    subst h1; subst h2; subst h3
    exact Or.inr ⟨q, (T.setVm vm₁).calling g' mk As.toArray, t, U', L, E, ce, hT, X', hL, e1, e2, hq, hce, hcv, vx_cls hW₁ hcl, st⟩
end
end VXH
theorem vx_ofWH {l : Launch} {y : MethodName} {ws ws' : List Cond} {rm : Room} {Pc : Array Value → State → Prop} {Qc : Array Value → State → Outcome → State → Prop} {XC : String → State → State → Prop} {mc ms : Nat} {free : Addr → Prop} {cc : ByteArray} {maxL : Nat} {ret : Option FieldType} {hh : List (Nat × Nat × Nat × Nat)}
    (hy : plainName y.cls = true) (hw : ws = Cond.codeWith y cc maxL ret hh :: ws')
    (body : ∀ p e s m args below meth c s₁, BodyLoose p l y (headSpec ws rm) cc maxL ret e s m args below meth c s₁ → c.maxLocals = maxL → Pc args s →
      W p l e (headSpec ws rm).room s m args below meth c s.heap [] 0 0 (vx_MQ below Qc XC args s mc ms free) (entryFrame m args maxL)) : vx_Met l y ws rm Pc Qc XC mc ms free := by
  refine MetFree.of_bodyS (code := cc) (maxLocals := maxL) (ret := ret) hy ?_ ?_
  · intro args s m h hn
    obtain ⟨m9, meth, c, hn9, h1, h2, h3, h4, -, h5, h6, -⟩ := Cond.codeWith_spec (atoms_spec (ws := ws) h _ (by rw [hw]; exact List.mem_cons_self))
    cases hn.symm.trans hn9
    exact ⟨meth, c, h1, h2, h3, h4, h5, h6⟩
  · intro p e s m args below meth c s₁ B hml hP _
    have hh0 : s₁.heap = s.heap := by rw [B.state]; rfl
    obtain ⟨t, a1, o, b1, b2, b3⟩ := body p e s m args below meth c s₁ B hml hP s₁ hh0 (Stand.of_body B)
    exact ⟨t, o, a1, b1, b2, b3⟩
/-! ===== END ===== -/
end
section
def RX0 : String := "Slickboom$Bay"
def TX0 : u_T := fun k => match k with
  | 0 => ("Slickboom$Bay", "cells", "LSlickboom$Cells;", true)
  | 1 => ("Slickboom$Bay", "ships", "LSlickboom$Ships;", true)
  | 2 => ("Slickboom$Bay", "means", "LSlickboom$Means;", true)
  | 3 => ("Slickboom$Bay", "books", "LSlickboom$Books;", true)
  | 4 => ("Slickboom$Bay", "hour", "I", false)
  | 5 => ("Slickboom$Bay", "windWay", "I", false)
  | 6 => ("Slickboom$Bay", "windStrength", "I", false)
  | 7 => ("Slickboom$Bay", "freshGoes", "[I", true)
  | _ => ("Slickboom$Bay", "thickGoes", "[I", true)
def tyX0 : Nat → FieldType := fun k => match k with
  | 0 => .object "Slickboom$Cells"
  | 1 => .object "Slickboom$Ships"
  | 2 => .object "Slickboom$Means"
  | 3 => .object "Slickboom$Books"
  | 4 => .int
  | 5 => .int
  | 6 => .int
  | 7 => .array .int
  | _ => .array .int
theorem nmX0 : ∀ a, a < 9 → ∀ b, b < 9 → a ≠ b → (TX0 a).2.1 ≠ (TX0 b).2.1 := by decide +kernel
theorem tyX0_ok : ∀ k, k < 9 → parseFieldDescriptor (TX0 k).2.2.1 = some (tyX0 k) := by decide +kernel
abbrev cX0_init : ByteArray := prog_2_method_1_code
def yX0_init : MethodName := ⟨RX0, "<init>", "()V"⟩
abbrev cX0_becomeLike : ByteArray := prog_2_method_2_code
def yX0_becomeLike : MethodName := ⟨RX0, "becomeLike", "(LSlickboom$Bay;)V"⟩
abbrev cX0_tideOf : ByteArray := prog_2_method_3_code
def yX0_tideOf : MethodName := ⟨RX0, "tideOf", "(I)I"⟩
abbrev cX0_letPass : ByteArray := prog_2_method_4_code
def yX0_letPass : MethodName := ⟨RX0, "letPass", "(I)V"⟩
abbrev cX0_leak : ByteArray := prog_2_method_5_code
def yX0_leak : MethodName := ⟨RX0, "leak", "()V"⟩
abbrev cX0_weather : ByteArray := prog_2_method_6_code
def yX0_weather : MethodName := ⟨RX0, "weather", "()V"⟩
abbrev cX0_drift : ByteArray := prog_2_method_7_code
def yX0_drift : MethodName := ⟨RX0, "drift", "()V"⟩
abbrev cX0_findWhatGoes : ByteArray := prog_2_method_8_code
def yX0_findWhatGoes : MethodName := ⟨RX0, "findWhatGoes", "(I)V"⟩
abbrev cX0_blown : ByteArray := prog_2_method_9_code
def yX0_blown : MethodName := ⟨RX0, "blown", "(II)I"⟩
abbrev cX0_roomBehind : ByteArray := prog_2_method_10_code
def yX0_roomBehind : MethodName := ⟨RX0, "roomBehind", "(I)I"⟩
abbrev cX0_letGo : ByteArray := prog_2_method_11_code
def yX0_letGo : MethodName := ⟨RX0, "letGo", "(II)V"⟩
abbrev cX0_giveBack : ByteArray := prog_2_method_12_code
def yX0_giveBack : MethodName := ⟨RX0, "giveBack", "()V"⟩
abbrev cX0_skim : ByteArray := prog_2_method_13_code
def yX0_skim : MethodName := ⟨RX0, "skim", "()V"⟩
abbrev cX0_harmShores : ByteArray := prog_2_method_14_code
def yX0_harmShores : MethodName := ⟨RX0, "harmShores", "()V"⟩
abbrev cX0_disperse : ByteArray := prog_2_method_15_code
def yX0_disperse : MethodName := ⟨RX0, "disperse", "(I)I"⟩
abbrev cX0_burn : ByteArray := prog_2_method_16_code
def yX0_burn : MethodName := ⟨RX0, "burn", "(I)I"⟩
abbrev cX0_hasLeakedWithin : ByteArray := prog_2_method_17_code
def yX0_hasLeakedWithin : MethodName := ⟨RX0, "hasLeakedWithin", "(I)Z"⟩
def RX1 : String := "Slickboom$Books"
def TX1 : u_T := fun k => match k with
  | 0 => ("Slickboom$Books", "leaked", "I", false)
  | 1 => ("Slickboom$Books", "firstLeak", "I", false)
  | 2 => ("Slickboom$Books", "air", "I", false)
  | 3 => ("Slickboom$Books", "sunk", "I", false)
  | 4 => ("Slickboom$Books", "out", "I", false)
  | 5 => ("Slickboom$Books", "deep", "I", false)
  | _ => ("Slickboom$Books", "burnt", "I", false)
def tyX1 : Nat → FieldType := fun k => match k with
  | 0 => .int
  | 1 => .int
  | 2 => .int
  | 3 => .int
  | 4 => .int
  | 5 => .int
  | _ => .int
theorem nmX1 : ∀ a, a < 7 → ∀ b, b < 7 → a ≠ b → (TX1 a).2.1 ≠ (TX1 b).2.1 := by decide +kernel
theorem tyX1_ok : ∀ k, k < 7 → parseFieldDescriptor (TX1 k).2.2.1 = some (tyX1 k) := by decide +kernel
abbrev cX1_init : ByteArray := prog_3_method_1_code
def yX1_init : MethodName := ⟨RX1, "<init>", "()V"⟩
abbrev cX1_noteLeak : ByteArray := prog_3_method_2_code
def yX1_noteLeak : MethodName := ⟨RX1, "noteLeak", "(II)V"⟩
def RX2 : String := "Slickboom$Cells"
def TX2 : u_T := fun k => match k with
  | 0 => ("Slickboom$Cells", "kind", "[I", true)
  | 1 => ("Slickboom$Cells", "depth", "[I", true)
  | 2 => ("Slickboom$Cells", "fresh", "[I", true)
  | 3 => ("Slickboom$Cells", "thick", "[I", true)
  | 4 => ("Slickboom$Cells", "stranded", "[I", true)
  | 5 => ("Slickboom$Cells", "birds", "[I", true)
  | 6 => ("Slickboom$Cells", "oiled", "[I", true)
  | _ => ("Slickboom$Cells", "signatures", "[I", true)
def tyX2 : Nat → FieldType := fun k => match k with
  | 0 => .array .int
  | 1 => .array .int
  | 2 => .array .int
  | 3 => .array .int
  | 4 => .array .int
  | 5 => .array .int
  | 6 => .array .int
  | _ => .array .int
theorem nmX2 : ∀ a, a < 8 → ∀ b, b < 8 → a ≠ b → (TX2 a).2.1 ≠ (TX2 b).2.1 := by decide +kernel
theorem tyX2_ok : ∀ k, k < 8 → parseFieldDescriptor (TX2 k).2.2.1 = some (tyX2 k) := by decide +kernel
abbrev cX2_init : ByteArray := prog_4_method_1_code
def yX2_init : MethodName := ⟨RX2, "<init>", "()V"⟩
abbrev cX2_beside : ByteArray := prog_4_method_2_code
def yX2_beside : MethodName := ⟨RX2, "beside", "(II)I"⟩
abbrev cX2_opposite : ByteArray := prog_4_method_3_code
def yX2_opposite : MethodName := ⟨RX2, "opposite", "(I)I"⟩
abbrev cX2_lowestWaterBeside : ByteArray := prog_4_method_4_code
def yX2_lowestWaterBeside : MethodName := ⟨RX2, "lowestWaterBeside", "(I)I"⟩
abbrev cX2_isKindBeside : ByteArray := prog_4_method_5_code
def yX2_isKindBeside : MethodName := ⟨RX2, "isKindBeside", "(III)Z"⟩
abbrev cX2_isWater : ByteArray := prog_4_method_6_code
def yX2_isWater : MethodName := ⟨RX2, "isWater", "(I)Z"⟩
abbrev cX2_become : ByteArray := prog_4_method_7_code
def yX2_become : MethodName := ⟨RX2, "become", "(II)V"⟩
abbrev cX2_roomOf : ByteArray := prog_4_method_8_code
def yX2_roomOf : MethodName := ⟨RX2, "roomOf", "(I)I"⟩
abbrev cX2_backOf : ByteArray := prog_4_method_9_code
def yX2_backOf : MethodName := ⟨RX2, "backOf", "(II)I"⟩
abbrev cX2_isTooDirty : ByteArray := prog_4_method_10_code
def yX2_isTooDirty : MethodName := ⟨RX2, "isTooDirty", "(I)Z"⟩
abbrev cX2_isClean : ByteArray := prog_4_method_11_code
def yX2_isClean : MethodName := ⟨RX2, "isClean", "(I)Z"⟩
abbrev cX2_oilBirds : ByteArray := prog_4_method_12_code
def yX2_oilBirds : MethodName := ⟨RX2, "oilBirds", "(I)V"⟩
abbrev cX2_oilOf : ByteArray := prog_4_method_13_code
def yX2_oilOf : MethodName := ⟨RX2, "oilOf", "(I)I"⟩
abbrev cX2_allFloating : ByteArray := prog_4_method_14_code
def yX2_allFloating : MethodName := ⟨RX2, "allFloating", "()I"⟩
abbrev cX2_allStranded : ByteArray := prog_4_method_15_code
def yX2_allStranded : MethodName := ⟨RX2, "allStranded", "()I"⟩
abbrev cX2_becomeLike : ByteArray := prog_4_method_16_code
def yX2_becomeLike : MethodName := ⟨RX2, "becomeLike", "(LSlickboom$Cells;)V"⟩
def RX3 : String := "Slickboom$Dump"
def TX3 : u_T := fun k => match k with
  | 0 => ("Slickboom$Dump", "sites", "I", false)
  | 1 => ("Slickboom$Dump", "waste", "[I", true)
  | 2 => ("Slickboom$Dump", "room", "[I", true)
  | _ => ("Slickboom$Dump", "delivered", "I", false)
def tyX3 : Nat → FieldType := fun k => match k with
  | 0 => .int
  | 1 => .array .int
  | 2 => .array .int
  | _ => .int
theorem nmX3 : ∀ a, a < 4 → ∀ b, b < 4 → a ≠ b → (TX3 a).2.1 ≠ (TX3 b).2.1 := by decide +kernel
theorem tyX3_ok : ∀ k, k < 4 → parseFieldDescriptor (TX3 k).2.2.1 = some (tyX3 k) := by decide +kernel
abbrev cX3_init : ByteArray := prog_5_method_1_code
def yX3_init : MethodName := ⟨RX3, "<init>", "()V"⟩
abbrev cX3_addSite : ByteArray := prog_5_method_2_code
def yX3_addSite : MethodName := ⟨RX3, "addSite", "(II)I"⟩
abbrev cX3_roomFor : ByteArray := prog_5_method_3_code
def yX3_roomFor : MethodName := ⟨RX3, "roomFor", "(II)I"⟩
abbrev cX3_take : ByteArray := prog_5_method_4_code
def yX3_take : MethodName := ⟨RX3, "take", "(III)V"⟩
abbrev cX3_allWaste : ByteArray := prog_5_method_5_code
def yX3_allWaste : MethodName := ⟨RX3, "allWaste", "()I"⟩
def RX4 : String := "Slickboom$Means"
def TX4 : u_T := fun k => match k with
  | 0 => ("Slickboom$Means", "count", "I", false)
  | 1 => ("Slickboom$Means", "sort", "[I", true)
  | 2 => ("Slickboom$Means", "cell", "[I", true)
  | 3 => ("Slickboom$Means", "way", "[I", true)
  | 4 => ("Slickboom$Means", "power", "[I", true)
  | 5 => ("Slickboom$Means", "store", "[I", true)
  | 6 => ("Slickboom$Means", "tally", "[I", true)
  | 7 => ("Slickboom$Means", "taught", "[Z", true)
  | _ => ("Slickboom$Means", "lastWork", "[I", true)
def tyX4 : Nat → FieldType := fun k => match k with
  | 0 => .int
  | 1 => .array .int
  | 2 => .array .int
  | 3 => .array .int
  | 4 => .array .int
  | 5 => .array .int
  | 6 => .array .int
  | 7 => .array .boolean
  | _ => .array .int
theorem nmX4 : ∀ a, a < 9 → ∀ b, b < 9 → a ≠ b → (TX4 a).2.1 ≠ (TX4 b).2.1 := by decide +kernel
theorem tyX4_ok : ∀ k, k < 9 → parseFieldDescriptor (TX4 k).2.2.1 = some (tyX4 k) := by decide +kernel
abbrev cX4_init : ByteArray := prog_6_method_1_code
def yX4_init : MethodName := ⟨RX4, "<init>", "()V"⟩
abbrev cX4_add : ByteArray := prog_6_method_2_code
def yX4_add : MethodName := ⟨RX4, "add", "(III)I"⟩
abbrev cX4_isSkimmer : ByteArray := prog_6_method_3_code
def yX4_isSkimmer : MethodName := ⟨RX4, "isSkimmer", "(II)Z"⟩
abbrev cX4_isSkimmerAt : ByteArray := prog_6_method_4_code
def yX4_isSkimmerAt : MethodName := ⟨RX4, "isSkimmerAt", "(I)Z"⟩
abbrev cX4_boomOn : ByteArray := prog_6_method_5_code
def yX4_boomOn : MethodName := ⟨RX4, "boomOn", "(II)I"⟩
abbrev cX4_freshTaken : ByteArray := prog_6_method_6_code
def yX4_freshTaken : MethodName := ⟨RX4, "freshTaken", "(II)I"⟩
abbrev cX4_thickTaken : ByteArray := prog_6_method_7_code
def yX4_thickTaken : MethodName := ⟨RX4, "thickTaken", "(III)I"⟩
abbrev cX4_canWork : ByteArray := prog_6_method_8_code
def yX4_canWork : MethodName := ⟨RX4, "canWork", "(II)Z"⟩
abbrev cX4_noteWork : ByteArray := prog_6_method_9_code
def yX4_noteWork : MethodName := ⟨RX4, "noteWork", "(II)V"⟩
abbrev cX4_hasRested : ByteArray := prog_6_method_10_code
def yX4_hasRested : MethodName := ⟨RX4, "hasRested", "(II)Z"⟩
abbrev cX4_allInStores : ByteArray := prog_6_method_11_code
def yX4_allInStores : MethodName := ⟨RX4, "allInStores", "()I"⟩
abbrev cX4_becomeLike : ByteArray := prog_6_method_12_code
def yX4_becomeLike : MethodName := ⟨RX4, "becomeLike", "(LSlickboom$Means;)V"⟩
def RX5 : String := "Slickboom$NextHour"
def TX5 : u_T := fun k => match k with
  | 0 => ("Slickboom$NextHour", "bay", "LSlickboom$Bay;", true)
  | 1 => ("Slickboom$NextHour", "freshHas", "I", false)
  | 2 => ("Slickboom$NextHour", "thickHas", "I", false)
  | 3 => ("Slickboom$NextHour", "freshGoes", "I", false)
  | _ => ("Slickboom$NextHour", "thickGoes", "I", false)
def tyX5 : Nat → FieldType := fun k => match k with
  | 0 => .object "Slickboom$Bay"
  | 1 => .int
  | 2 => .int
  | 3 => .int
  | _ => .int
theorem nmX5 : ∀ a, a < 5 → ∀ b, b < 5 → a ≠ b → (TX5 a).2.1 ≠ (TX5 b).2.1 := by decide +kernel
theorem tyX5_ok : ∀ k, k < 5 → parseFieldDescriptor (TX5 k).2.2.1 = some (tyX5 k) := by decide +kernel
abbrev cX5_init : ByteArray := prog_7_method_1_code
def yX5_init : MethodName := ⟨RX5, "<init>", "(LSlickboom$Bay;)V"⟩
abbrev cX5_floatingOf : ByteArray := prog_7_method_2_code
def yX5_floatingOf : MethodName := ⟨RX5, "floatingOf", "(I)I"⟩
abbrev cX5_strandedOf : ByteArray := prog_7_method_3_code
def yX5_strandedOf : MethodName := ⟨RX5, "strandedOf", "(I)I"⟩
abbrev cX5_isHighTide : ByteArray := prog_7_method_4_code
def yX5_isHighTide : MethodName := ⟨RX5, "isHighTide", "()Z"⟩
abbrev cX5_weigh : ByteArray := prog_7_method_5_code
def yX5_weigh : MethodName := ⟨RX5, "weigh", "(I)V"⟩
abbrev cX5_leaksInto : ByteArray := prog_7_method_6_code
def yX5_leaksInto : MethodName := ⟨RX5, "leaksInto", "(I)I"⟩
abbrev cX5_waterAgainstWind : ByteArray := prog_7_method_7_code
def yX5_waterAgainstWind : MethodName := ⟨RX5, "waterAgainstWind", "(I)I"⟩
abbrev cX5_landedOn : ByteArray := prog_7_method_8_code
def yX5_landedOn : MethodName := ⟨RX5, "landedOn", "(I)I"⟩
abbrev cX5_givenBackTo : ByteArray := prog_7_method_9_code
def yX5_givenBackTo : MethodName := ⟨RX5, "givenBackTo", "(II)I"⟩
abbrev cX5_leftBySkimmers : ByteArray := prog_7_method_10_code
def yX5_leftBySkimmers : MethodName := ⟨RX5, "leftBySkimmers", "(III)I"⟩
def RX6 : String := "Slickboom$Payers"
def TX6 : u_T := fun k => match k with
  | 0 => ("Slickboom$Payers", "count", "I", false)
  | 1 => ("Slickboom$Payers", "owner", "I", false)
  | 2 => ("Slickboom$Payers", "fund", "I", false)
  | 3 => ("Slickboom$Payers", "all", "J", false)
  | _ => ("Slickboom$Payers", "cents", "[I", true)
def tyX6 : Nat → FieldType := fun k => match k with
  | 0 => .int
  | 1 => .int
  | 2 => .int
  | 3 => .long
  | _ => .array .int
theorem nmX6 : ∀ a, a < 5 → ∀ b, b < 5 → a ≠ b → (TX6 a).2.1 ≠ (TX6 b).2.1 := by decide +kernel
theorem tyX6_ok : ∀ k, k < 5 → parseFieldDescriptor (TX6 k).2.2.1 = some (tyX6 k) := by decide +kernel
abbrev cX6_init : ByteArray := prog_8_method_1_code
def yX6_init : MethodName := ⟨RX6, "<init>", "()V"⟩
abbrev cX6_add : ByteArray := prog_8_method_2_code
def yX6_add : MethodName := ⟨RX6, "add", "(I)I"⟩
abbrev cX6_allGet : ByteArray := prog_8_method_3_code
def yX6_allGet : MethodName := ⟨RX6, "allGet", "()J"⟩
abbrev cX6_getsOf : ByteArray := prog_8_method_4_code
def yX6_getsOf : MethodName := ⟨RX6, "getsOf", "(I)J"⟩
abbrev cX6_ownersPartOf : ByteArray := prog_8_method_5_code
def yX6_ownersPartOf : MethodName := ⟨RX6, "ownersPartOf", "(J)J"⟩
def RX7 : String := "Slickboom$Rules"
def TX7 : u_T := fun k => match k with
  | _ => ("Slickboom$Rules", "bay", "LSlickboom$Bay;", true)
def tyX7 : Nat → FieldType := fun k => match k with
  | _ => .object "Slickboom$Bay"
theorem nmX7 : ∀ a, a < 1 → ∀ b, b < 1 → a ≠ b → (TX7 a).2.1 ≠ (TX7 b).2.1 := by decide +kernel
theorem tyX7_ok : ∀ k, k < 1 → parseFieldDescriptor (TX7 k).2.2.1 = some (tyX7 k) := by decide +kernel
abbrev cX7_init : ByteArray := prog_9_method_1_code
def yX7_init : MethodName := ⟨RX7, "<init>", "(LSlickboom$Bay;)V"⟩
abbrev cX7_isAgainst : ByteArray := prog_9_method_2_code
def yX7_isAgainst : MethodName := ⟨RX7, "isAgainst", "(III)Z"⟩
abbrev cX7_first : ByteArray := prog_9_method_3_code
def yX7_first : MethodName := ⟨RX7, "first", "(II)I"⟩
abbrev cX7_last : ByteArray := prog_9_method_4_code
def yX7_last : MethodName := ⟨RX7, "last", "(II)I"⟩
abbrev cX7_howMany : ByteArray := prog_9_method_5_code
def yX7_howMany : MethodName := ⟨RX7, "howMany", "(II)I"⟩
def RX8 : String := "Slickboom$Ships"
def TX8 : u_T := fun k => match k with
  | 0 => ("Slickboom$Ships", "count", "I", false)
  | 1 => ("Slickboom$Ships", "cell", "[I", true)
  | 2 => ("Slickboom$Ships", "litres", "[I", true)
  | _ => ("Slickboom$Ships", "rate", "[I", true)
def tyX8 : Nat → FieldType := fun k => match k with
  | 0 => .int
  | 1 => .array .int
  | 2 => .array .int
  | _ => .array .int
theorem nmX8 : ∀ a, a < 4 → ∀ b, b < 4 → a ≠ b → (TX8 a).2.1 ≠ (TX8 b).2.1 := by decide +kernel
theorem tyX8_ok : ∀ k, k < 4 → parseFieldDescriptor (TX8 k).2.2.1 = some (tyX8 k) := by decide +kernel
abbrev cX8_init : ByteArray := prog_10_method_1_code
def yX8_init : MethodName := ⟨RX8, "<init>", "()V"⟩
abbrev cX8_add : ByteArray := prog_10_method_2_code
def yX8_add : MethodName := ⟨RX8, "add", "(II)I"⟩
abbrev cX8_isAnyAt : ByteArray := prog_10_method_3_code
def yX8_isAnyAt : MethodName := ⟨RX8, "isAnyAt", "(I)Z"⟩
abbrev cX8_leakOf : ByteArray := prog_10_method_4_code
def yX8_leakOf : MethodName := ⟨RX8, "leakOf", "(II)I"⟩
abbrev cX8_allLitres : ByteArray := prog_10_method_5_code
def yX8_allLitres : MethodName := ⟨RX8, "allLitres", "()I"⟩
abbrev cX8_becomeLike : ByteArray := prog_10_method_6_code
def yX8_becomeLike : MethodName := ⟨RX8, "becomeLike", "(LSlickboom$Ships;)V"⟩
def RX9 : String := "Slickboom"
def TX9 : u_T := fun k => match k with
  | 0 => ("Slickboom", "bay", "LSlickboom$Bay;", true)
  | 1 => ("Slickboom", "trial", "LSlickboom$Bay;", true)
  | 2 => ("Slickboom", "nextHour", "LSlickboom$NextHour;", true)
  | 3 => ("Slickboom", "rules", "LSlickboom$Rules;", true)
  | 4 => ("Slickboom", "dump", "LSlickboom$Dump;", true)
  | _ => ("Slickboom", "payers", "LSlickboom$Payers;", true)
def tyX9 : Nat → FieldType := fun k => match k with
  | 0 => .object "Slickboom$Bay"
  | 1 => .object "Slickboom$Bay"
  | 2 => .object "Slickboom$NextHour"
  | 3 => .object "Slickboom$Rules"
  | 4 => .object "Slickboom$Dump"
  | _ => .object "Slickboom$Payers"
theorem nmX9 : ∀ a, a < 6 → ∀ b, b < 6 → a ≠ b → (TX9 a).2.1 ≠ (TX9 b).2.1 := by decide +kernel
theorem tyX9_ok : ∀ k, k < 6 → parseFieldDescriptor (TX9 k).2.2.1 = some (tyX9 k) := by decide +kernel
abbrev cX9_init : ByteArray := prog_1_method_1_code
def yX9_init : MethodName := ⟨RX9, "<init>", "()V"⟩
abbrev cX9_shore : ByteArray := prog_1_method_2_code
def yX9_shore : MethodName := ⟨RX9, "shore", "(II)I"⟩
abbrev cX9_depth : ByteArray := prog_1_method_3_code
def yX9_depth : MethodName := ⟨RX9, "depth", "(II)I"⟩
abbrev cX9_wind : ByteArray := prog_1_method_4_code
def yX9_wind : MethodName := ⟨RX9, "wind", "(II)I"⟩
abbrev cX9_ship : ByteArray := prog_1_method_5_code
def yX9_ship : MethodName := ⟨RX9, "ship", "(II)I"⟩
abbrev cX9_hole : ByteArray := prog_1_method_6_code
def yX9_hole : MethodName := ⟨RX9, "hole", "(II)I"⟩
abbrev cX9_pump : ByteArray := prog_1_method_7_code
def yX9_pump : MethodName := ⟨RX9, "pump", "(III)I"⟩
abbrev cX9_shipHas : ByteArray := prog_1_method_8_code
def yX9_shipHas : MethodName := ⟨RX9, "shipHas", "(I)I"⟩
abbrev cX9_pass : ByteArray := prog_1_method_9_code
def yX9_pass : MethodName := ⟨RX9, "pass", "(I)I"⟩
abbrev cX9_at : ByteArray := prog_1_method_10_code
def yX9_at : MethodName := ⟨RX9, "at", "(II)I"⟩
abbrev cX9_boom : ByteArray := prog_1_method_11_code
def yX9_boom : MethodName := ⟨RX9, "boom", "(III)I"⟩
abbrev cX9_skimmer : ByteArray := prog_1_method_12_code
def yX9_skimmer : MethodName := ⟨RX9, "skimmer", "(III)I"⟩
abbrev cX9_team : ByteArray := prog_1_method_13_code
def yX9_team : MethodName := ⟨RX9, "team", "(IZ)I"⟩
abbrev cX9_move : ByteArray := prog_1_method_14_code
def yX9_move : MethodName := ⟨RX9, "move", "(II)I"⟩
abbrev cX9_carry : ByteArray := prog_1_method_15_code
def yX9_carry : MethodName := ⟨RX9, "carry", "(I)I"⟩
abbrev cX9_teach : ByteArray := prog_1_method_16_code
def yX9_teach : MethodName := ⟨RX9, "teach", "(I)Z"⟩
abbrev cX9_clean : ByteArray := prog_1_method_17_code
def yX9_clean : MethodName := ⟨RX9, "clean", "(II)I"⟩
abbrev cX9_meanIs : ByteArray := prog_1_method_18_code
def yX9_meanIs : MethodName := ⟨RX9, "meanIs", "(II)I"⟩
abbrev cX9_use : ByteArray := prog_1_method_19_code
def yX9_use : MethodName := ⟨RX9, "use", "(II)I"⟩
abbrev cX9_why : ByteArray := prog_1_method_20_code
def yX9_why : MethodName := ⟨RX9, "why", "(III)I"⟩
abbrev cX9_birds : ByteArray := prog_1_method_21_code
def yX9_birds : MethodName := ⟨RX9, "birds", "(II)I"⟩
abbrev cX9_wash : ByteArray := prog_1_method_22_code
def yX9_wash : MethodName := ⟨RX9, "wash", "(II)I"⟩
abbrev cX9_sign : ByteArray := prog_1_method_23_code
def yX9_sign : MethodName := ⟨RX9, "sign", "(II)Z"⟩
abbrev cX9_site : ByteArray := prog_1_method_24_code
def yX9_site : MethodName := ⟨RX9, "site", "(II)I"⟩
abbrev cX9_deliver : ByteArray := prog_1_method_25_code
def yX9_deliver : MethodName := ⟨RX9, "deliver", "(III)I"⟩
abbrev cX9_waste : ByteArray := prog_1_method_26_code
def yX9_waste : MethodName := ⟨RX9, "waste", "(I)I"⟩
abbrev cX9_claim : ByteArray := prog_1_method_27_code
def yX9_claim : MethodName := ⟨RX9, "claim", "(I)I"⟩
abbrev cX9_layers : ByteArray := prog_1_method_28_code
def yX9_layers : MethodName := ⟨RX9, "layers", "(II)I"⟩
abbrev cX9_due : ByteArray := prog_1_method_29_code
def yX9_due : MethodName := ⟨RX9, "due", "(II)I"⟩
abbrev cX9_ahead : ByteArray := prog_1_method_30_code
def yX9_ahead : MethodName := ⟨RX9, "ahead", "(II)I"⟩
abbrev cX9_nextAnew : ByteArray := prog_1_method_31_code
def yX9_nextAnew : MethodName := ⟨RX9, "nextAnew", "(I)I"⟩
abbrev cX9_sum : ByteArray := prog_1_method_32_code
def yX9_sum : MethodName := ⟨RX9, "sum", "(I)I"⟩
abbrev cX9_needNumber : ByteArray := prog_1_method_33_code
def yX9_needNumber : MethodName := ⟨RX9, "needNumber", "(II)V"⟩
abbrev cX9_needRange : ByteArray := prog_1_method_34_code
def yX9_needRange : MethodName := ⟨RX9, "needRange", "(III)V"⟩
abbrev cX9_needWater : ByteArray := prog_1_method_35_code
def yX9_needWater : MethodName := ⟨RX9, "needWater", "(I)V"⟩
abbrev cX9_needShore : ByteArray := prog_1_method_36_code
def yX9_needShore : MethodName := ⟨RX9, "needShore", "(I)V"⟩
abbrev cX9_needRoomForMeans : ByteArray := prog_1_method_37_code
def yX9_needRoomForMeans : MethodName := ⟨RX9, "needRoomForMeans", "()V"⟩
abbrev cX9_needSort : ByteArray := prog_1_method_38_code
def yX9_needSort : MethodName := ⟨RX9, "needSort", "(II)V"⟩
def RX10 : String := "SlickboomModel"
def TX10 : u_T := fun k => match k with
  | 0 => ("SlickboomModel", "now", "[I", true)
  | 1 => ("SlickboomModel", "kept", "[I", true)
  | 2 => ("SlickboomModel", "kind", "[I", true)
  | 3 => ("SlickboomModel", "depth", "[I", true)
  | 4 => ("SlickboomModel", "going", "[I", true)
  | 5 => ("SlickboomModel", "way", "I", false)
  | 6 => ("SlickboomModel", "strength", "I", false)
  | 7 => ("SlickboomModel", "ships", "I", false)
  | 8 => ("SlickboomModel", "shipCell", "[I", true)
  | 9 => ("SlickboomModel", "rate", "[I", true)
  | 10 => ("SlickboomModel", "means", "I", false)
  | 11 => ("SlickboomModel", "sort", "[I", true)
  | 12 => ("SlickboomModel", "meanCell", "[I", true)
  | 13 => ("SlickboomModel", "border", "[I", true)
  | 14 => ("SlickboomModel", "force", "[I", true)
  | 15 => ("SlickboomModel", "store", "[I", true)
  | 16 => ("SlickboomModel", "taught", "[Z", true)
  | 17 => ("SlickboomModel", "last", "[I", true)
  | 18 => ("SlickboomModel", "deep", "I", false)
  | 19 => ("SlickboomModel", "burnt", "I", false)
  | 20 => ("SlickboomModel", "waste", "[I", true)
  | 21 => ("SlickboomModel", "delivered", "I", false)
  | 22 => ("SlickboomModel", "sites", "I", false)
  | 23 => ("SlickboomModel", "room", "[I", true)
  | 24 => ("SlickboomModel", "claims", "I", false)
  | 25 => ("SlickboomModel", "cents", "[I", true)
  | 26 => ("SlickboomModel", "owner", "I", false)
  | 27 => ("SlickboomModel", "fund", "I", false)
  | _ => ("SlickboomModel", "thrown", "I", false)
def tyX10 : Nat → FieldType := fun k => match k with
  | 0 => .array .int
  | 1 => .array .int
  | 2 => .array .int
  | 3 => .array .int
  | 4 => .array .int
  | 5 => .int
  | 6 => .int
  | 7 => .int
  | 8 => .array .int
  | 9 => .array .int
  | 10 => .int
  | 11 => .array .int
  | 12 => .array .int
  | 13 => .array .int
  | 14 => .array .int
  | 15 => .array .int
  | 16 => .array .boolean
  | 17 => .array .int
  | 18 => .int
  | 19 => .int
  | 20 => .array .int
  | 21 => .int
  | 22 => .int
  | 23 => .array .int
  | 24 => .int
  | 25 => .array .int
  | 26 => .int
  | 27 => .int
  | _ => .int
theorem nmX10 : ∀ a, a < 29 → ∀ b, b < 29 → a ≠ b → (TX10 a).2.1 ≠ (TX10 b).2.1 := by decide +kernel
theorem tyX10_ok : ∀ k, k < 29 → parseFieldDescriptor (TX10 k).2.2.1 = some (tyX10 k) := by decide +kernel
abbrev cX10_init : ByteArray := prog_12_method_1_code
def yX10_init : MethodName := ⟨RX10, "<init>", "()V"⟩
abbrev cX10_thrown : ByteArray := prog_12_method_2_code
def yX10_thrown : MethodName := ⟨RX10, "thrown", "()I"⟩
abbrev cX10_fails : ByteArray := prog_12_method_3_code
def yX10_fails : MethodName := ⟨RX10, "fails", "(ZI)Z"⟩
abbrev cX10_in : ByteArray := prog_12_method_4_code
def yX10_in : MethodName := ⟨RX10, "in", "(III)Z"⟩
abbrev cX10_least : ByteArray := prog_12_method_5_code
def yX10_least : MethodName := ⟨RX10, "least", "(II)I"⟩
abbrev cX10_isCell : ByteArray := prog_12_method_6_code
def yX10_isCell : MethodName := ⟨RX10, "isCell", "(I)Z"⟩
abbrev cX10_isShip : ByteArray := prog_12_method_7_code
def yX10_isShip : MethodName := ⟨RX10, "isShip", "(I)Z"⟩
abbrev cX10_isMean : ByteArray := prog_12_method_8_code
def yX10_isMean : MethodName := ⟨RX10, "isMean", "(I)Z"⟩
abbrev cX10_beside : ByteArray := prog_12_method_9_code
def yX10_beside : MethodName := ⟨RX10, "beside", "(II)I"⟩
abbrev cX10_borderOf : ByteArray := prog_12_method_10_code
def yX10_borderOf : MethodName := ⟨RX10, "borderOf", "(II)I"⟩
abbrev cX10_holds : ByteArray := prog_12_method_11_code
def yX10_holds : MethodName := ⟨RX10, "holds", "(I)I"⟩
abbrev cX10_tide : ByteArray := prog_12_method_12_code
def yX10_tide : MethodName := ⟨RX10, "tide", "(I)I"⟩
abbrev cX10_leak : ByteArray := prog_12_method_13_code
def yX10_leak : MethodName := ⟨RX10, "leak", "(II)I"⟩
abbrev cX10_boomOn : ByteArray := prog_12_method_14_code
def yX10_boomOn : MethodName := ⟨RX10, "boomOn", "(I)I"⟩
abbrev cX10_weather : ByteArray := prog_12_method_15_code
def yX10_weather : MethodName := ⟨RX10, "weather", "(I)V"⟩
abbrev cX10_look : ByteArray := prog_12_method_16_code
def yX10_look : MethodName := ⟨RX10, "look", "(I)V"⟩
abbrev cX10_drift : ByteArray := prog_12_method_17_code
def yX10_drift : MethodName := ⟨RX10, "drift", "(I)V"⟩
abbrev cX10_lowestWater : ByteArray := prog_12_method_18_code
def yX10_lowestWater : MethodName := ⟨RX10, "lowestWater", "(I)I"⟩
abbrev cX10_back : ByteArray := prog_12_method_19_code
def yX10_back : MethodName := ⟨RX10, "back", "(II)I"⟩
abbrev cX10_skim : ByteArray := prog_12_method_20_code
def yX10_skim : MethodName := ⟨RX10, "skim", "(I)V"⟩
abbrev cX10_suffer : ByteArray := prog_12_method_21_code
def yX10_suffer : MethodName := ⟨RX10, "suffer", "(I)V"⟩
abbrev cX10_hour : ByteArray := prog_12_method_22_code
def yX10_hour : MethodName := ⟨RX10, "hour", "()V"⟩
abbrev cX10_shore : ByteArray := prog_12_method_23_code
def yX10_shore : MethodName := ⟨RX10, "shore", "(II)I"⟩
abbrev cX10_depth : ByteArray := prog_12_method_24_code
def yX10_depth : MethodName := ⟨RX10, "depth", "(II)I"⟩
abbrev cX10_wind : ByteArray := prog_12_method_25_code
def yX10_wind : MethodName := ⟨RX10, "wind", "(II)I"⟩
abbrev cX10_ship : ByteArray := prog_12_method_26_code
def yX10_ship : MethodName := ⟨RX10, "ship", "(II)I"⟩
abbrev cX10_hole : ByteArray := prog_12_method_27_code
def yX10_hole : MethodName := ⟨RX10, "hole", "(II)I"⟩
abbrev cX10_pump : ByteArray := prog_12_method_28_code
def yX10_pump : MethodName := ⟨RX10, "pump", "(III)I"⟩
abbrev cX10_shipHas : ByteArray := prog_12_method_29_code
def yX10_shipHas : MethodName := ⟨RX10, "shipHas", "(I)I"⟩
abbrev cX10_pass : ByteArray := prog_12_method_30_code
def yX10_pass : MethodName := ⟨RX10, "pass", "(I)I"⟩
abbrev cX10_signatures : ByteArray := prog_12_method_31_code
def yX10_signatures : MethodName := ⟨RX10, "signatures", "(I)I"⟩
abbrev cX10_at : ByteArray := prog_12_method_32_code
def yX10_at : MethodName := ⟨RX10, "at", "(II)I"⟩
abbrev cX10_mean : ByteArray := prog_12_method_33_code
def yX10_mean : MethodName := ⟨RX10, "mean", "(IIII)I"⟩
abbrev cX10_boom : ByteArray := prog_12_method_34_code
def yX10_boom : MethodName := ⟨RX10, "boom", "(III)I"⟩
abbrev cX10_skimmer : ByteArray := prog_12_method_35_code
def yX10_skimmer : MethodName := ⟨RX10, "skimmer", "(III)I"⟩
abbrev cX10_team : ByteArray := prog_12_method_36_code
def yX10_team : MethodName := ⟨RX10, "team", "(IZ)I"⟩
abbrev cX10_move : ByteArray := prog_12_method_37_code
def yX10_move : MethodName := ⟨RX10, "move", "(II)I"⟩
abbrev cX10_carry : ByteArray := prog_12_method_38_code
def yX10_carry : MethodName := ⟨RX10, "carry", "(I)I"⟩
abbrev cX10_teach : ByteArray := prog_12_method_39_code
def yX10_teach : MethodName := ⟨RX10, "teach", "(I)Z"⟩
abbrev cX10_clean : ByteArray := prog_12_method_40_code
def yX10_clean : MethodName := ⟨RX10, "clean", "(II)I"⟩
abbrev cX10_meanIs : ByteArray := prog_12_method_41_code
def yX10_meanIs : MethodName := ⟨RX10, "meanIs", "(II)I"⟩
abbrev cX10_isAgainst : ByteArray := prog_12_method_42_code
def yX10_isAgainst : MethodName := ⟨RX10, "isAgainst", "(III)Z"⟩
abbrev cX10_rules : ByteArray := prog_12_method_43_code
def yX10_rules : MethodName := ⟨RX10, "rules", "(III)I"⟩
abbrev cX10_use : ByteArray := prog_12_method_44_code
def yX10_use : MethodName := ⟨RX10, "use", "(II)I"⟩
abbrev cX10_why : ByteArray := prog_12_method_45_code
def yX10_why : MethodName := ⟨RX10, "why", "(III)I"⟩
abbrev cX10_birds : ByteArray := prog_12_method_46_code
def yX10_birds : MethodName := ⟨RX10, "birds", "(II)I"⟩
abbrev cX10_wash : ByteArray := prog_12_method_47_code
def yX10_wash : MethodName := ⟨RX10, "wash", "(II)I"⟩
abbrev cX10_sign : ByteArray := prog_12_method_48_code
def yX10_sign : MethodName := ⟨RX10, "sign", "(II)Z"⟩
abbrev cX10_site : ByteArray := prog_12_method_49_code
def yX10_site : MethodName := ⟨RX10, "site", "(II)I"⟩
abbrev cX10_deliver : ByteArray := prog_12_method_50_code
def yX10_deliver : MethodName := ⟨RX10, "deliver", "(III)I"⟩
abbrev cX10_waste : ByteArray := prog_12_method_51_code
def yX10_waste : MethodName := ⟨RX10, "waste", "(I)I"⟩
abbrev cX10_claim : ByteArray := prog_12_method_52_code
def yX10_claim : MethodName := ⟨RX10, "claim", "(I)I"⟩
abbrev cX10_layers : ByteArray := prog_12_method_53_code
def yX10_layers : MethodName := ⟨RX10, "layers", "(II)I"⟩
abbrev cX10_due : ByteArray := prog_12_method_54_code
def yX10_due : MethodName := ⟨RX10, "due", "(II)I"⟩
abbrev cX10_ahead : ByteArray := prog_12_method_55_code
def yX10_ahead : MethodName := ⟨RX10, "ahead", "(II)I"⟩
abbrev cX10_floats : ByteArray := prog_12_method_56_code
def yX10_floats : MethodName := ⟨RX10, "floats", "(IZ)I"⟩
abbrev cX10_goes : ByteArray := prog_12_method_57_code
def yX10_goes : MethodName := ⟨RX10, "goes", "(IZ)I"⟩
abbrev cX10_strands : ByteArray := prog_12_method_58_code
def yX10_strands : MethodName := ⟨RX10, "strands", "(I)I"⟩
abbrev cX10_nextAnew : ByteArray := prog_12_method_59_code
def yX10_nextAnew : MethodName := ⟨RX10, "nextAnew", "(I)I"⟩
abbrev cX10_over : ByteArray := prog_12_method_60_code
def yX10_over : MethodName := ⟨RX10, "over", "(II)I"⟩
abbrev cX10_sum : ByteArray := prog_12_method_61_code
def yX10_sum : MethodName := ⟨RX10, "sum", "(I)I"⟩
def RJ6 : String := "java/lang/Integer"
def TJ6 : u_T := fun k => match k with
  | _ => ("", "", "", false)
def tyJ6 : Nat → FieldType := fun k => match k with
  | _ => .int
theorem nmJ6 : ∀ a, a < 0 → ∀ b, b < 0 → a ≠ b → (TJ6 a).2.1 ≠ (TJ6 b).2.1 := by decide +kernel
theorem tyJ6_ok : ∀ k, k < 0 → parseFieldDescriptor (TJ6 k).2.2.1 = some (tyJ6 k) := by decide +kernel
abbrev cJ6_bitCount_0f7a4 : ByteArray := prog_17_method_49_code
def yJ6_bitCount_0f7a4 : MethodName := ⟨RJ6, "bitCount", "(I)I"⟩
def RJ7 : String := "java/util/Arrays"
def TJ7 : u_T := fun k => match k with
  | _ => ("", "", "", false)
def tyJ7 : Nat → FieldType := fun k => match k with
  | _ => .int
theorem nmJ7 : ∀ a, a < 0 → ∀ b, b < 0 → a ≠ b → (TJ7 a).2.1 ≠ (TJ7 b).2.1 := by decide +kernel
theorem tyJ7_ok : ∀ k, k < 0 → parseFieldDescriptor (TJ7 k).2.2.1 = some (tyJ7 k) := by decide +kernel
abbrev cJ7_fill_53178 : ByteArray := prog_23_method_103_code
def yJ7_fill_53178 : MethodName := ⟨RJ7, "fill", "([II)V"⟩
def RL : String := "SlickboomLaw"
abbrev cL_shore : ByteArray := method_3_code
def yL_shore : MethodName := ⟨RL, "shore", "(LSlickboom;II[J)I"⟩
abbrev cL_depth : ByteArray := method_4_code
def yL_depth : MethodName := ⟨RL, "depth", "(LSlickboom;II[J)I"⟩
abbrev cL_wind : ByteArray := method_5_code
def yL_wind : MethodName := ⟨RL, "wind", "(LSlickboom;II[J)I"⟩
abbrev cL_ship : ByteArray := method_6_code
def yL_ship : MethodName := ⟨RL, "ship", "(LSlickboom;II[J)I"⟩
abbrev cL_hole : ByteArray := method_7_code
def yL_hole : MethodName := ⟨RL, "hole", "(LSlickboom;II[J)I"⟩
abbrev cL_pump : ByteArray := method_8_code
def yL_pump : MethodName := ⟨RL, "pump", "(LSlickboom;III[J)I"⟩
abbrev cL_shipHas : ByteArray := method_9_code
def yL_shipHas : MethodName := ⟨RL, "shipHas", "(LSlickboom;I[J)I"⟩
abbrev cL_pass : ByteArray := method_10_code
def yL_pass : MethodName := ⟨RL, "pass", "(LSlickboom;I[J)I"⟩
abbrev cL_at : ByteArray := method_11_code
def yL_at : MethodName := ⟨RL, "at", "(LSlickboom;II[J)I"⟩
abbrev cL_boom : ByteArray := method_12_code
def yL_boom : MethodName := ⟨RL, "boom", "(LSlickboom;III[J)I"⟩
abbrev cL_skimmer : ByteArray := method_13_code
def yL_skimmer : MethodName := ⟨RL, "skimmer", "(LSlickboom;III[J)I"⟩
abbrev cL_team : ByteArray := method_14_code
def yL_team : MethodName := ⟨RL, "team", "(LSlickboom;IZ[J)I"⟩
abbrev cL_move : ByteArray := method_15_code
def yL_move : MethodName := ⟨RL, "move", "(LSlickboom;II[J)I"⟩
abbrev cL_carry : ByteArray := method_16_code
def yL_carry : MethodName := ⟨RL, "carry", "(LSlickboom;I[J)I"⟩
abbrev cL_teach : ByteArray := method_17_code
def yL_teach : MethodName := ⟨RL, "teach", "(LSlickboom;I[J)I"⟩
abbrev cL_clean : ByteArray := method_18_code
def yL_clean : MethodName := ⟨RL, "clean", "(LSlickboom;II[J)I"⟩
abbrev cL_meanIs : ByteArray := method_19_code
def yL_meanIs : MethodName := ⟨RL, "meanIs", "(LSlickboom;II[J)I"⟩
abbrev cL_use : ByteArray := method_20_code
def yL_use : MethodName := ⟨RL, "use", "(LSlickboom;II[J)I"⟩
abbrev cL_why : ByteArray := method_21_code
def yL_why : MethodName := ⟨RL, "why", "(LSlickboom;III[J)I"⟩
abbrev cL_birds : ByteArray := method_22_code
def yL_birds : MethodName := ⟨RL, "birds", "(LSlickboom;II[J)I"⟩
abbrev cL_wash : ByteArray := method_23_code
def yL_wash : MethodName := ⟨RL, "wash", "(LSlickboom;II[J)I"⟩
abbrev cL_sign : ByteArray := method_24_code
def yL_sign : MethodName := ⟨RL, "sign", "(LSlickboom;II[J)I"⟩
abbrev cL_site : ByteArray := method_25_code
def yL_site : MethodName := ⟨RL, "site", "(LSlickboom;II[J)I"⟩
abbrev cL_deliver : ByteArray := method_26_code
def yL_deliver : MethodName := ⟨RL, "deliver", "(LSlickboom;III[J)I"⟩
abbrev cL_waste : ByteArray := method_27_code
def yL_waste : MethodName := ⟨RL, "waste", "(LSlickboom;I[J)I"⟩
abbrev cL_claim : ByteArray := method_28_code
def yL_claim : MethodName := ⟨RL, "claim", "(LSlickboom;I[J)I"⟩
abbrev cL_layers : ByteArray := method_29_code
def yL_layers : MethodName := ⟨RL, "layers", "(LSlickboom;II[J)I"⟩
abbrev cL_due : ByteArray := method_30_code
def yL_due : MethodName := ⟨RL, "due", "(LSlickboom;II[J)I"⟩
abbrev cL_ahead : ByteArray := method_31_code
def yL_ahead : MethodName := ⟨RL, "ahead", "(LSlickboom;II[J)I"⟩
abbrev cL_nextAnew : ByteArray := method_32_code
def yL_nextAnew : MethodName := ⟨RL, "nextAnew", "(LSlickboom;I[J)I"⟩
abbrev cL_sum : ByteArray := method_33_code
def yL_sum : MethodName := ⟨RL, "sum", "(LSlickboom;I[J)I"⟩
abbrev cL_law : ByteArray := code
def yL_law : MethodName := ⟨RL, "law", "([I)Z"⟩
end
section
theorem dk_of {c : ByteArray} {pr : List (Nat × (Instr × Nat))} (h : pr.all (fun q => decide (decode c q.1 = .ok q.2)) = true) (i : Nat) {pc : Nat} {x : Instr × Nat} (hi : pr[i]? = some (pc, x)) : decode c pc = .ok x := by
  have := List.all_eq_true.mp h _ (List.mem_of_getElem? hi)
  simpa using this
def pX0_init : List (Nat × (Instr × Nat)) := [(0, (.aload_n 0, 1)), (1, (.invokespecial 3, 3)), (4, (.aload_n 0, 1)), (5, (.new 9, 3)), (8, (.dup, 1)), (9, (.invokespecial 11, 3)), (12, (.putfield 12, 3)), (15, (.aload_n 0, 1)), (16, (.new 18, 3)), (19, (.dup, 1)), (20, (.invokespecial 20, 3)), (23, (.putfield 21, 3)), (26, (.aload_n 0, 1)), (27, (.new 25, 3)), (30, (.dup, 1)), (31, (.invokespecial 27, 3)), (34, (.putfield 28, 3)), (37, (.aload_n 0, 1)), (38, (.new 32, 3)), (41, (.dup, 1)), (42, (.invokespecial 34, 3)), (45, (.putfield 35, 3)), (48, (.aload_n 0, 1)), (49, (.iconst 0, 1)), (50, (.putfield 39, 3)), (53, (.aload_n 0, 1)), (54, (.bipush 24, 2)), (56, (.newarray .int, 2)), (58, (.putfield 43, 3)), (61, (.aload_n 0, 1)), (62, (.bipush 24, 2)), (64, (.newarray .int, 2)), (66, (.putfield 47, 3)), (69, (.return_, 1))]
theorem tX0_init : pX0_init.all (fun q => decide (decode cX0_init q.1 = .ok q.2)) = true := by decide +kernel
def pX0_becomeLike : List (Nat × (Instr × Nat)) := [(0, (.aload_n 0, 1)), (1, (.getfield 12, 3)), (4, (.aload_n 1, 1)), (5, (.getfield 12, 3)), (8, (.invokevirtual 50, 3)), (11, (.aload_n 0, 1)), (12, (.getfield 21, 3)), (15, (.aload_n 1, 1)), (16, (.getfield 21, 3)), (19, (.invokevirtual 54, 3)), (22, (.aload_n 0, 1)), (23, (.getfield 28, 3)), (26, (.aload_n 1, 1)), (27, (.getfield 28, 3)), (30, (.invokevirtual 57, 3)), (33, (.aload_n 0, 1)), (34, (.aload_n 1, 1)), (35, (.getfield 60, 3)), (38, (.putfield 60, 3)), (41, (.aload_n 0, 1)), (42, (.aload_n 1, 1)), (43, (.getfield 39, 3)), (46, (.putfield 39, 3)), (49, (.aload_n 0, 1)), (50, (.aload_n 1, 1)), (51, (.getfield 63, 3)), (54, (.putfield 63, 3)), (57, (.return_, 1))]
theorem tX0_becomeLike : pX0_becomeLike.all (fun q => decide (decode cX0_becomeLike q.1 = .ok q.2)) = true := by decide +kernel
def pX0_tideOf : List (Nat × (Instr × Nat)) := [(0, (.iload_n 0, 1)), (1, (.bipush 12, 2)), (3, (.irem, 1)), (4, (.istore_n 1, 1)), (5, (.iload_n 1, 1)), (6, (.bipush 6, 2)), (8, (.if_icmp .gt 7, 3)), (11, (.iload_n 1, 1)), (12, (.goto 7, 3)), (15, (.bipush 12, 2)), (17, (.iload_n 1, 1)), (18, (.isub, 1)), (19, (.ireturn, 1))]
theorem tX0_tideOf : pX0_tideOf.all (fun q => decide (decode cX0_tideOf q.1 = .ok q.2)) = true := by decide +kernel
def pX0_letPass : List (Nat × (Instr × Nat)) := [(0, (.iconst 0, 1)), (1, (.istore_n 2, 1)), (2, (.iload_n 2, 1)), (3, (.iload_n 1, 1)), (4, (.if_icmp .ge 55, 3)), (7, (.aload_n 0, 1)), (8, (.dup, 1)), (9, (.getfield 60, 3)), (12, (.iconst 1, 1)), (13, (.iadd, 1)), (14, (.putfield 60, 3)), (17, (.aload_n 0, 1)), (18, (.invokevirtual 66, 3)), (21, (.aload_n 0, 1)), (22, (.invokevirtual 69, 3)), (25, (.aload_n 0, 1)), (26, (.invokevirtual 72, 3)), (29, (.aload_n 0, 1)), (30, (.getfield 60, 3)), (33, (.invokestatic 75, 3)), (36, (.bipush 6, 2)), (38, (.if_icmp .ne 7, 3)), (41, (.aload_n 0, 1)), (42, (.invokevirtual 79, 3)), (45, (.aload_n 0, 1)), (46, (.invokevirtual 82, 3)), (49, (.aload_n 0, 1)), (50, (.invokevirtual 85, 3)), (53, (.iinc 2 1, 3)), (56, (.goto (-54), 3)), (59, (.return_, 1))]
theorem tX0_letPass : pX0_letPass.all (fun q => decide (decode cX0_letPass q.1 = .ok q.2)) = true := by decide +kernel
def pX0_leak : List (Nat × (Instr × Nat)) := [(0, (.aload_n 0, 1)), (1, (.getfield 60, 3)), (4, (.invokestatic 75, 3)), (7, (.istore_n 1, 1)), (8, (.iconst 0, 1)), (9, (.istore_n 2, 1)), (10, (.iload_n 2, 1)), (11, (.aload_n 0, 1)), (12, (.getfield 21, 3)), (15, (.getfield 88, 3)), (18, (.if_icmp .ge 65, 3)), (21, (.aload_n 0, 1)), (22, (.getfield 21, 3)), (25, (.iload_n 2, 1)), (26, (.iload_n 1, 1)), (27, (.invokevirtual 91, 3)), (30, (.istore_n 3, 1)), (31, (.aload_n 0, 1)), (32, (.getfield 21, 3)), (35, (.getfield 95, 3)), (38, (.iload_n 2, 1)), (39, (.dup2, 1)), (40, (.iaload, 1)), (41, (.iload_n 3, 1)), (42, (.isub, 1)), (43, (.iastore, 1)), (44, (.aload_n 0, 1)), (45, (.getfield 12, 3)), (48, (.getfield 98, 3)), (51, (.aload_n 0, 1)), (52, (.getfield 21, 3)), (55, (.getfield 101, 3)), (58, (.iload_n 2, 1)), (59, (.iaload, 1)), (60, (.dup2, 1)), (61, (.iaload, 1)), (62, (.iload_n 3, 1)), (63, (.iadd, 1)), (64, (.iastore, 1)), (65, (.aload_n 0, 1)), (66, (.getfield 35, 3)), (69, (.iload_n 3, 1)), (70, (.aload_n 0, 1)), (71, (.getfield 60, 3)), (74, (.invokevirtual 104, 3)), (77, (.iinc 2 1, 3)), (80, (.goto (-70), 3)), (83, (.return_, 1))]
theorem tX0_leak : pX0_leak.all (fun q => decide (decode cX0_leak q.1 = .ok q.2)) = true := by decide +kernel
def pX0_weather : List (Nat × (Instr × Nat)) := [(0, (.iconst 0, 1)), (1, (.istore_n 1, 1)), (2, (.iload_n 1, 1)), (3, (.bipush 24, 2)), (5, (.if_icmp .ge 129, 3)), (8, (.aload_n 0, 1)), (9, (.getfield 12, 3)), (12, (.getfield 98, 3)), (15, (.iload_n 1, 1)), (16, (.iaload, 1)), (17, (.bipush 20, 2)), (19, (.idiv, 1)), (20, (.istore_n 2, 1)), (21, (.aload_n 0, 1)), (22, (.getfield 12, 3)), (25, (.getfield 98, 3)), (28, (.iload_n 1, 1)), (29, (.dup2, 1)), (30, (.iaload, 1)), (31, (.iload_n 2, 1)), (32, (.isub, 1)), (33, (.iastore, 1)), (34, (.aload_n 0, 1)), (35, (.getfield 35, 3)), (38, (.dup, 1)), (39, (.getfield 108, 3)), (42, (.iload_n 2, 1)), (43, (.iadd, 1)), (44, (.putfield 108, 3)), (47, (.aload_n 0, 1)), (48, (.getfield 12, 3)), (51, (.getfield 98, 3)), (54, (.iload_n 1, 1)), (55, (.iaload, 1)), (56, (.bipush 10, 2)), (58, (.idiv, 1)), (59, (.istore_n 3, 1)), (60, (.aload_n 0, 1)), (61, (.getfield 12, 3)), (64, (.getfield 98, 3)), (67, (.iload_n 1, 1)), (68, (.dup2, 1)), (69, (.iaload, 1)), (70, (.iload_n 3, 1)), (71, (.isub, 1)), (72, (.iastore, 1)), (73, (.aload_n 0, 1)), (74, (.getfield 12, 3)), (77, (.getfield 111, 3)), (80, (.iload_n 1, 1)), (81, (.dup2, 1)), (82, (.iaload, 1)), (83, (.iload_n 3, 1)), (84, (.iadd, 1)), (85, (.iastore, 1)), (86, (.aload_n 0, 1)), (87, (.getfield 12, 3)), (90, (.getfield 111, 3)), (93, (.iload_n 1, 1)), (94, (.iaload, 1)), (95, (.bipush 50, 2)), (97, (.idiv, 1)), (98, (.istore 4, 2)), (100, (.aload_n 0, 1)), (101, (.getfield 12, 3)), (104, (.getfield 111, 3)), (107, (.iload_n 1, 1)), (108, (.dup2, 1)), (109, (.iaload, 1)), (110, (.iload 4, 2)), (112, (.isub, 1)), (113, (.iastore, 1)), (114, (.aload_n 0, 1)), (115, (.getfield 35, 3)), (118, (.dup, 1)), (119, (.getfield 114, 3)), (122, (.iload 4, 2)), (124, (.iadd, 1)), (125, (.putfield 114, 3)), (128, (.iinc 1 1, 3)), (131, (.goto (-129), 3)), (134, (.return_, 1))]
theorem tX0_weather : pX0_weather.all (fun q => decide (decode cX0_weather q.1 = .ok q.2)) = true := by decide +kernel
def pX0_drift : List (Nat × (Instr × Nat)) := [(0, (.iconst 0, 1)), (1, (.istore_n 1, 1)), (2, (.iload_n 1, 1)), (3, (.bipush 24, 2)), (5, (.if_icmp .ge 14, 3)), (8, (.aload_n 0, 1)), (9, (.iload_n 1, 1)), (10, (.invokevirtual 117, 3)), (13, (.iinc 1 1, 3)), (16, (.goto (-14), 3)), (19, (.iconst 0, 1)), (20, (.istore_n 1, 1)), (21, (.iload_n 1, 1)), (22, (.bipush 24, 2)), (24, (.if_icmp .ge 22, 3)), (27, (.aload_n 0, 1)), (28, (.iload_n 1, 1)), (29, (.iload_n 1, 1)), (30, (.aload_n 0, 1)), (31, (.getfield 39, 3)), (34, (.invokestatic 121, 3)), (37, (.invokevirtual 124, 3)), (40, (.iinc 1 1, 3)), (43, (.goto (-22), 3)), (46, (.return_, 1))]
theorem tX0_drift : pX0_drift.all (fun q => decide (decode cX0_drift q.1 = .ok q.2)) = true := by decide +kernel
def pX0_findWhatGoes : List (Nat × (Instr × Nat)) := [(0, (.aload_n 0, 1)), (1, (.iload_n 1, 1)), (2, (.invokevirtual 127, 3)), (5, (.istore_n 2, 1)), (6, (.aload_n 0, 1)), (7, (.aload_n 0, 1)), (8, (.getfield 12, 3)), (11, (.getfield 98, 3)), (14, (.iload_n 1, 1)), (15, (.iaload, 1)), (16, (.iload_n 2, 1)), (17, (.invokevirtual 130, 3)), (20, (.istore_n 3, 1)), (21, (.aload_n 0, 1)), (22, (.aload_n 0, 1)), (23, (.getfield 12, 3)), (26, (.getfield 111, 3)), (29, (.iload_n 1, 1)), (30, (.iaload, 1)), (31, (.iload_n 2, 1)), (32, (.iload_n 3, 1)), (33, (.isub, 1)), (34, (.invokevirtual 130, 3)), (37, (.istore 4, 2)), (39, (.iload_n 3, 1)), (40, (.iload 4, 2)), (42, (.iadd, 1)), (43, (.ifCond .le 65, 3)), (46, (.aload_n 0, 1)), (47, (.getfield 28, 3)), (50, (.iload_n 1, 1)), (51, (.aload_n 0, 1)), (52, (.getfield 39, 3)), (55, (.invokevirtual 133, 3)), (58, (.istore 5, 2)), (60, (.iload 5, 2)), (62, (.iconst (-1), 1)), (63, (.if_icmp .eq 28, 3)), (66, (.aload_n 0, 1)), (67, (.getfield 28, 3)), (70, (.getfield 136, 3)), (73, (.iload 5, 2)), (75, (.iaload, 1)), (76, (.aload_n 0, 1)), (77, (.getfield 63, 3)), (80, (.if_icmp .lt 11, 3)), (83, (.iconst 0, 1)), (84, (.istore_n 3, 1)), (85, (.iconst 0, 1)), (86, (.istore 4, 2)), (88, (.goto 20, 3)), (91, (.iload 5, 2)), (93, (.iconst (-1), 1)), (94, (.if_icmp .eq 14, 3)), (97, (.aload_n 0, 1)), (98, (.getfield 28, 3)), (101, (.getfield 139, 3)), (104, (.iload 5, 2)), (106, (.iconst 1, 1)), (107, (.iastore, 1)), (108, (.aload_n 0, 1)), (109, (.getfield 43, 3)), (112, (.iload_n 1, 1)), (113, (.iload_n 3, 1)), (114, (.iastore, 1)), (115, (.aload_n 0, 1)), (116, (.getfield 47, 3)), (119, (.iload_n 1, 1)), (120, (.iload 4, 2)), (122, (.iastore, 1)), (123, (.return_, 1))]
theorem tX0_findWhatGoes : pX0_findWhatGoes.all (fun q => decide (decode cX0_findWhatGoes q.1 = .ok q.2)) = true := by decide +kernel
def pX0_blown : List (Nat × (Instr × Nat)) := [(0, (.iload_n 1, 1)), (1, (.aload_n 0, 1)), (2, (.getfield 63, 3)), (5, (.imul, 1)), (6, (.bipush 10, 2)), (8, (.idiv, 1)), (9, (.iload_n 2, 1)), (10, (.invokestatic 142, 3)), (13, (.ireturn, 1))]
theorem tX0_blown : pX0_blown.all (fun q => decide (decode cX0_blown q.1 = .ok q.2)) = true := by decide +kernel
def pX0_roomBehind : List (Nat × (Instr × Nat)) := [(0, (.iload_n 1, 1)), (1, (.aload_n 0, 1)), (2, (.getfield 39, 3)), (5, (.invokestatic 121, 3)), (8, (.istore_n 2, 1)), (9, (.iload_n 2, 1)), (10, (.iconst (-1), 1)), (11, (.if_icmp .eq 14, 3)), (14, (.aload_n 0, 1)), (15, (.getfield 12, 3)), (18, (.iload_n 2, 1)), (19, (.invokevirtual 147, 3)), (22, (.ifCond .eq 8, 3)), (25, (.ldc 151, 2)), (27, (.goto 11, 3)), (30, (.aload_n 0, 1)), (31, (.getfield 12, 3)), (34, (.iload_n 2, 1)), (35, (.invokevirtual 152, 3)), (38, (.ireturn, 1))]
theorem tX0_roomBehind : pX0_roomBehind.all (fun q => decide (decode cX0_roomBehind q.1 = .ok q.2)) = true := by decide +kernel
def pX0_letGo : List (Nat × (Instr × Nat)) := [(0, (.aload_n 0, 1)), (1, (.getfield 43, 3)), (4, (.iload_n 1, 1)), (5, (.iaload, 1)), (6, (.istore_n 3, 1)), (7, (.aload_n 0, 1)), (8, (.getfield 47, 3)), (11, (.iload_n 1, 1)), (12, (.iaload, 1)), (13, (.istore 4, 2)), (15, (.aload_n 0, 1)), (16, (.getfield 12, 3)), (19, (.getfield 98, 3)), (22, (.iload_n 1, 1)), (23, (.dup2, 1)), (24, (.iaload, 1)), (25, (.iload_n 3, 1)), (26, (.isub, 1)), (27, (.iastore, 1)), (28, (.aload_n 0, 1)), (29, (.getfield 12, 3)), (32, (.getfield 111, 3)), (35, (.iload_n 1, 1)), (36, (.dup2, 1)), (37, (.iaload, 1)), (38, (.iload 4, 2)), (40, (.isub, 1)), (41, (.iastore, 1)), (42, (.iload_n 2, 1)), (43, (.iconst (-1), 1)), (44, (.if_icmp .ne 22, 3)), (47, (.aload_n 0, 1)), (48, (.getfield 35, 3)), (51, (.dup, 1)), (52, (.getfield 155, 3)), (55, (.iload_n 3, 1)), (56, (.iload 4, 2)), (58, (.iadd, 1)), (59, (.iadd, 1)), (60, (.putfield 155, 3)), (63, (.goto 60, 3)), (66, (.aload_n 0, 1)), (67, (.getfield 12, 3)), (70, (.iload_n 2, 1)), (71, (.invokevirtual 147, 3)), (74, (.ifCond .eq 33, 3)), (77, (.aload_n 0, 1)), (78, (.getfield 12, 3)), (81, (.getfield 98, 3)), (84, (.iload_n 2, 1)), (85, (.dup2, 1)), (86, (.iaload, 1)), (87, (.iload_n 3, 1)), (88, (.iadd, 1)), (89, (.iastore, 1)), (90, (.aload_n 0, 1)), (91, (.getfield 12, 3)), (94, (.getfield 111, 3)), (97, (.iload_n 2, 1)), (98, (.dup2, 1)), (99, (.iaload, 1)), (100, (.iload 4, 2)), (102, (.iadd, 1)), (103, (.iastore, 1)), (104, (.goto 19, 3)), (107, (.aload_n 0, 1)), (108, (.getfield 12, 3)), (111, (.getfield 158, 3)), (114, (.iload_n 2, 1)), (115, (.dup2, 1)), (116, (.iaload, 1)), (117, (.iload_n 3, 1)), (118, (.iload 4, 2)), (120, (.iadd, 1)), (121, (.iadd, 1)), (122, (.iastore, 1)), (123, (.return_, 1))]
theorem tX0_letGo : pX0_letGo.all (fun q => decide (decode cX0_letGo q.1 = .ok q.2)) = true := by decide +kernel
def pX0_giveBack : List (Nat × (Instr × Nat)) := [(0, (.iconst 0, 1)), (1, (.istore_n 1, 1)), (2, (.iload_n 1, 1)), (3, (.bipush 24, 2)), (5, (.if_icmp .ge 67, 3)), (8, (.aload_n 0, 1)), (9, (.getfield 12, 3)), (12, (.iload_n 1, 1)), (13, (.invokevirtual 161, 3)), (16, (.istore_n 2, 1)), (17, (.iload_n 2, 1)), (18, (.iconst (-1), 1)), (19, (.if_icmp .eq 47, 3)), (22, (.aload_n 0, 1)), (23, (.getfield 12, 3)), (26, (.iload_n 1, 1)), (27, (.aload_n 0, 1)), (28, (.getfield 12, 3)), (31, (.getfield 158, 3)), (34, (.iload_n 1, 1)), (35, (.iaload, 1)), (36, (.invokevirtual 164, 3)), (39, (.istore_n 3, 1)), (40, (.aload_n 0, 1)), (41, (.getfield 12, 3)), (44, (.getfield 158, 3)), (47, (.iload_n 1, 1)), (48, (.dup2, 1)), (49, (.iaload, 1)), (50, (.iload_n 3, 1)), (51, (.isub, 1)), (52, (.iastore, 1)), (53, (.aload_n 0, 1)), (54, (.getfield 12, 3)), (57, (.getfield 111, 3)), (60, (.iload_n 2, 1)), (61, (.dup2, 1)), (62, (.iaload, 1)), (63, (.iload_n 3, 1)), (64, (.iadd, 1)), (65, (.iastore, 1)), (66, (.iinc 1 1, 3)), (69, (.goto (-67), 3)), (72, (.return_, 1))]
theorem tX0_giveBack : pX0_giveBack.all (fun q => decide (decode cX0_giveBack q.1 = .ok q.2)) = true := by decide +kernel
def pX0_skim : List (Nat × (Instr × Nat)) := [(0, (.iconst 0, 1)), (1, (.istore_n 1, 1)), (2, (.iload_n 1, 1)), (3, (.aload_n 0, 1)), (4, (.getfield 28, 3)), (7, (.getfield 167, 3)), (10, (.if_icmp .ge 113, 3)), (13, (.aload_n 0, 1)), (14, (.getfield 28, 3)), (17, (.getfield 168, 3)), (20, (.iload_n 1, 1)), (21, (.iaload, 1)), (22, (.iconst 1, 1)), (23, (.if_icmp .ne 94, 3)), (26, (.aload_n 0, 1)), (27, (.getfield 28, 3)), (30, (.getfield 171, 3)), (33, (.iload_n 1, 1)), (34, (.iaload, 1)), (35, (.istore_n 2, 1)), (36, (.aload_n 0, 1)), (37, (.getfield 28, 3)), (40, (.iload_n 1, 1)), (41, (.aload_n 0, 1)), (42, (.getfield 12, 3)), (45, (.getfield 98, 3)), (48, (.iload_n 2, 1)), (49, (.iaload, 1)), (50, (.invokevirtual 172, 3)), (53, (.istore_n 3, 1)), (54, (.aload_n 0, 1)), (55, (.getfield 28, 3)), (58, (.iload_n 1, 1)), (59, (.iload_n 3, 1)), (60, (.aload_n 0, 1)), (61, (.getfield 12, 3)), (64, (.getfield 111, 3)), (67, (.iload_n 2, 1)), (68, (.iaload, 1)), (69, (.invokevirtual 175, 3)), (72, (.istore 4, 2)), (74, (.aload_n 0, 1)), (75, (.getfield 12, 3)), (78, (.getfield 98, 3)), (81, (.iload_n 2, 1)), (82, (.dup2, 1)), (83, (.iaload, 1)), (84, (.iload_n 3, 1)), (85, (.isub, 1)), (86, (.iastore, 1)), (87, (.aload_n 0, 1)), (88, (.getfield 12, 3)), (91, (.getfield 111, 3)), (94, (.iload_n 2, 1)), (95, (.dup2, 1)), (96, (.iaload, 1)), (97, (.iload 4, 2)), (99, (.isub, 1)), (100, (.iastore, 1)), (101, (.aload_n 0, 1)), (102, (.getfield 28, 3)), (105, (.getfield 139, 3)), (108, (.iload_n 1, 1)), (109, (.dup2, 1)), (110, (.iaload, 1)), (111, (.iload_n 3, 1)), (112, (.iload 4, 2)), (114, (.iadd, 1)), (115, (.iadd, 1)), (116, (.iastore, 1)), (117, (.iinc 1 1, 3)), (120, (.goto (-118), 3)), (123, (.return_, 1))]
theorem tX0_skim : pX0_skim.all (fun q => decide (decode cX0_skim q.1 = .ok q.2)) = true := by decide +kernel
def pX0_harmShores : List (Nat × (Instr × Nat)) := [(0, (.iconst 0, 1)), (1, (.istore_n 1, 1)), (2, (.iload_n 1, 1)), (3, (.bipush 24, 2)), (5, (.if_icmp .ge 38, 3)), (8, (.aload_n 0, 1)), (9, (.getfield 12, 3)), (12, (.iload_n 1, 1)), (13, (.invokevirtual 179, 3)), (16, (.aload_n 0, 1)), (17, (.getfield 12, 3)), (20, (.iload_n 1, 1)), (21, (.invokevirtual 182, 3)), (24, (.ifCond .eq 13, 3)), (27, (.aload_n 0, 1)), (28, (.getfield 12, 3)), (31, (.getfield 185, 3)), (34, (.iload_n 1, 1)), (35, (.iconst 0, 1)), (36, (.iastore, 1)), (37, (.iinc 1 1, 3)), (40, (.goto (-38), 3)), (43, (.return_, 1))]
theorem tX0_harmShores : pX0_harmShores.all (fun q => decide (decode cX0_harmShores q.1 = .ok q.2)) = true := by decide +kernel
def pX0_disperse : List (Nat × (Instr × Nat)) := [(0, (.aload_n 0, 1)), (1, (.getfield 12, 3)), (4, (.getfield 98, 3)), (7, (.iload_n 1, 1)), (8, (.iaload, 1)), (9, (.istore_n 2, 1)), (10, (.aload_n 0, 1)), (11, (.getfield 12, 3)), (14, (.getfield 98, 3)), (17, (.iload_n 1, 1)), (18, (.iconst 0, 1)), (19, (.iastore, 1)), (20, (.aload_n 0, 1)), (21, (.getfield 35, 3)), (24, (.dup, 1)), (25, (.getfield 188, 3)), (28, (.iload_n 2, 1)), (29, (.iadd, 1)), (30, (.putfield 188, 3)), (33, (.iload_n 2, 1)), (34, (.ireturn, 1))]
theorem tX0_disperse : pX0_disperse.all (fun q => decide (decode cX0_disperse q.1 = .ok q.2)) = true := by decide +kernel
def pX0_burn : List (Nat × (Instr × Nat)) := [(0, (.aload_n 0, 1)), (1, (.getfield 12, 3)), (4, (.getfield 98, 3)), (7, (.iload_n 1, 1)), (8, (.iaload, 1)), (9, (.bipush 9, 2)), (11, (.imul, 1)), (12, (.bipush 10, 2)), (14, (.idiv, 1)), (15, (.istore_n 2, 1)), (16, (.aload_n 0, 1)), (17, (.getfield 12, 3)), (20, (.getfield 98, 3)), (23, (.iload_n 1, 1)), (24, (.dup2, 1)), (25, (.iaload, 1)), (26, (.iload_n 2, 1)), (27, (.isub, 1)), (28, (.iastore, 1)), (29, (.aload_n 0, 1)), (30, (.getfield 35, 3)), (33, (.dup, 1)), (34, (.getfield 191, 3)), (37, (.iload_n 2, 1)), (38, (.iadd, 1)), (39, (.putfield 191, 3)), (42, (.iload_n 2, 1)), (43, (.ireturn, 1))]
theorem tX0_burn : pX0_burn.all (fun q => decide (decode cX0_burn q.1 = .ok q.2)) = true := by decide +kernel
def pX0_hasLeakedWithin : List (Nat × (Instr × Nat)) := [(0, (.aload_n 0, 1)), (1, (.getfield 35, 3)), (4, (.getfield 194, 3)), (7, (.iconst (-1), 1)), (8, (.if_icmp .eq 23, 3)), (11, (.aload_n 0, 1)), (12, (.getfield 60, 3)), (15, (.aload_n 0, 1)), (16, (.getfield 35, 3)), (19, (.getfield 194, 3)), (22, (.isub, 1)), (23, (.iload_n 1, 1)), (24, (.if_icmp .gt 7, 3)), (27, (.iconst 1, 1)), (28, (.goto 4, 3)), (31, (.iconst 0, 1)), (32, (.ireturn, 1))]
theorem tX0_hasLeakedWithin : pX0_hasLeakedWithin.all (fun q => decide (decode cX0_hasLeakedWithin q.1 = .ok q.2)) = true := by decide +kernel
def pX1_init : List (Nat × (Instr × Nat)) := [(0, (.aload_n 0, 1)), (1, (.invokespecial 3, 3)), (4, (.aload_n 0, 1)), (5, (.iconst (-1), 1)), (6, (.putfield 9, 3)), (9, (.return_, 1))]
theorem tX1_init : pX1_init.all (fun q => decide (decode cX1_init q.1 = .ok q.2)) = true := by decide +kernel
def pX1_noteLeak : List (Nat × (Instr × Nat)) := [(0, (.iload_n 1, 1)), (1, (.ifCond .le 16, 3)), (4, (.aload_n 0, 1)), (5, (.getfield 9, 3)), (8, (.iconst (-1), 1)), (9, (.if_icmp .ne 8, 3)), (12, (.aload_n 0, 1)), (13, (.iload_n 2, 1)), (14, (.putfield 9, 3)), (17, (.aload_n 0, 1)), (18, (.dup, 1)), (19, (.getfield 15, 3)), (22, (.iload_n 1, 1)), (23, (.iadd, 1)), (24, (.putfield 15, 3)), (27, (.return_, 1))]
theorem tX1_noteLeak : pX1_noteLeak.all (fun q => decide (decode cX1_noteLeak q.1 = .ok q.2)) = true := by decide +kernel
def pX2_init : List (Nat × (Instr × Nat)) := [(0, (.aload_n 0, 1)), (1, (.invokespecial 3, 3)), (4, (.aload_n 0, 1)), (5, (.bipush 24, 2)), (7, (.newarray .int, 2)), (9, (.putfield 9, 3)), (12, (.aload_n 0, 1)), (13, (.bipush 24, 2)), (15, (.newarray .int, 2)), (17, (.putfield 15, 3)), (20, (.aload_n 0, 1)), (21, (.getfield 15, 3)), (24, (.bipush 20, 2)), (26, (.invokestatic 18, 3)), (29, (.aload_n 0, 1)), (30, (.bipush 24, 2)), (32, (.newarray .int, 2)), (34, (.putfield 24, 3)), (37, (.aload_n 0, 1)), (38, (.bipush 24, 2)), (40, (.newarray .int, 2)), (42, (.putfield 27, 3)), (45, (.aload_n 0, 1)), (46, (.bipush 24, 2)), (48, (.newarray .int, 2)), (50, (.putfield 30, 3)), (53, (.aload_n 0, 1)), (54, (.bipush 24, 2)), (56, (.newarray .int, 2)), (58, (.putfield 33, 3)), (61, (.aload_n 0, 1)), (62, (.bipush 24, 2)), (64, (.newarray .int, 2)), (66, (.putfield 36, 3)), (69, (.aload_n 0, 1)), (70, (.bipush 24, 2)), (72, (.newarray .int, 2)), (74, (.putfield 39, 3)), (77, (.return_, 1))]
theorem tX2_init : pX2_init.all (fun q => decide (decode cX2_init q.1 = .ok q.2)) = true := by decide +kernel
def pX2_beside : List (Nat × (Instr × Nat)) := [(0, (.iload_n 0, 1)), (1, (.bipush 6, 2)), (3, (.idiv, 1)), (4, (.istore_n 2, 1)), (5, (.iload_n 0, 1)), (6, (.bipush 6, 2)), (8, (.irem, 1)), (9, (.istore_n 3, 1)), (10, (.iload_n 1, 1)), (11, (.tableswitch 64 0 2 #[25, 38, 50], 25)), (36, (.iload_n 3, 1)), (37, (.iconst 5, 1)), (38, (.if_icmp .ge 9, 3)), (41, (.iload_n 0, 1)), (42, (.iconst 1, 1)), (43, (.iadd, 1)), (44, (.goto 4, 3)), (47, (.iconst (-1), 1)), (48, (.ireturn, 1)), (49, (.iload_n 3, 1)), (50, (.ifCond .le 9, 3)), (53, (.iload_n 0, 1)), (54, (.iconst 1, 1)), (55, (.isub, 1)), (56, (.goto 4, 3)), (59, (.iconst (-1), 1)), (60, (.ireturn, 1)), (61, (.iload_n 2, 1)), (62, (.iconst 3, 1)), (63, (.if_icmp .ge 10, 3)), (66, (.iload_n 0, 1)), (67, (.bipush 6, 2)), (69, (.iadd, 1)), (70, (.goto 4, 3)), (73, (.iconst (-1), 1)), (74, (.ireturn, 1)), (75, (.iload_n 2, 1)), (76, (.ifCond .le 10, 3)), (79, (.iload_n 0, 1)), (80, (.bipush 6, 2)), (82, (.isub, 1)), (83, (.goto 4, 3)), (86, (.iconst (-1), 1)), (87, (.ireturn, 1))]
theorem tX2_beside : pX2_beside.all (fun q => decide (decode cX2_beside q.1 = .ok q.2)) = true := by decide +kernel
def pX2_opposite : List (Nat × (Instr × Nat)) := [(0, (.iload_n 0, 1)), (1, (.tableswitch 33 0 2 #[27, 29, 31], 27)), (28, (.iconst 1, 1)), (29, (.ireturn, 1)), (30, (.iconst 0, 1)), (31, (.ireturn, 1)), (32, (.iconst 3, 1)), (33, (.ireturn, 1)), (34, (.iconst 2, 1)), (35, (.ireturn, 1))]
theorem tX2_opposite : pX2_opposite.all (fun q => decide (decode cX2_opposite q.1 = .ok q.2)) = true := by decide +kernel
def pX2_lowestWaterBeside : List (Nat × (Instr × Nat)) := [(0, (.iconst (-1), 1)), (1, (.istore_n 2, 1)), (2, (.iconst 0, 1)), (3, (.istore_n 3, 1)), (4, (.iload_n 3, 1)), (5, (.iconst 3, 1)), (6, (.if_icmp .gt 45, 3)), (9, (.iload_n 1, 1)), (10, (.iload_n 3, 1)), (11, (.invokestatic 42, 3)), (14, (.istore 4, 2)), (16, (.iload 4, 2)), (18, (.iconst (-1), 1)), (19, (.if_icmp .eq 26, 3)), (22, (.aload_n 0, 1)), (23, (.iload 4, 2)), (25, (.invokevirtual 46, 3)), (28, (.ifCond .eq 17, 3)), (31, (.iload_n 2, 1)), (32, (.iconst (-1), 1)), (33, (.if_icmp .eq 9, 3)), (36, (.iload 4, 2)), (38, (.iload_n 2, 1)), (39, (.if_icmp .ge 6, 3)), (42, (.iload 4, 2)), (44, (.istore_n 2, 1)), (45, (.iinc 3 1, 3)), (48, (.goto (-44), 3)), (51, (.iload_n 2, 1)), (52, (.ireturn, 1))]
theorem tX2_lowestWaterBeside : pX2_lowestWaterBeside.all (fun q => decide (decode cX2_lowestWaterBeside q.1 = .ok q.2)) = true := by decide +kernel
def pX2_isKindBeside : List (Nat × (Instr × Nat)) := [(0, (.iconst 0, 1)), (1, (.istore 4, 2)), (3, (.iload 4, 2)), (5, (.iconst 3, 1)), (6, (.if_icmp .gt 47, 3)), (9, (.iload_n 1, 1)), (10, (.iload 4, 2)), (12, (.invokestatic 42, 3)), (15, (.istore 5, 2)), (17, (.iload 5, 2)), (19, (.iconst (-1), 1)), (20, (.if_icmp .eq 27, 3)), (23, (.aload_n 0, 1)), (24, (.getfield 9, 3)), (27, (.iload 5, 2)), (29, (.iaload, 1)), (30, (.iload_n 2, 1)), (31, (.if_icmp .lt 16, 3)), (34, (.aload_n 0, 1)), (35, (.getfield 9, 3)), (38, (.iload 5, 2)), (40, (.iaload, 1)), (41, (.iload_n 3, 1)), (42, (.if_icmp .gt 5, 3)), (45, (.iconst 1, 1)), (46, (.ireturn, 1)), (47, (.iinc 4 1, 3)), (50, (.goto (-47), 3)), (53, (.iconst 0, 1)), (54, (.ireturn, 1))]
theorem tX2_isKindBeside : pX2_isKindBeside.all (fun q => decide (decode cX2_isKindBeside q.1 = .ok q.2)) = true := by decide +kernel
def pX2_isWater : List (Nat × (Instr × Nat)) := [(0, (.aload_n 0, 1)), (1, (.getfield 9, 3)), (4, (.iload_n 1, 1)), (5, (.iaload, 1)), (6, (.ifCond .ne 7, 3)), (9, (.iconst 1, 1)), (10, (.goto 4, 3)), (13, (.iconst 0, 1)), (14, (.ireturn, 1))]
theorem tX2_isWater : pX2_isWater.all (fun q => decide (decode cX2_isWater q.1 = .ok q.2)) = true := by decide +kernel
def pX2_become : List (Nat × (Instr × Nat)) := [(0, (.aload_n 0, 1)), (1, (.getfield 9, 3)), (4, (.iload_n 1, 1)), (5, (.iload_n 2, 1)), (6, (.iastore, 1)), (7, (.aload_n 0, 1)), (8, (.getfield 15, 3)), (11, (.iload_n 1, 1)), (12, (.iload_n 2, 1)), (13, (.ifCond .ne 8, 3)), (16, (.bipush 20, 2)), (18, (.goto 4, 3)), (21, (.iconst 0, 1)), (22, (.iastore, 1)), (23, (.aload_n 0, 1)), (24, (.getfield 33, 3)), (27, (.iload_n 1, 1)), (28, (.iconst 0, 1)), (29, (.iastore, 1)), (30, (.aload_n 0, 1)), (31, (.getfield 36, 3)), (34, (.iload_n 1, 1)), (35, (.iconst 0, 1)), (36, (.iastore, 1)), (37, (.aload_n 0, 1)), (38, (.getfield 39, 3)), (41, (.iload_n 1, 1)), (42, (.iconst 0, 1)), (43, (.iastore, 1)), (44, (.return_, 1))]
theorem tX2_become : pX2_become.all (fun q => decide (decode cX2_become q.1 = .ok q.2)) = true := by decide +kernel
def pX2_roomOf : List (Nat × (Instr × Nat)) := [(0, (.getstatic 50, 3)), (3, (.aload_n 0, 1)), (4, (.getfield 9, 3)), (7, (.iload_n 1, 1)), (8, (.iaload, 1)), (9, (.iaload, 1)), (10, (.aload_n 0, 1)), (11, (.getfield 30, 3)), (14, (.iload_n 1, 1)), (15, (.iaload, 1)), (16, (.isub, 1)), (17, (.ireturn, 1))]
theorem tX2_roomOf : pX2_roomOf.all (fun q => decide (decode cX2_roomOf q.1 = .ok q.2)) = true := by decide +kernel
def pX2_backOf : List (Nat × (Instr × Nat)) := [(0, (.getstatic 53, 3)), (3, (.aload_n 0, 1)), (4, (.getfield 9, 3)), (7, (.iload_n 1, 1)), (8, (.iaload, 1)), (9, (.iaload, 1)), (10, (.istore_n 3, 1)), (11, (.iload_n 3, 1)), (12, (.ifCond .ne 7, 3)), (15, (.iconst 0, 1)), (16, (.goto 6, 3)), (19, (.iload_n 2, 1)), (20, (.iload_n 3, 1)), (21, (.idiv, 1)), (22, (.ireturn, 1))]
theorem tX2_backOf : pX2_backOf.all (fun q => decide (decode cX2_backOf q.1 = .ok q.2)) = true := by decide +kernel
def pX2_isTooDirty : List (Nat × (Instr × Nat)) := [(0, (.aload_n 0, 1)), (1, (.getfield 30, 3)), (4, (.iload_n 1, 1)), (5, (.iaload, 1)), (6, (.getstatic 50, 3)), (9, (.aload_n 0, 1)), (10, (.getfield 9, 3)), (13, (.iload_n 1, 1)), (14, (.iaload, 1)), (15, (.iaload, 1)), (16, (.bipush 20, 2)), (18, (.idiv, 1)), (19, (.if_icmp .le 7, 3)), (22, (.iconst 1, 1)), (23, (.goto 4, 3)), (26, (.iconst 0, 1)), (27, (.ireturn, 1))]
theorem tX2_isTooDirty : pX2_isTooDirty.all (fun q => decide (decode cX2_isTooDirty q.1 = .ok q.2)) = true := by decide +kernel
def pX2_isClean : List (Nat × (Instr × Nat)) := [(0, (.aload_n 0, 1)), (1, (.getfield 39, 3)), (4, (.iload_n 1, 1)), (5, (.iaload, 1)), (6, (.invokestatic 56, 3)), (9, (.iconst 2, 1)), (10, (.if_icmp .lt 7, 3)), (13, (.iconst 1, 1)), (14, (.goto 4, 3)), (17, (.iconst 0, 1)), (18, (.ireturn, 1))]
theorem tX2_isClean : pX2_isClean.all (fun q => decide (decode cX2_isClean q.1 = .ok q.2)) = true := by decide +kernel
def pX2_oilBirds : List (Nat × (Instr × Nat)) := [(0, (.aload_n 0, 1)), (1, (.getfield 30, 3)), (4, (.iload_n 1, 1)), (5, (.iaload, 1)), (6, (.bipush 100, 2)), (8, (.idiv, 1)), (9, (.aload_n 0, 1)), (10, (.getfield 33, 3)), (13, (.iload_n 1, 1)), (14, (.iaload, 1)), (15, (.aload_n 0, 1)), (16, (.getfield 36, 3)), (19, (.iload_n 1, 1)), (20, (.iaload, 1)), (21, (.isub, 1)), (22, (.invokestatic 62, 3)), (25, (.istore_n 2, 1)), (26, (.aload_n 0, 1)), (27, (.getfield 36, 3)), (30, (.iload_n 1, 1)), (31, (.dup2, 1)), (32, (.iaload, 1)), (33, (.iload_n 2, 1)), (34, (.iadd, 1)), (35, (.iastore, 1)), (36, (.return_, 1))]
theorem tX2_oilBirds : pX2_oilBirds.all (fun q => decide (decode cX2_oilBirds q.1 = .ok q.2)) = true := by decide +kernel
def pX2_oilOf : List (Nat × (Instr × Nat)) := [(0, (.aload_n 0, 1)), (1, (.getfield 24, 3)), (4, (.iload_n 1, 1)), (5, (.iaload, 1)), (6, (.aload_n 0, 1)), (7, (.getfield 27, 3)), (10, (.iload_n 1, 1)), (11, (.iaload, 1)), (12, (.iadd, 1)), (13, (.aload_n 0, 1)), (14, (.getfield 30, 3)), (17, (.iload_n 1, 1)), (18, (.iaload, 1)), (19, (.iadd, 1)), (20, (.ireturn, 1))]
theorem tX2_oilOf : pX2_oilOf.all (fun q => decide (decode cX2_oilOf q.1 = .ok q.2)) = true := by decide +kernel
def pX2_allFloating : List (Nat × (Instr × Nat)) := [(0, (.iconst 0, 1)), (1, (.istore_n 1, 1)), (2, (.iconst 0, 1)), (3, (.istore_n 2, 1)), (4, (.iload_n 2, 1)), (5, (.bipush 24, 2)), (7, (.if_icmp .ge 25, 3)), (10, (.iload_n 1, 1)), (11, (.aload_n 0, 1)), (12, (.getfield 24, 3)), (15, (.iload_n 2, 1)), (16, (.iaload, 1)), (17, (.aload_n 0, 1)), (18, (.getfield 27, 3)), (21, (.iload_n 2, 1)), (22, (.iaload, 1)), (23, (.iadd, 1)), (24, (.iadd, 1)), (25, (.istore_n 1, 1)), (26, (.iinc 2 1, 3)), (29, (.goto (-25), 3)), (32, (.iload_n 1, 1)), (33, (.ireturn, 1))]
theorem tX2_allFloating : pX2_allFloating.all (fun q => decide (decode cX2_allFloating q.1 = .ok q.2)) = true := by decide +kernel
def pX2_allStranded : List (Nat × (Instr × Nat)) := [(0, (.iconst 0, 1)), (1, (.istore_n 1, 1)), (2, (.iconst 0, 1)), (3, (.istore_n 2, 1)), (4, (.iload_n 2, 1)), (5, (.bipush 24, 2)), (7, (.if_icmp .ge 18, 3)), (10, (.iload_n 1, 1)), (11, (.aload_n 0, 1)), (12, (.getfield 30, 3)), (15, (.iload_n 2, 1)), (16, (.iaload, 1)), (17, (.iadd, 1)), (18, (.istore_n 1, 1)), (19, (.iinc 2 1, 3)), (22, (.goto (-18), 3)), (25, (.iload_n 1, 1)), (26, (.ireturn, 1))]
theorem tX2_allStranded : pX2_allStranded.all (fun q => decide (decode cX2_allStranded q.1 = .ok q.2)) = true := by decide +kernel
def pX2_becomeLike : List (Nat × (Instr × Nat)) := [(0, (.aload_n 1, 1)), (1, (.getfield 9, 3)), (4, (.iconst 0, 1)), (5, (.aload_n 0, 1)), (6, (.getfield 9, 3)), (9, (.iconst 0, 1)), (10, (.bipush 24, 2)), (12, (.invokestatic 67, 3)), (15, (.aload_n 1, 1)), (16, (.getfield 24, 3)), (19, (.iconst 0, 1)), (20, (.aload_n 0, 1)), (21, (.getfield 24, 3)), (24, (.iconst 0, 1)), (25, (.bipush 24, 2)), (27, (.invokestatic 67, 3)), (30, (.aload_n 1, 1)), (31, (.getfield 27, 3)), (34, (.iconst 0, 1)), (35, (.aload_n 0, 1)), (36, (.getfield 27, 3)), (39, (.iconst 0, 1)), (40, (.bipush 24, 2)), (42, (.invokestatic 67, 3)), (45, (.aload_n 1, 1)), (46, (.getfield 30, 3)), (49, (.iconst 0, 1)), (50, (.aload_n 0, 1)), (51, (.getfield 30, 3)), (54, (.iconst 0, 1)), (55, (.bipush 24, 2)), (57, (.invokestatic 67, 3)), (60, (.return_, 1))]
theorem tX2_becomeLike : pX2_becomeLike.all (fun q => decide (decode cX2_becomeLike q.1 = .ok q.2)) = true := by decide +kernel
def pX3_init : List (Nat × (Instr × Nat)) := [(0, (.aload_n 0, 1)), (1, (.invokespecial 3, 3)), (4, (.aload_n 0, 1)), (5, (.iconst 2, 1)), (6, (.newarray .int, 2)), (8, (.putfield 9, 3)), (11, (.aload_n 0, 1)), (12, (.bipush 6, 2)), (14, (.newarray .int, 2)), (16, (.putfield 15, 3)), (19, (.return_, 1))]
theorem tX3_init : pX3_init.all (fun q => decide (decode cX3_init q.1 = .ok q.2)) = true := by decide +kernel
def pX3_addSite : List (Nat × (Instr × Nat)) := [(0, (.aload_n 0, 1)), (1, (.getfield 18, 3)), (4, (.istore_n 3, 1)), (5, (.aload_n 0, 1)), (6, (.getfield 15, 3)), (9, (.iload_n 3, 1)), (10, (.iconst 2, 1)), (11, (.imul, 1)), (12, (.iconst 0, 1)), (13, (.iadd, 1)), (14, (.iload_n 1, 1)), (15, (.iastore, 1)), (16, (.aload_n 0, 1)), (17, (.getfield 15, 3)), (20, (.iload_n 3, 1)), (21, (.iconst 2, 1)), (22, (.imul, 1)), (23, (.iconst 1, 1)), (24, (.iadd, 1)), (25, (.iload_n 2, 1)), (26, (.iastore, 1)), (27, (.aload_n 0, 1)), (28, (.dup, 1)), (29, (.getfield 18, 3)), (32, (.iconst 1, 1)), (33, (.iadd, 1)), (34, (.putfield 18, 3)), (37, (.iload_n 3, 1)), (38, (.ireturn, 1))]
theorem tX3_addSite : pX3_addSite.all (fun q => decide (decode cX3_addSite q.1 = .ok q.2)) = true := by decide +kernel
def pX3_roomFor : List (Nat × (Instr × Nat)) := [(0, (.aload_n 0, 1)), (1, (.getfield 15, 3)), (4, (.iload_n 1, 1)), (5, (.iconst 2, 1)), (6, (.imul, 1)), (7, (.iload_n 2, 1)), (8, (.iadd, 1)), (9, (.iaload, 1)), (10, (.ireturn, 1))]
theorem tX3_roomFor : pX3_roomFor.all (fun q => decide (decode cX3_roomFor q.1 = .ok q.2)) = true := by decide +kernel
def pX3_take : List (Nat × (Instr × Nat)) := [(0, (.aload_n 0, 1)), (1, (.getfield 9, 3)), (4, (.iload_n 2, 1)), (5, (.dup2, 1)), (6, (.iaload, 1)), (7, (.iload_n 3, 1)), (8, (.isub, 1)), (9, (.iastore, 1)), (10, (.aload_n 0, 1)), (11, (.getfield 15, 3)), (14, (.iload_n 1, 1)), (15, (.iconst 2, 1)), (16, (.imul, 1)), (17, (.iload_n 2, 1)), (18, (.iadd, 1)), (19, (.dup2, 1)), (20, (.iaload, 1)), (21, (.iload_n 3, 1)), (22, (.isub, 1)), (23, (.iastore, 1)), (24, (.aload_n 0, 1)), (25, (.dup, 1)), (26, (.getfield 22, 3)), (29, (.iload_n 3, 1)), (30, (.iadd, 1)), (31, (.putfield 22, 3)), (34, (.return_, 1))]
theorem tX3_take : pX3_take.all (fun q => decide (decode cX3_take q.1 = .ok q.2)) = true := by decide +kernel
def pX3_allWaste : List (Nat × (Instr × Nat)) := [(0, (.aload_n 0, 1)), (1, (.getfield 9, 3)), (4, (.iconst 0, 1)), (5, (.iaload, 1)), (6, (.aload_n 0, 1)), (7, (.getfield 9, 3)), (10, (.iconst 1, 1)), (11, (.iaload, 1)), (12, (.iadd, 1)), (13, (.aload_n 0, 1)), (14, (.getfield 22, 3)), (17, (.iadd, 1)), (18, (.ireturn, 1))]
theorem tX3_allWaste : pX3_allWaste.all (fun q => decide (decode cX3_allWaste q.1 = .ok q.2)) = true := by decide +kernel
def pX4_init : List (Nat × (Instr × Nat)) := [(0, (.aload_n 0, 1)), (1, (.invokespecial 3, 3)), (4, (.aload_n 0, 1)), (5, (.bipush 20, 2)), (7, (.newarray .int, 2)), (9, (.putfield 9, 3)), (12, (.aload_n 0, 1)), (13, (.bipush 20, 2)), (15, (.newarray .int, 2)), (17, (.putfield 15, 3)), (20, (.aload_n 0, 1)), (21, (.bipush 20, 2)), (23, (.newarray .int, 2)), (25, (.putfield 18, 3)), (28, (.aload_n 0, 1)), (29, (.bipush 20, 2)), (31, (.newarray .int, 2)), (33, (.putfield 21, 3)), (36, (.aload_n 0, 1)), (37, (.bipush 20, 2)), (39, (.newarray .int, 2)), (41, (.putfield 24, 3)), (44, (.aload_n 0, 1)), (45, (.bipush 20, 2)), (47, (.newarray .int, 2)), (49, (.putfield 27, 3)), (52, (.aload_n 0, 1)), (53, (.bipush 20, 2)), (55, (.newarray .boolean, 2)), (57, (.putfield 30, 3)), (60, (.aload_n 0, 1)), (61, (.bipush 20, 2)), (63, (.newarray .int, 2)), (65, (.putfield 34, 3)), (68, (.return_, 1))]
theorem tX4_init : pX4_init.all (fun q => decide (decode cX4_init q.1 = .ok q.2)) = true := by decide +kernel
def pX4_add : List (Nat × (Instr × Nat)) := [(0, (.aload_n 0, 1)), (1, (.getfield 37, 3)), (4, (.istore 4, 2)), (6, (.aload_n 0, 1)), (7, (.getfield 9, 3)), (10, (.iload 4, 2)), (12, (.iload_n 1, 1)), (13, (.iastore, 1)), (14, (.aload_n 0, 1)), (15, (.getfield 15, 3)), (18, (.iload 4, 2)), (20, (.iload_n 2, 1)), (21, (.iastore, 1)), (22, (.aload_n 0, 1)), (23, (.getfield 21, 3)), (26, (.iload 4, 2)), (28, (.iload_n 3, 1)), (29, (.iastore, 1)), (30, (.aload_n 0, 1)), (31, (.getfield 34, 3)), (34, (.iload 4, 2)), (36, (.iconst (-1), 1)), (37, (.iastore, 1)), (38, (.aload_n 0, 1)), (39, (.dup, 1)), (40, (.getfield 37, 3)), (43, (.iconst 1, 1)), (44, (.iadd, 1)), (45, (.putfield 37, 3)), (48, (.iload 4, 2)), (50, (.ireturn, 1))]
theorem tX4_add : pX4_add.all (fun q => decide (decode cX4_add q.1 = .ok q.2)) = true := by decide +kernel
def pX4_isSkimmer : List (Nat × (Instr × Nat)) := [(0, (.aload_n 0, 1)), (1, (.getfield 9, 3)), (4, (.iload_n 1, 1)), (5, (.iaload, 1)), (6, (.iconst 1, 1)), (7, (.if_icmp .ne 17, 3)), (10, (.aload_n 0, 1)), (11, (.getfield 15, 3)), (14, (.iload_n 1, 1)), (15, (.iaload, 1)), (16, (.iload_n 2, 1)), (17, (.if_icmp .ne 7, 3)), (20, (.iconst 1, 1)), (21, (.goto 4, 3)), (24, (.iconst 0, 1)), (25, (.ireturn, 1))]
theorem tX4_isSkimmer : pX4_isSkimmer.all (fun q => decide (decode cX4_isSkimmer q.1 = .ok q.2)) = true := by decide +kernel
def pX4_isSkimmerAt : List (Nat × (Instr × Nat)) := [(0, (.iconst 0, 1)), (1, (.istore_n 2, 1)), (2, (.iload_n 2, 1)), (3, (.aload_n 0, 1)), (4, (.getfield 37, 3)), (7, (.if_icmp .ge 20, 3)), (10, (.aload_n 0, 1)), (11, (.iload_n 2, 1)), (12, (.iload_n 1, 1)), (13, (.invokevirtual 41, 3)), (16, (.ifCond .eq 5, 3)), (19, (.iconst 1, 1)), (20, (.ireturn, 1)), (21, (.iinc 2 1, 3)), (24, (.goto (-22), 3)), (27, (.iconst 0, 1)), (28, (.ireturn, 1))]
theorem tX4_isSkimmerAt : pX4_isSkimmerAt.all (fun q => decide (decode cX4_isSkimmerAt q.1 = .ok q.2)) = true := by decide +kernel
def pX4_boomOn : List (Nat × (Instr × Nat)) := [(0, (.iload_n 1, 1)), (1, (.iload_n 2, 1)), (2, (.invokestatic 45, 3)), (5, (.istore_n 3, 1)), (6, (.iload_n 2, 1)), (7, (.invokestatic 51, 3)), (10, (.istore 4, 2)), (12, (.iconst 0, 1)), (13, (.istore 5, 2)), (15, (.iload 5, 2)), (17, (.aload_n 0, 1)), (18, (.getfield 37, 3)), (21, (.if_icmp .ge 82, 3)), (24, (.aload_n 0, 1)), (25, (.getfield 9, 3)), (28, (.iload 5, 2)), (30, (.iaload, 1)), (31, (.ifCond .ne 66, 3)), (34, (.aload_n 0, 1)), (35, (.getfield 27, 3)), (38, (.iload 5, 2)), (40, (.iaload, 1)), (41, (.ifCond .ne 56, 3)), (44, (.aload_n 0, 1)), (45, (.getfield 15, 3)), (48, (.iload 5, 2)), (50, (.iaload, 1)), (51, (.iload_n 1, 1)), (52, (.if_icmp .ne 14, 3)), (55, (.aload_n 0, 1)), (56, (.getfield 18, 3)), (59, (.iload 5, 2)), (61, (.iaload, 1)), (62, (.iload_n 2, 1)), (63, (.if_icmp .eq 31, 3)), (66, (.iload_n 3, 1)), (67, (.iconst (-1), 1)), (68, (.if_icmp .eq 29, 3)), (71, (.aload_n 0, 1)), (72, (.getfield 15, 3)), (75, (.iload 5, 2)), (77, (.iaload, 1)), (78, (.iload_n 3, 1)), (79, (.if_icmp .ne 18, 3)), (82, (.aload_n 0, 1)), (83, (.getfield 18, 3)), (86, (.iload 5, 2)), (88, (.iaload, 1)), (89, (.iload 4, 2)), (91, (.if_icmp .ne 6, 3)), (94, (.iload 5, 2)), (96, (.ireturn, 1)), (97, (.iinc 5 1, 3)), (100, (.goto (-85), 3)), (103, (.iconst (-1), 1)), (104, (.ireturn, 1))]
theorem tX4_boomOn : pX4_boomOn.all (fun q => decide (decode cX4_boomOn q.1 = .ok q.2)) = true := by decide +kernel
def pX4_freshTaken : List (Nat × (Instr × Nat)) := [(0, (.aload_n 0, 1)), (1, (.getfield 24, 3)), (4, (.iload_n 1, 1)), (5, (.iaload, 1)), (6, (.aload_n 0, 1)), (7, (.getfield 27, 3)), (10, (.iload_n 1, 1)), (11, (.iaload, 1)), (12, (.isub, 1)), (13, (.istore_n 3, 1)), (14, (.aload_n 0, 1)), (15, (.getfield 21, 3)), (18, (.iload_n 1, 1)), (19, (.iaload, 1)), (20, (.iload_n 2, 1)), (21, (.invokestatic 55, 3)), (24, (.iload_n 3, 1)), (25, (.invokestatic 55, 3)), (28, (.ireturn, 1))]
theorem tX4_freshTaken : pX4_freshTaken.all (fun q => decide (decode cX4_freshTaken q.1 = .ok q.2)) = true := by decide +kernel
def pX4_thickTaken : List (Nat × (Instr × Nat)) := [(0, (.aload_n 0, 1)), (1, (.getfield 24, 3)), (4, (.iload_n 1, 1)), (5, (.iaload, 1)), (6, (.aload_n 0, 1)), (7, (.getfield 27, 3)), (10, (.iload_n 1, 1)), (11, (.iaload, 1)), (12, (.isub, 1)), (13, (.iload_n 2, 1)), (14, (.isub, 1)), (15, (.istore 4, 2)), (17, (.aload_n 0, 1)), (18, (.getfield 21, 3)), (21, (.iload_n 1, 1)), (22, (.iaload, 1)), (23, (.iload_n 2, 1)), (24, (.isub, 1)), (25, (.iconst 2, 1)), (26, (.idiv, 1)), (27, (.iload_n 3, 1)), (28, (.invokestatic 55, 3)), (31, (.iload 4, 2)), (33, (.invokestatic 55, 3)), (36, (.ireturn, 1))]
theorem tX4_thickTaken : pX4_thickTaken.all (fun q => decide (decode cX4_thickTaken q.1 = .ok q.2)) = true := by decide +kernel
def pX4_canWork : List (Nat × (Instr × Nat)) := [(0, (.aload_n 0, 1)), (1, (.getfield 30, 3)), (4, (.iload_n 1, 1)), (5, (.baload, 1)), (6, (.ifCond .eq 13, 3)), (9, (.aload_n 0, 1)), (10, (.getfield 34, 3)), (13, (.iload_n 1, 1)), (14, (.iaload, 1)), (15, (.iload_n 2, 1)), (16, (.if_icmp .ne 5, 3)), (19, (.iconst 0, 1)), (20, (.ireturn, 1)), (21, (.aload_n 0, 1)), (22, (.iload_n 1, 1)), (23, (.iload_n 2, 1)), (24, (.invokevirtual 60, 3)), (27, (.ifCond .ne 14, 3)), (30, (.aload_n 0, 1)), (31, (.getfield 27, 3)), (34, (.iload_n 1, 1)), (35, (.iaload, 1)), (36, (.bipush 8, 2)), (38, (.if_icmp .ge 7, 3)), (41, (.iconst 1, 1)), (42, (.goto 4, 3)), (45, (.iconst 0, 1)), (46, (.ireturn, 1))]
theorem tX4_canWork : pX4_canWork.all (fun q => decide (decode cX4_canWork q.1 = .ok q.2)) = true := by decide +kernel
def pX4_noteWork : List (Nat × (Instr × Nat)) := [(0, (.aload_n 0, 1)), (1, (.getfield 27, 3)), (4, (.iload_n 1, 1)), (5, (.aload_n 0, 1)), (6, (.iload_n 1, 1)), (7, (.iload_n 2, 1)), (8, (.invokevirtual 60, 3)), (11, (.ifCond .eq 7, 3)), (14, (.iconst 1, 1)), (15, (.goto 11, 3)), (18, (.aload_n 0, 1)), (19, (.getfield 27, 3)), (22, (.iload_n 1, 1)), (23, (.iaload, 1)), (24, (.iconst 1, 1)), (25, (.iadd, 1)), (26, (.iastore, 1)), (27, (.aload_n 0, 1)), (28, (.getfield 34, 3)), (31, (.iload_n 1, 1)), (32, (.iload_n 2, 1)), (33, (.iastore, 1)), (34, (.return_, 1))]
theorem tX4_noteWork : pX4_noteWork.all (fun q => decide (decode cX4_noteWork q.1 = .ok q.2)) = true := by decide +kernel
def pX4_hasRested : List (Nat × (Instr × Nat)) := [(0, (.aload_n 0, 1)), (1, (.getfield 34, 3)), (4, (.iload_n 1, 1)), (5, (.iaload, 1)), (6, (.iconst (-1), 1)), (7, (.if_icmp .eq 16, 3)), (10, (.iload_n 2, 1)), (11, (.aload_n 0, 1)), (12, (.getfield 34, 3)), (15, (.iload_n 1, 1)), (16, (.iaload, 1)), (17, (.isub, 1)), (18, (.bipush 12, 2)), (20, (.if_icmp .lt 7, 3)), (23, (.iconst 1, 1)), (24, (.goto 4, 3)), (27, (.iconst 0, 1)), (28, (.ireturn, 1))]
theorem tX4_hasRested : pX4_hasRested.all (fun q => decide (decode cX4_hasRested q.1 = .ok q.2)) = true := by decide +kernel
def pX4_allInStores : List (Nat × (Instr × Nat)) := [(0, (.iconst 0, 1)), (1, (.istore_n 1, 1)), (2, (.iconst 0, 1)), (3, (.istore_n 2, 1)), (4, (.iload_n 2, 1)), (5, (.aload_n 0, 1)), (6, (.getfield 37, 3)), (9, (.if_icmp .ge 28, 3)), (12, (.aload_n 0, 1)), (13, (.getfield 9, 3)), (16, (.iload_n 2, 1)), (17, (.iaload, 1)), (18, (.iconst 1, 1)), (19, (.if_icmp .ne 12, 3)), (22, (.iload_n 1, 1)), (23, (.aload_n 0, 1)), (24, (.getfield 27, 3)), (27, (.iload_n 2, 1)), (28, (.iaload, 1)), (29, (.iadd, 1)), (30, (.istore_n 1, 1)), (31, (.iinc 2 1, 3)), (34, (.goto (-30), 3)), (37, (.iload_n 1, 1)), (38, (.ireturn, 1))]
theorem tX4_allInStores : pX4_allInStores.all (fun q => decide (decode cX4_allInStores q.1 = .ok q.2)) = true := by decide +kernel
def pX4_becomeLike : List (Nat × (Instr × Nat)) := [(0, (.aload_n 0, 1)), (1, (.aload_n 1, 1)), (2, (.getfield 37, 3)), (5, (.putfield 37, 3)), (8, (.aload_n 1, 1)), (9, (.getfield 9, 3)), (12, (.iconst 0, 1)), (13, (.aload_n 0, 1)), (14, (.getfield 9, 3)), (17, (.iconst 0, 1)), (18, (.bipush 20, 2)), (20, (.invokestatic 63, 3)), (23, (.aload_n 1, 1)), (24, (.getfield 15, 3)), (27, (.iconst 0, 1)), (28, (.aload_n 0, 1)), (29, (.getfield 15, 3)), (32, (.iconst 0, 1)), (33, (.bipush 20, 2)), (35, (.invokestatic 63, 3)), (38, (.aload_n 1, 1)), (39, (.getfield 18, 3)), (42, (.iconst 0, 1)), (43, (.aload_n 0, 1)), (44, (.getfield 18, 3)), (47, (.iconst 0, 1)), (48, (.bipush 20, 2)), (50, (.invokestatic 63, 3)), (53, (.aload_n 1, 1)), (54, (.getfield 21, 3)), (57, (.iconst 0, 1)), (58, (.aload_n 0, 1)), (59, (.getfield 21, 3)), (62, (.iconst 0, 1)), (63, (.bipush 20, 2)), (65, (.invokestatic 63, 3)), (68, (.aload_n 1, 1)), (69, (.getfield 24, 3)), (72, (.iconst 0, 1)), (73, (.aload_n 0, 1)), (74, (.getfield 24, 3)), (77, (.iconst 0, 1)), (78, (.bipush 20, 2)), (80, (.invokestatic 63, 3)), (83, (.aload_n 1, 1)), (84, (.getfield 27, 3)), (87, (.iconst 0, 1)), (88, (.aload_n 0, 1)), (89, (.getfield 27, 3)), (92, (.iconst 0, 1)), (93, (.bipush 20, 2)), (95, (.invokestatic 63, 3)), (98, (.return_, 1))]
theorem tX4_becomeLike : pX4_becomeLike.all (fun q => decide (decode cX4_becomeLike q.1 = .ok q.2)) = true := by decide +kernel
def pX5_init : List (Nat × (Instr × Nat)) := [(0, (.aload_n 0, 1)), (1, (.invokespecial 3, 3)), (4, (.aload_n 0, 1)), (5, (.aload_n 1, 1)), (6, (.putfield 9, 3)), (9, (.return_, 1))]
theorem tX5_init : pX5_init.all (fun q => decide (decode cX5_init q.1 = .ok q.2)) = true := by decide +kernel
def pX5_floatingOf : List (Nat × (Instr × Nat)) := [(0, (.aload_n 0, 1)), (1, (.iload_n 1, 1)), (2, (.invokevirtual 15, 3)), (5, (.aload_n 0, 1)), (6, (.getfield 19, 3)), (9, (.aload_n 0, 1)), (10, (.getfield 23, 3)), (13, (.isub, 1)), (14, (.istore_n 2, 1)), (15, (.aload_n 0, 1)), (16, (.getfield 26, 3)), (19, (.aload_n 0, 1)), (20, (.getfield 29, 3)), (23, (.isub, 1)), (24, (.istore_n 3, 1)), (25, (.aload_n 0, 1)), (26, (.iload_n 1, 1)), (27, (.invokevirtual 32, 3)), (30, (.istore 4, 2)), (32, (.iload 4, 2)), (34, (.iconst (-1), 1)), (35, (.if_icmp .eq 23, 3)), (38, (.aload_n 0, 1)), (39, (.iload 4, 2)), (41, (.invokevirtual 15, 3)), (44, (.iload_n 2, 1)), (45, (.aload_n 0, 1)), (46, (.getfield 23, 3)), (49, (.iadd, 1)), (50, (.istore_n 2, 1)), (51, (.iload_n 3, 1)), (52, (.aload_n 0, 1)), (53, (.getfield 29, 3)), (56, (.iadd, 1)), (57, (.istore_n 3, 1)), (58, (.iconst 0, 1)), (59, (.istore 5, 2)), (61, (.iload 5, 2)), (63, (.iconst 3, 1)), (64, (.if_icmp .gt 23, 3)), (67, (.iload_n 3, 1)), (68, (.aload_n 0, 1)), (69, (.iload_n 1, 1)), (70, (.iload_n 1, 1)), (71, (.iload 5, 2)), (73, (.invokestatic 36, 3)), (76, (.invokevirtual 42, 3)), (79, (.iadd, 1)), (80, (.istore_n 3, 1)), (81, (.iinc 5 1, 3)), (84, (.goto (-23), 3)), (87, (.aload_n 0, 1)), (88, (.iload_n 1, 1)), (89, (.iload_n 2, 1)), (90, (.iload_n 3, 1)), (91, (.invokevirtual 45, 3)), (94, (.ireturn, 1))]
theorem tX5_floatingOf : pX5_floatingOf.all (fun q => decide (decode cX5_floatingOf q.1 = .ok q.2)) = true := by decide +kernel
def pX5_strandedOf : List (Nat × (Instr × Nat)) := [(0, (.aload_n 0, 1)), (1, (.iload_n 1, 1)), (2, (.invokevirtual 49, 3)), (5, (.istore_n 2, 1)), (6, (.aload_n 0, 1)), (7, (.invokevirtual 52, 3)), (10, (.ifCond .eq 22, 3)), (13, (.aload_n 0, 1)), (14, (.getfield 9, 3)), (17, (.getfield 56, 3)), (20, (.iload_n 1, 1)), (21, (.invokevirtual 62, 3)), (24, (.iconst (-1), 1)), (25, (.if_icmp .eq 7, 3)), (28, (.iconst 1, 1)), (29, (.goto 4, 3)), (32, (.iconst 0, 1)), (33, (.istore_n 3, 1)), (34, (.iload_n 3, 1)), (35, (.ifCond .eq 20, 3)), (38, (.iload_n 2, 1)), (39, (.aload_n 0, 1)), (40, (.getfield 9, 3)), (43, (.getfield 56, 3)), (46, (.iload_n 1, 1)), (47, (.iload_n 2, 1)), (48, (.invokevirtual 65, 3)), (51, (.isub, 1)), (52, (.goto 4, 3)), (55, (.iload_n 2, 1)), (56, (.ireturn, 1))]
theorem tX5_strandedOf : pX5_strandedOf.all (fun q => decide (decode cX5_strandedOf q.1 = .ok q.2)) = true := by decide +kernel
def pX5_isHighTide : List (Nat × (Instr × Nat)) := [(0, (.aload_n 0, 1)), (1, (.getfield 9, 3)), (4, (.getfield 68, 3)), (7, (.iconst 1, 1)), (8, (.iadd, 1)), (9, (.invokestatic 71, 3)), (12, (.bipush 6, 2)), (14, (.if_icmp .ne 7, 3)), (17, (.iconst 1, 1)), (18, (.goto 4, 3)), (21, (.iconst 0, 1)), (22, (.ireturn, 1))]
theorem tX5_isHighTide : pX5_isHighTide.all (fun q => decide (decode cX5_isHighTide q.1 = .ok q.2)) = true := by decide +kernel
def pX5_weigh : List (Nat × (Instr × Nat)) := [(0, (.aload_n 0, 1)), (1, (.getfield 9, 3)), (4, (.getfield 56, 3)), (7, (.getfield 74, 3)), (10, (.iload_n 1, 1)), (11, (.iaload, 1)), (12, (.aload_n 0, 1)), (13, (.iload_n 1, 1)), (14, (.invokevirtual 78, 3)), (17, (.iadd, 1)), (18, (.istore_n 2, 1)), (19, (.iload_n 2, 1)), (20, (.iload_n 2, 1)), (21, (.bipush 20, 2)), (23, (.idiv, 1)), (24, (.isub, 1)), (25, (.istore_n 2, 1)), (26, (.iload_n 2, 1)), (27, (.bipush 10, 2)), (29, (.idiv, 1)), (30, (.istore_n 3, 1)), (31, (.aload_n 0, 1)), (32, (.getfield 9, 3)), (35, (.getfield 56, 3)), (38, (.getfield 81, 3)), (41, (.iload_n 1, 1)), (42, (.iaload, 1)), (43, (.iload_n 3, 1)), (44, (.iadd, 1)), (45, (.istore 4, 2)), (47, (.aload_n 0, 1)), (48, (.iload_n 2, 1)), (49, (.iload_n 3, 1)), (50, (.isub, 1)), (51, (.putfield 19, 3)), (54, (.aload_n 0, 1)), (55, (.iload 4, 2)), (57, (.iload 4, 2)), (59, (.bipush 50, 2)), (61, (.idiv, 1)), (62, (.isub, 1)), (63, (.putfield 26, 3)), (66, (.aload_n 0, 1)), (67, (.getfield 9, 3)), (70, (.getfield 84, 3)), (73, (.iload_n 1, 1)), (74, (.aload_n 0, 1)), (75, (.getfield 9, 3)), (78, (.getfield 88, 3)), (81, (.invokevirtual 91, 3)), (84, (.istore 5, 2)), (86, (.iload 5, 2)), (88, (.iconst (-1), 1)), (89, (.if_icmp .eq 30, 3)), (92, (.aload_n 0, 1)), (93, (.getfield 9, 3)), (96, (.getfield 84, 3)), (99, (.getfield 96, 3)), (102, (.iload 5, 2)), (104, (.iaload, 1)), (105, (.aload_n 0, 1)), (106, (.getfield 9, 3)), (109, (.getfield 99, 3)), (112, (.if_icmp .lt 7, 3)), (115, (.iconst 1, 1)), (116, (.goto 4, 3)), (119, (.iconst 0, 1)), (120, (.istore 6, 2)), (122, (.iload 6, 2)), (124, (.ifCond .eq 7, 3)), (127, (.iconst 0, 1)), (128, (.goto 11, 3)), (131, (.aload_n 0, 1)), (132, (.getfield 9, 3)), (135, (.iload_n 1, 1)), (136, (.invokevirtual 102, 3)), (139, (.istore 7, 2)), (141, (.aload_n 0, 1)), (142, (.aload_n 0, 1)), (143, (.getfield 9, 3)), (146, (.aload_n 0, 1)), (147, (.getfield 19, 3)), (150, (.iload 7, 2)), (152, (.invokevirtual 105, 3)), (155, (.putfield 23, 3)), (158, (.aload_n 0, 1)), (159, (.aload_n 0, 1)), (160, (.getfield 9, 3)), (163, (.aload_n 0, 1)), (164, (.getfield 26, 3)), (167, (.iload 7, 2)), (169, (.aload_n 0, 1)), (170, (.getfield 23, 3)), (173, (.isub, 1)), (174, (.invokevirtual 105, 3)), (177, (.putfield 29, 3)), (180, (.return_, 1))]
theorem tX5_weigh : pX5_weigh.all (fun q => decide (decode cX5_weigh q.1 = .ok q.2)) = true := by decide +kernel
def pX5_leaksInto : List (Nat × (Instr × Nat)) := [(0, (.aload_n 0, 1)), (1, (.getfield 9, 3)), (4, (.getfield 68, 3)), (7, (.iconst 1, 1)), (8, (.iadd, 1)), (9, (.invokestatic 71, 3)), (12, (.istore_n 2, 1)), (13, (.iconst 0, 1)), (14, (.istore_n 3, 1)), (15, (.iconst 0, 1)), (16, (.istore 4, 2)), (18, (.iload 4, 2)), (20, (.aload_n 0, 1)), (21, (.getfield 9, 3)), (24, (.getfield 108, 3)), (27, (.getfield 112, 3)), (30, (.if_icmp .ge 42, 3)), (33, (.aload_n 0, 1)), (34, (.getfield 9, 3)), (37, (.getfield 108, 3)), (40, (.getfield 117, 3)), (43, (.iload 4, 2)), (45, (.iaload, 1)), (46, (.iload_n 1, 1)), (47, (.if_icmp .ne 19, 3)), (50, (.iload_n 3, 1)), (51, (.aload_n 0, 1)), (52, (.getfield 9, 3)), (55, (.getfield 108, 3)), (58, (.iload 4, 2)), (60, (.iload_n 2, 1)), (61, (.invokevirtual 120, 3)), (64, (.iadd, 1)), (65, (.istore_n 3, 1)), (66, (.iinc 4 1, 3)), (69, (.goto (-51), 3)), (72, (.iload_n 3, 1)), (73, (.ireturn, 1))]
theorem tX5_leaksInto : pX5_leaksInto.all (fun q => decide (decode cX5_leaksInto q.1 = .ok q.2)) = true := by decide +kernel
def pX5_waterAgainstWind : List (Nat × (Instr × Nat)) := [(0, (.iload_n 1, 1)), (1, (.aload_n 0, 1)), (2, (.getfield 9, 3)), (5, (.getfield 88, 3)), (8, (.invokestatic 123, 3)), (11, (.invokestatic 36, 3)), (14, (.istore_n 2, 1)), (15, (.iload_n 2, 1)), (16, (.iconst (-1), 1)), (17, (.if_icmp .eq 21, 3)), (20, (.aload_n 0, 1)), (21, (.getfield 9, 3)), (24, (.getfield 56, 3)), (27, (.iload_n 2, 1)), (28, (.invokevirtual 126, 3)), (31, (.ifCond .eq 7, 3)), (34, (.iload_n 2, 1)), (35, (.goto 4, 3)), (38, (.iconst (-1), 1)), (39, (.ireturn, 1))]
theorem tX5_waterAgainstWind : pX5_waterAgainstWind.all (fun q => decide (decode cX5_waterAgainstWind q.1 = .ok q.2)) = true := by decide +kernel
def pX5_landedOn : List (Nat × (Instr × Nat)) := [(0, (.aload_n 0, 1)), (1, (.getfield 9, 3)), (4, (.getfield 56, 3)), (7, (.getfield 130, 3)), (10, (.iload_n 1, 1)), (11, (.iaload, 1)), (12, (.istore_n 2, 1)), (13, (.aload_n 0, 1)), (14, (.iload_n 1, 1)), (15, (.invokevirtual 32, 3)), (18, (.istore_n 3, 1)), (19, (.iload_n 3, 1)), (20, (.iconst (-1), 1)), (21, (.if_icmp .eq 20, 3)), (24, (.aload_n 0, 1)), (25, (.iload_n 3, 1)), (26, (.invokevirtual 15, 3)), (29, (.iload_n 2, 1)), (30, (.aload_n 0, 1)), (31, (.getfield 23, 3)), (34, (.aload_n 0, 1)), (35, (.getfield 29, 3)), (38, (.iadd, 1)), (39, (.iadd, 1)), (40, (.istore_n 2, 1)), (41, (.iload_n 2, 1)), (42, (.ireturn, 1))]
theorem tX5_landedOn : pX5_landedOn.all (fun q => decide (decode cX5_landedOn q.1 = .ok q.2)) = true := by decide +kernel
def pX5_givenBackTo : List (Nat × (Instr × Nat)) := [(0, (.iload_n 2, 1)), (1, (.iconst (-1), 1)), (2, (.if_icmp .eq 39, 3)), (5, (.aload_n 0, 1)), (6, (.getfield 9, 3)), (9, (.getfield 56, 3)), (12, (.iload_n 2, 1)), (13, (.invokevirtual 126, 3)), (16, (.ifCond .ne 25, 3)), (19, (.aload_n 0, 1)), (20, (.invokevirtual 52, 3)), (23, (.ifCond .eq 18, 3)), (26, (.aload_n 0, 1)), (27, (.getfield 9, 3)), (30, (.getfield 56, 3)), (33, (.iload_n 2, 1)), (34, (.invokevirtual 62, 3)), (37, (.iload_n 1, 1)), (38, (.if_icmp .eq 5, 3)), (41, (.iconst 0, 1)), (42, (.ireturn, 1)), (43, (.aload_n 0, 1)), (44, (.getfield 9, 3)), (47, (.getfield 56, 3)), (50, (.iload_n 2, 1)), (51, (.aload_n 0, 1)), (52, (.iload_n 2, 1)), (53, (.invokevirtual 49, 3)), (56, (.invokevirtual 65, 3)), (59, (.ireturn, 1))]
theorem tX5_givenBackTo : pX5_givenBackTo.all (fun q => decide (decode cX5_givenBackTo q.1 = .ok q.2)) = true := by decide +kernel
def pX5_leftBySkimmers : List (Nat × (Instr × Nat)) := [(0, (.iload_n 2, 1)), (1, (.istore 4, 2)), (3, (.iload_n 3, 1)), (4, (.istore 5, 2)), (6, (.iconst 0, 1)), (7, (.istore 6, 2)), (9, (.iload 6, 2)), (11, (.aload_n 0, 1)), (12, (.getfield 9, 3)), (15, (.getfield 84, 3)), (18, (.getfield 133, 3)), (21, (.if_icmp .ge 69, 3)), (24, (.aload_n 0, 1)), (25, (.getfield 9, 3)), (28, (.getfield 84, 3)), (31, (.iload 6, 2)), (33, (.iload_n 1, 1)), (34, (.invokevirtual 134, 3)), (37, (.ifCond .eq 47, 3)), (40, (.aload_n 0, 1)), (41, (.getfield 9, 3)), (44, (.getfield 84, 3)), (47, (.iload 6, 2)), (49, (.iload 4, 2)), (51, (.invokevirtual 138, 3)), (54, (.istore 7, 2)), (56, (.iload 4, 2)), (58, (.iload 7, 2)), (60, (.isub, 1)), (61, (.istore 4, 2)), (63, (.iload 5, 2)), (65, (.aload_n 0, 1)), (66, (.getfield 9, 3)), (69, (.getfield 84, 3)), (72, (.iload 6, 2)), (74, (.iload 7, 2)), (76, (.iload 5, 2)), (78, (.invokevirtual 141, 3)), (81, (.isub, 1)), (82, (.istore 5, 2)), (84, (.iinc 6 1, 3)), (87, (.goto (-78), 3)), (90, (.iload 4, 2)), (92, (.iload 5, 2)), (94, (.iadd, 1)), (95, (.ireturn, 1))]
theorem tX5_leftBySkimmers : pX5_leftBySkimmers.all (fun q => decide (decode cX5_leftBySkimmers q.1 = .ok q.2)) = true := by decide +kernel
def pX6_init : List (Nat × (Instr × Nat)) := [(0, (.aload_n 0, 1)), (1, (.invokespecial 3, 3)), (4, (.aload_n 0, 1)), (5, (.bipush 20, 2)), (7, (.newarray .int, 2)), (9, (.putfield 9, 3)), (12, (.return_, 1))]
theorem tX6_init : pX6_init.all (fun q => decide (decode cX6_init q.1 = .ok q.2)) = true := by decide +kernel
def pX6_add : List (Nat × (Instr × Nat)) := [(0, (.aload_n 0, 1)), (1, (.getfield 15, 3)), (4, (.istore_n 2, 1)), (5, (.aload_n 0, 1)), (6, (.getfield 9, 3)), (9, (.iload_n 2, 1)), (10, (.iload_n 1, 1)), (11, (.iastore, 1)), (12, (.aload_n 0, 1)), (13, (.dup, 1)), (14, (.getfield 19, 3)), (17, (.iload_n 1, 1)), (18, (.i2l, 1)), (19, (.ladd, 1)), (20, (.putfield 19, 3)), (23, (.aload_n 0, 1)), (24, (.dup, 1)), (25, (.getfield 15, 3)), (28, (.iconst 1, 1)), (29, (.iadd, 1)), (30, (.putfield 15, 3)), (33, (.iload_n 2, 1)), (34, (.ireturn, 1))]
theorem tX6_add : pX6_add.all (fun q => decide (decode cX6_add q.1 = .ok q.2)) = true := by decide +kernel
def pX6_allGet : List (Nat × (Instr × Nat)) := [(0, (.aload_n 0, 1)), (1, (.getfield 23, 3)), (4, (.i2l, 1)), (5, (.aload_n 0, 1)), (6, (.getfield 26, 3)), (9, (.i2l, 1)), (10, (.ladd, 1)), (11, (.aload_n 0, 1)), (12, (.getfield 19, 3)), (15, (.invokestatic 29, 3)), (18, (.lreturn, 1))]
theorem tX6_allGet : pX6_allGet.all (fun q => decide (decode cX6_allGet q.1 = .ok q.2)) = true := by decide +kernel
def pX6_getsOf : List (Nat × (Instr × Nat)) := [(0, (.aload_n 0, 1)), (1, (.getfield 19, 3)), (4, (.lconst 0, 1)), (5, (.lcmp, 1)), (6, (.ifCond .ne 7, 3)), (9, (.lconst 0, 1)), (10, (.goto 20, 3)), (13, (.aload_n 0, 1)), (14, (.getfield 9, 3)), (17, (.iload_n 1, 1)), (18, (.iaload, 1)), (19, (.i2l, 1)), (20, (.aload_n 0, 1)), (21, (.invokevirtual 35, 3)), (24, (.lmul, 1)), (25, (.aload_n 0, 1)), (26, (.getfield 19, 3)), (29, (.ldiv, 1)), (30, (.lreturn, 1))]
theorem tX6_getsOf : pX6_getsOf.all (fun q => decide (decode cX6_getsOf q.1 = .ok q.2)) = true := by decide +kernel
def pX6_ownersPartOf : List (Nat × (Instr × Nat)) := [(0, (.aload_n 0, 1)), (1, (.invokevirtual 35, 3)), (4, (.lstore_n 3, 1)), (5, (.lload_n 3, 1)), (6, (.lconst 0, 1)), (7, (.lcmp, 1)), (8, (.ifCond .ne 7, 3)), (11, (.lconst 0, 1)), (12, (.goto 16, 3)), (15, (.lload_n 1, 1)), (16, (.aload_n 0, 1)), (17, (.getfield 23, 3)), (20, (.i2l, 1)), (21, (.lload_n 3, 1)), (22, (.invokestatic 29, 3)), (25, (.lmul, 1)), (26, (.lload_n 3, 1)), (27, (.ldiv, 1)), (28, (.lreturn, 1))]
theorem tX6_ownersPartOf : pX6_ownersPartOf.all (fun q => decide (decode cX6_ownersPartOf q.1 = .ok q.2)) = true := by decide +kernel
def pX7_init : List (Nat × (Instr × Nat)) := [(0, (.aload_n 0, 1)), (1, (.invokespecial 3, 3)), (4, (.aload_n 0, 1)), (5, (.aload_n 1, 1)), (6, (.putfield 9, 3)), (9, (.return_, 1))]
theorem tX7_init : pX7_init.all (fun q => decide (decode cX7_init q.1 = .ok q.2)) = true := by decide +kernel
def pX7_isAgainst : List (Nat × (Instr × Nat)) := [(0, (.iload_n 3, 1)), (1, (.ifCond .ne 7, 3)), (4, (.iconst 1, 1)), (5, (.goto 4, 3)), (8, (.iconst 0, 1)), (9, (.istore 4, 2)), (11, (.aload_n 0, 1)), (12, (.getfield 9, 3)), (15, (.getfield 15, 3)), (18, (.astore 5, 2)), (20, (.iload_n 1, 1)), (21, (.tableswitch 166 1 4 #[31, 74, 102, 125], 31)), (52, (.iload 4, 2)), (54, (.ifCond .eq 23, 3)), (57, (.aload 5, 2)), (59, (.getfield 21, 3)), (62, (.iload_n 2, 1)), (63, (.iaload, 1)), (64, (.bipush 10, 2)), (66, (.if_icmp .ge 7, 3)), (69, (.iconst 1, 1)), (70, (.goto 24, 3)), (73, (.iconst 0, 1)), (74, (.goto 20, 3)), (77, (.aload 5, 2)), (79, (.getfield 27, 3)), (82, (.iload_n 2, 1)), (83, (.iaload, 1)), (84, (.bipush 100, 2)), (86, (.if_icmp .ge 7, 3)), (89, (.iconst 1, 1)), (90, (.goto 4, 3)), (93, (.iconst 0, 1)), (94, (.ireturn, 1)), (95, (.aload_n 0, 1)), (96, (.getfield 9, 3)), (99, (.iload 4, 2)), (101, (.ifCond .eq 8, 3)), (104, (.bipush 72, 2)), (106, (.goto 5, 3)), (109, (.bipush 24, 2)), (111, (.invokevirtual 30, 3)), (114, (.ifCond .ne 7, 3)), (117, (.iconst 1, 1)), (118, (.goto 4, 3)), (121, (.iconst 0, 1)), (122, (.ireturn, 1)), (123, (.aload 5, 2)), (125, (.getfield 34, 3)), (128, (.iload_n 2, 1)), (129, (.iaload, 1)), (130, (.aload 5, 2)), (132, (.getfield 27, 3)), (135, (.iload_n 2, 1)), (136, (.iaload, 1)), (137, (.if_icmp .le 7, 3)), (140, (.iconst 1, 1)), (141, (.goto 4, 3)), (144, (.iconst 0, 1)), (145, (.ireturn, 1)), (146, (.iload 4, 2)), (148, (.ifCond .eq 22, 3)), (151, (.aload_n 0, 1)), (152, (.getfield 9, 3)), (155, (.getfield 37, 3)), (158, (.iconst 2, 1)), (159, (.if_icmp .ge 7, 3)), (162, (.iconst 1, 1)), (163, (.goto 23, 3)), (166, (.iconst 0, 1)), (167, (.goto 19, 3)), (170, (.aload_n 0, 1)), (171, (.getfield 9, 3)), (174, (.getfield 37, 3)), (177, (.iconst 5, 1)), (178, (.if_icmp .le 7, 3)), (181, (.iconst 1, 1)), (182, (.goto 4, 3)), (185, (.iconst 0, 1)), (186, (.ireturn, 1)), (187, (.aload 5, 2)), (189, (.iload_n 2, 1)), (190, (.iload 4, 2)), (192, (.ifCond .eq 7, 3)), (195, (.iconst 3, 1)), (196, (.goto 4, 3)), (199, (.iconst 1, 1)), (200, (.iconst 3, 1)), (201, (.invokevirtual 41, 3)), (204, (.ireturn, 1))]
theorem tX7_isAgainst : pX7_isAgainst.all (fun q => decide (decode cX7_isAgainst q.1 = .ok q.2)) = true := by decide +kernel
def pX7_first : List (Nat × (Instr × Nat)) := [(0, (.iconst 1, 1)), (1, (.istore_n 3, 1)), (2, (.iload_n 3, 1)), (3, (.iconst 5, 1)), (4, (.if_icmp .gt 21, 3)), (7, (.aload_n 0, 1)), (8, (.iload_n 3, 1)), (9, (.iload_n 1, 1)), (10, (.iload_n 2, 1)), (11, (.invokevirtual 45, 3)), (14, (.ifCond .eq 5, 3)), (17, (.iload_n 3, 1)), (18, (.ireturn, 1)), (19, (.iinc 3 1, 3)), (22, (.goto (-20), 3)), (25, (.iconst 0, 1)), (26, (.ireturn, 1))]
theorem tX7_first : pX7_first.all (fun q => decide (decode cX7_first q.1 = .ok q.2)) = true := by decide +kernel
def pX7_last : List (Nat × (Instr × Nat)) := [(0, (.iconst 5, 1)), (1, (.istore_n 3, 1)), (2, (.iload_n 3, 1)), (3, (.iconst 1, 1)), (4, (.if_icmp .lt 21, 3)), (7, (.aload_n 0, 1)), (8, (.iload_n 3, 1)), (9, (.iload_n 1, 1)), (10, (.iload_n 2, 1)), (11, (.invokevirtual 45, 3)), (14, (.ifCond .eq 5, 3)), (17, (.iload_n 3, 1)), (18, (.ireturn, 1)), (19, (.iinc 3 (-1), 3)), (22, (.goto (-20), 3)), (25, (.iconst 0, 1)), (26, (.ireturn, 1))]
theorem tX7_last : pX7_last.all (fun q => decide (decode cX7_last q.1 = .ok q.2)) = true := by decide +kernel
def pX7_howMany : List (Nat × (Instr × Nat)) := [(0, (.iconst 0, 1)), (1, (.istore_n 3, 1)), (2, (.iconst 1, 1)), (3, (.istore 4, 2)), (5, (.iload 4, 2)), (7, (.iconst 5, 1)), (8, (.if_icmp .gt 23, 3)), (11, (.aload_n 0, 1)), (12, (.iload 4, 2)), (14, (.iload_n 1, 1)), (15, (.iload_n 2, 1)), (16, (.invokevirtual 45, 3)), (19, (.ifCond .eq 6, 3)), (22, (.iinc 3 1, 3)), (25, (.iinc 4 1, 3)), (28, (.goto (-23), 3)), (31, (.iload_n 3, 1)), (32, (.ireturn, 1))]
theorem tX7_howMany : pX7_howMany.all (fun q => decide (decode cX7_howMany q.1 = .ok q.2)) = true := by decide +kernel
def pX8_init : List (Nat × (Instr × Nat)) := [(0, (.aload_n 0, 1)), (1, (.invokespecial 3, 3)), (4, (.aload_n 0, 1)), (5, (.iconst 4, 1)), (6, (.newarray .int, 2)), (8, (.putfield 9, 3)), (11, (.aload_n 0, 1)), (12, (.iconst 4, 1)), (13, (.newarray .int, 2)), (15, (.putfield 15, 3)), (18, (.aload_n 0, 1)), (19, (.iconst 4, 1)), (20, (.newarray .int, 2)), (22, (.putfield 18, 3)), (25, (.return_, 1))]
theorem tX8_init : pX8_init.all (fun q => decide (decode cX8_init q.1 = .ok q.2)) = true := by decide +kernel
def pX8_add : List (Nat × (Instr × Nat)) := [(0, (.aload_n 0, 1)), (1, (.getfield 21, 3)), (4, (.istore_n 3, 1)), (5, (.aload_n 0, 1)), (6, (.getfield 9, 3)), (9, (.iload_n 3, 1)), (10, (.iload_n 1, 1)), (11, (.iastore, 1)), (12, (.aload_n 0, 1)), (13, (.getfield 15, 3)), (16, (.iload_n 3, 1)), (17, (.iload_n 2, 1)), (18, (.iastore, 1)), (19, (.aload_n 0, 1)), (20, (.dup, 1)), (21, (.getfield 21, 3)), (24, (.iconst 1, 1)), (25, (.iadd, 1)), (26, (.putfield 21, 3)), (29, (.iload_n 3, 1)), (30, (.ireturn, 1))]
theorem tX8_add : pX8_add.all (fun q => decide (decode cX8_add q.1 = .ok q.2)) = true := by decide +kernel
def pX8_isAnyAt : List (Nat × (Instr × Nat)) := [(0, (.iconst 0, 1)), (1, (.istore_n 2, 1)), (2, (.iload_n 2, 1)), (3, (.aload_n 0, 1)), (4, (.getfield 21, 3)), (7, (.if_icmp .ge 21, 3)), (10, (.aload_n 0, 1)), (11, (.getfield 9, 3)), (14, (.iload_n 2, 1)), (15, (.iaload, 1)), (16, (.iload_n 1, 1)), (17, (.if_icmp .ne 5, 3)), (20, (.iconst 1, 1)), (21, (.ireturn, 1)), (22, (.iinc 2 1, 3)), (25, (.goto (-23), 3)), (28, (.iconst 0, 1)), (29, (.ireturn, 1))]
theorem tX8_isAnyAt : pX8_isAnyAt.all (fun q => decide (decode cX8_isAnyAt q.1 = .ok q.2)) = true := by decide +kernel
def pX8_leakOf : List (Nat × (Instr × Nat)) := [(0, (.aload_n 0, 1)), (1, (.getfield 15, 3)), (4, (.iload_n 1, 1)), (5, (.iaload, 1)), (6, (.sipush 1000, 3)), (9, (.idiv, 1)), (10, (.iload_n 2, 1)), (11, (.isub, 1)), (12, (.istore_n 3, 1)), (13, (.iload_n 3, 1)), (14, (.ifCond .le 23, 3)), (17, (.aload_n 0, 1)), (18, (.getfield 18, 3)), (21, (.iload_n 1, 1)), (22, (.iaload, 1)), (23, (.iload_n 3, 1)), (24, (.imul, 1)), (25, (.aload_n 0, 1)), (26, (.getfield 15, 3)), (29, (.iload_n 1, 1)), (30, (.iaload, 1)), (31, (.invokestatic 25, 3)), (34, (.goto 4, 3)), (37, (.iconst 0, 1)), (38, (.ireturn, 1))]
theorem tX8_leakOf : pX8_leakOf.all (fun q => decide (decode cX8_leakOf q.1 = .ok q.2)) = true := by decide +kernel
def pX8_allLitres : List (Nat × (Instr × Nat)) := [(0, (.iconst 0, 1)), (1, (.istore_n 1, 1)), (2, (.iconst 0, 1)), (3, (.istore_n 2, 1)), (4, (.iload_n 2, 1)), (5, (.aload_n 0, 1)), (6, (.getfield 21, 3)), (9, (.if_icmp .ge 18, 3)), (12, (.iload_n 1, 1)), (13, (.aload_n 0, 1)), (14, (.getfield 15, 3)), (17, (.iload_n 2, 1)), (18, (.iaload, 1)), (19, (.iadd, 1)), (20, (.istore_n 1, 1)), (21, (.iinc 2 1, 3)), (24, (.goto (-20), 3)), (27, (.iload_n 1, 1)), (28, (.ireturn, 1))]
theorem tX8_allLitres : pX8_allLitres.all (fun q => decide (decode cX8_allLitres q.1 = .ok q.2)) = true := by decide +kernel
def pX8_becomeLike : List (Nat × (Instr × Nat)) := [(0, (.aload_n 0, 1)), (1, (.aload_n 1, 1)), (2, (.getfield 21, 3)), (5, (.putfield 21, 3)), (8, (.aload_n 1, 1)), (9, (.getfield 9, 3)), (12, (.iconst 0, 1)), (13, (.aload_n 0, 1)), (14, (.getfield 9, 3)), (17, (.iconst 0, 1)), (18, (.iconst 4, 1)), (19, (.invokestatic 31, 3)), (22, (.aload_n 1, 1)), (23, (.getfield 15, 3)), (26, (.iconst 0, 1)), (27, (.aload_n 0, 1)), (28, (.getfield 15, 3)), (31, (.iconst 0, 1)), (32, (.iconst 4, 1)), (33, (.invokestatic 31, 3)), (36, (.aload_n 1, 1)), (37, (.getfield 18, 3)), (40, (.iconst 0, 1)), (41, (.aload_n 0, 1)), (42, (.getfield 18, 3)), (45, (.iconst 0, 1)), (46, (.iconst 4, 1)), (47, (.invokestatic 31, 3)), (50, (.return_, 1))]
theorem tX8_becomeLike : pX8_becomeLike.all (fun q => decide (decode cX8_becomeLike q.1 = .ok q.2)) = true := by decide +kernel
def pX9_init : List (Nat × (Instr × Nat)) := [(0, (.aload_n 0, 1)), (1, (.invokespecial 3, 3)), (4, (.aload_n 0, 1)), (5, (.new 9, 3)), (8, (.dup, 1)), (9, (.invokespecial 11, 3)), (12, (.putfield 12, 3)), (15, (.aload_n 0, 1)), (16, (.new 9, 3)), (19, (.dup, 1)), (20, (.invokespecial 11, 3)), (23, (.putfield 16, 3)), (26, (.aload_n 0, 1)), (27, (.new 19, 3)), (30, (.dup, 1)), (31, (.aload_n 0, 1)), (32, (.getfield 12, 3)), (35, (.invokespecial 21, 3)), (38, (.putfield 24, 3)), (41, (.aload_n 0, 1)), (42, (.new 28, 3)), (45, (.dup, 1)), (46, (.aload_n 0, 1)), (47, (.getfield 12, 3)), (50, (.invokespecial 30, 3)), (53, (.putfield 31, 3)), (56, (.aload_n 0, 1)), (57, (.new 35, 3)), (60, (.dup, 1)), (61, (.invokespecial 37, 3)), (64, (.putfield 38, 3)), (67, (.aload_n 0, 1)), (68, (.new 42, 3)), (71, (.dup, 1)), (72, (.invokespecial 44, 3)), (75, (.putfield 45, 3)), (78, (.return_, 1))]
theorem tX9_init : pX9_init.all (fun q => decide (decode cX9_init q.1 = .ok q.2)) = true := by decide +kernel
def pX9_shore : List (Nat × (Instr × Nat)) := [(0, (.iload_n 1, 1)), (1, (.bipush 24, 2)), (3, (.invokestatic 49, 3)), (6, (.iload_n 2, 1)), (7, (.iconst 0, 1)), (8, (.iconst 3, 1)), (9, (.invokestatic 53, 3)), (12, (.aload_n 0, 1)), (13, (.getfield 12, 3)), (16, (.getfield 57, 3)), (19, (.ifCond .eq 13, 3)), (22, (.new 61, 3)), (25, (.dup, 1)), (26, (.ldc 63, 2)), (28, (.invokespecial 65, 3)), (31, (.athrow, 1)), (32, (.aload_n 0, 1)), (33, (.getfield 12, 3)), (36, (.getfield 68, 3)), (39, (.iload_n 1, 1)), (40, (.invokevirtual 72, 3)), (43, (.ifCond .ne 17, 3)), (46, (.aload_n 0, 1)), (47, (.getfield 12, 3)), (50, (.getfield 78, 3)), (53, (.iload_n 1, 1)), (54, (.invokevirtual 82, 3)), (57, (.ifCond .eq 13, 3)), (60, (.new 61, 3)), (63, (.dup, 1)), (64, (.ldc 87, 2)), (66, (.invokespecial 65, 3)), (69, (.athrow, 1)), (70, (.aload_n 0, 1)), (71, (.getfield 12, 3)), (74, (.getfield 89, 3)), (77, (.getfield 93, 3)), (80, (.iload_n 1, 1)), (81, (.iaload, 1)), (82, (.istore_n 3, 1)), (83, (.aload_n 0, 1)), (84, (.getfield 12, 3)), (87, (.getfield 89, 3)), (90, (.iload_n 1, 1)), (91, (.iload_n 2, 1)), (92, (.invokevirtual 99, 3)), (95, (.iload_n 3, 1)), (96, (.ireturn, 1))]
theorem tX9_shore : pX9_shore.all (fun q => decide (decode cX9_shore q.1 = .ok q.2)) = true := by decide +kernel
def pX9_depth : List (Nat × (Instr × Nat)) := [(0, (.iload_n 1, 1)), (1, (.bipush 24, 2)), (3, (.invokestatic 49, 3)), (6, (.iload_n 2, 1)), (7, (.iconst 1, 1)), (8, (.bipush 99, 2)), (10, (.invokestatic 53, 3)), (13, (.aload_n 0, 1)), (14, (.iload_n 1, 1)), (15, (.invokevirtual 102, 3)), (18, (.aload_n 0, 1)), (19, (.getfield 12, 3)), (22, (.getfield 89, 3)), (25, (.getfield 106, 3)), (28, (.iload_n 1, 1)), (29, (.iaload, 1)), (30, (.istore_n 3, 1)), (31, (.aload_n 0, 1)), (32, (.getfield 12, 3)), (35, (.getfield 89, 3)), (38, (.getfield 106, 3)), (41, (.iload_n 1, 1)), (42, (.iload_n 2, 1)), (43, (.iastore, 1)), (44, (.iload_n 3, 1)), (45, (.ireturn, 1))]
theorem tX9_depth : pX9_depth.all (fun q => decide (decode cX9_depth q.1 = .ok q.2)) = true := by decide +kernel
def pX9_wind : List (Nat × (Instr × Nat)) := [(0, (.iload_n 1, 1)), (1, (.iconst 0, 1)), (2, (.iconst 3, 1)), (3, (.invokestatic 53, 3)), (6, (.iload_n 2, 1)), (7, (.iconst 0, 1)), (8, (.bipush 9, 2)), (10, (.invokestatic 53, 3)), (13, (.bipush 10, 2)), (15, (.aload_n 0, 1)), (16, (.getfield 12, 3)), (19, (.getfield 109, 3)), (22, (.imul, 1)), (23, (.aload_n 0, 1)), (24, (.getfield 12, 3)), (27, (.getfield 112, 3)), (30, (.iadd, 1)), (31, (.istore_n 3, 1)), (32, (.aload_n 0, 1)), (33, (.getfield 12, 3)), (36, (.iload_n 1, 1)), (37, (.putfield 109, 3)), (40, (.aload_n 0, 1)), (41, (.getfield 12, 3)), (44, (.iload_n 2, 1)), (45, (.putfield 112, 3)), (48, (.iload_n 3, 1)), (49, (.ireturn, 1))]
theorem tX9_wind : pX9_wind.all (fun q => decide (decode cX9_wind q.1 = .ok q.2)) = true := by decide +kernel
def pX9_ship : List (Nat × (Instr × Nat)) := [(0, (.iload_n 1, 1)), (1, (.bipush 24, 2)), (3, (.invokestatic 49, 3)), (6, (.iload_n 2, 1)), (7, (.iconst 0, 1)), (8, (.ldc 115, 2)), (10, (.invokestatic 53, 3)), (13, (.aload_n 0, 1)), (14, (.iload_n 1, 1)), (15, (.invokevirtual 102, 3)), (18, (.aload_n 0, 1)), (19, (.getfield 12, 3)), (22, (.getfield 68, 3)), (25, (.getfield 116, 3)), (28, (.iconst 4, 1)), (29, (.if_icmp .lt 13, 3)), (32, (.new 61, 3)), (35, (.dup, 1)), (36, (.ldc 119, 2)), (38, (.invokespecial 65, 3)), (41, (.athrow, 1)), (42, (.aload_n 0, 1)), (43, (.getfield 12, 3)), (46, (.getfield 68, 3)), (49, (.iload_n 1, 1)), (50, (.iload_n 2, 1)), (51, (.invokevirtual 121, 3)), (54, (.ireturn, 1))]
theorem tX9_ship : pX9_ship.all (fun q => decide (decode cX9_ship q.1 = .ok q.2)) = true := by decide +kernel
def pX9_hole : List (Nat × (Instr × Nat)) := [(0, (.iload_n 1, 1)), (1, (.aload_n 0, 1)), (2, (.getfield 12, 3)), (5, (.getfield 68, 3)), (8, (.getfield 116, 3)), (11, (.invokestatic 49, 3)), (14, (.iload_n 2, 1)), (15, (.iconst 0, 1)), (16, (.bipush 99, 2)), (18, (.invokestatic 53, 3)), (21, (.aload_n 0, 1)), (22, (.getfield 12, 3)), (25, (.getfield 68, 3)), (28, (.getfield 125, 3)), (31, (.iload_n 1, 1)), (32, (.iaload, 1)), (33, (.istore_n 3, 1)), (34, (.aload_n 0, 1)), (35, (.getfield 12, 3)), (38, (.getfield 68, 3)), (41, (.getfield 125, 3)), (44, (.iload_n 1, 1)), (45, (.iload_n 2, 1)), (46, (.iastore, 1)), (47, (.iload_n 3, 1)), (48, (.ireturn, 1))]
theorem tX9_hole : pX9_hole.all (fun q => decide (decode cX9_hole q.1 = .ok q.2)) = true := by decide +kernel
def pX9_pump : List (Nat × (Instr × Nat)) := [(0, (.iload_n 1, 1)), (1, (.aload_n 0, 1)), (2, (.getfield 12, 3)), (5, (.getfield 68, 3)), (8, (.getfield 116, 3)), (11, (.invokestatic 49, 3)), (14, (.iload_n 2, 1)), (15, (.aload_n 0, 1)), (16, (.getfield 12, 3)), (19, (.getfield 68, 3)), (22, (.getfield 116, 3)), (25, (.invokestatic 49, 3)), (28, (.iload_n 1, 1)), (29, (.iload_n 2, 1)), (30, (.if_icmp .ne 13, 3)), (33, (.new 128, 3)), (36, (.dup, 1)), (37, (.ldc 130, 2)), (39, (.invokespecial 132, 3)), (42, (.athrow, 1)), (43, (.iload_n 3, 1)), (44, (.iconst 1, 1)), (45, (.ldc 115, 2)), (47, (.invokestatic 53, 3)), (50, (.aload_n 0, 1)), (51, (.getfield 12, 3)), (54, (.getfield 68, 3)), (57, (.getfield 133, 3)), (60, (.astore 4, 2)), (62, (.aload 4, 2)), (64, (.iload_n 1, 1)), (65, (.iaload, 1)), (66, (.iload_n 3, 1)), (67, (.if_icmp .lt 14, 3)), (70, (.aload 4, 2)), (72, (.iload_n 2, 1)), (73, (.iaload, 1)), (74, (.iload_n 3, 1)), (75, (.iadd, 1)), (76, (.ldc 115, 2)), (78, (.if_icmp .le 13, 3)), (81, (.new 61, 3)), (84, (.dup, 1)), (85, (.ldc 136, 2)), (87, (.invokespecial 65, 3)), (90, (.athrow, 1)), (91, (.aload 4, 2)), (93, (.iload_n 1, 1)), (94, (.dup2, 1)), (95, (.iaload, 1)), (96, (.iload_n 3, 1)), (97, (.isub, 1)), (98, (.iastore, 1)), (99, (.aload 4, 2)), (101, (.iload_n 2, 1)), (102, (.dup2, 1)), (103, (.iaload, 1)), (104, (.iload_n 3, 1)), (105, (.iadd, 1)), (106, (.iastore, 1)), (107, (.aload 4, 2)), (109, (.iload_n 2, 1)), (110, (.iaload, 1)), (111, (.ireturn, 1))]
theorem tX9_pump : pX9_pump.all (fun q => decide (decode cX9_pump q.1 = .ok q.2)) = true := by decide +kernel
def pX9_shipHas : List (Nat × (Instr × Nat)) := [(0, (.iload_n 1, 1)), (1, (.aload_n 0, 1)), (2, (.getfield 12, 3)), (5, (.getfield 68, 3)), (8, (.getfield 116, 3)), (11, (.invokestatic 49, 3)), (14, (.aload_n 0, 1)), (15, (.getfield 12, 3)), (18, (.getfield 68, 3)), (21, (.getfield 133, 3)), (24, (.iload_n 1, 1)), (25, (.iaload, 1)), (26, (.ireturn, 1))]
theorem tX9_shipHas : pX9_shipHas.all (fun q => decide (decode cX9_shipHas q.1 = .ok q.2)) = true := by decide +kernel
def pX9_pass : List (Nat × (Instr × Nat)) := [(0, (.iload_n 1, 1)), (1, (.iconst 1, 1)), (2, (.bipush 48, 2)), (4, (.invokestatic 53, 3)), (7, (.aload_n 0, 1)), (8, (.getfield 12, 3)), (11, (.getfield 57, 3)), (14, (.iload_n 1, 1)), (15, (.iadd, 1)), (16, (.sipush 2000, 3)), (19, (.if_icmp .le 13, 3)), (22, (.new 61, 3)), (25, (.dup, 1)), (26, (.ldc 138, 2)), (28, (.invokespecial 65, 3)), (31, (.athrow, 1)), (32, (.aload_n 0, 1)), (33, (.getfield 12, 3)), (36, (.iload_n 1, 1)), (37, (.invokevirtual 140, 3)), (40, (.aload_n 0, 1)), (41, (.getfield 12, 3)), (44, (.getfield 57, 3)), (47, (.ireturn, 1))]
theorem tX9_pass : pX9_pass.all (fun q => decide (decode cX9_pass q.1 = .ok q.2)) = true := by decide +kernel
def pX9_at : List (Nat × (Instr × Nat)) := [(0, (.iload_n 1, 1)), (1, (.bipush 24, 2)), (3, (.invokestatic 49, 3)), (6, (.iload_n 2, 1)), (7, (.iconst 0, 1)), (8, (.bipush 8, 2)), (10, (.invokestatic 53, 3)), (13, (.aload_n 0, 1)), (14, (.getfield 12, 3)), (17, (.getfield 89, 3)), (20, (.astore_n 3, 1)), (21, (.iload_n 2, 1)), (22, (.tableswitch 102 0 7 #[46, 53, 60, 67, 74, 81, 88, 95], 46)), (68, (.aload_n 3, 1)), (69, (.getfield 143, 3)), (72, (.iload_n 1, 1)), (73, (.iaload, 1)), (74, (.ireturn, 1)), (75, (.aload_n 3, 1)), (76, (.getfield 146, 3)), (79, (.iload_n 1, 1)), (80, (.iaload, 1)), (81, (.ireturn, 1)), (82, (.aload_n 3, 1)), (83, (.getfield 149, 3)), (86, (.iload_n 1, 1)), (87, (.iaload, 1)), (88, (.ireturn, 1)), (89, (.aload_n 3, 1)), (90, (.getfield 93, 3)), (93, (.iload_n 1, 1)), (94, (.iaload, 1)), (95, (.ireturn, 1)), (96, (.aload_n 3, 1)), (97, (.getfield 106, 3)), (100, (.iload_n 1, 1)), (101, (.iaload, 1)), (102, (.ireturn, 1)), (103, (.aload_n 3, 1)), (104, (.getfield 152, 3)), (107, (.iload_n 1, 1)), (108, (.iaload, 1)), (109, (.ireturn, 1)), (110, (.aload_n 3, 1)), (111, (.getfield 155, 3)), (114, (.iload_n 1, 1)), (115, (.iaload, 1)), (116, (.ireturn, 1)), (117, (.aload_n 3, 1)), (118, (.getfield 158, 3)), (121, (.iload_n 1, 1)), (122, (.iaload, 1)), (123, (.ireturn, 1)), (124, (.aload_n 3, 1)), (125, (.iload_n 1, 1)), (126, (.invokevirtual 161, 3)), (129, (.ifCond .eq 7, 3)), (132, (.iconst 1, 1)), (133, (.goto 4, 3)), (136, (.iconst 0, 1)), (137, (.ireturn, 1))]
theorem tX9_at : pX9_at.all (fun q => decide (decode cX9_at q.1 = .ok q.2)) = true := by decide +kernel
def pX9_boom : List (Nat × (Instr × Nat)) := [(0, (.iload_n 1, 1)), (1, (.bipush 24, 2)), (3, (.invokestatic 49, 3)), (6, (.iload_n 2, 1)), (7, (.iconst 0, 1)), (8, (.iconst 3, 1)), (9, (.invokestatic 53, 3)), (12, (.iload_n 3, 1)), (13, (.iconst 1, 1)), (14, (.bipush 9, 2)), (16, (.invokestatic 53, 3)), (19, (.aload_n 0, 1)), (20, (.getfield 12, 3)), (23, (.getfield 78, 3)), (26, (.iload_n 1, 1)), (27, (.iload_n 2, 1)), (28, (.invokevirtual 164, 3)), (31, (.iconst (-1), 1)), (32, (.if_icmp .eq 13, 3)), (35, (.new 61, 3)), (38, (.dup, 1)), (39, (.ldc 167, 2)), (41, (.invokespecial 65, 3)), (44, (.athrow, 1)), (45, (.aload_n 0, 1)), (46, (.invokevirtual 169, 3)), (49, (.aload_n 0, 1)), (50, (.getfield 12, 3)), (53, (.getfield 78, 3)), (56, (.iconst 0, 1)), (57, (.iload_n 1, 1)), (58, (.iload_n 3, 1)), (59, (.invokevirtual 172, 3)), (62, (.istore 4, 2)), (64, (.aload_n 0, 1)), (65, (.getfield 12, 3)), (68, (.getfield 78, 3)), (71, (.getfield 175, 3)), (74, (.iload 4, 2)), (76, (.iload_n 2, 1)), (77, (.iastore, 1)), (78, (.iload 4, 2)), (80, (.ireturn, 1))]
theorem tX9_boom : pX9_boom.all (fun q => decide (decode cX9_boom q.1 = .ok q.2)) = true := by decide +kernel
def pX9_skimmer : List (Nat × (Instr × Nat)) := [(0, (.iload_n 1, 1)), (1, (.bipush 24, 2)), (3, (.invokestatic 49, 3)), (6, (.iload_n 2, 1)), (7, (.iconst 1, 1)), (8, (.sipush 500, 3)), (11, (.invokestatic 53, 3)), (14, (.iload_n 3, 1)), (15, (.iconst 1, 1)), (16, (.sipush 5000, 3)), (19, (.invokestatic 53, 3)), (22, (.aload_n 0, 1)), (23, (.iload_n 1, 1)), (24, (.invokevirtual 102, 3)), (27, (.aload_n 0, 1)), (28, (.invokevirtual 169, 3)), (31, (.aload_n 0, 1)), (32, (.getfield 12, 3)), (35, (.getfield 78, 3)), (38, (.iconst 1, 1)), (39, (.iload_n 1, 1)), (40, (.iload_n 2, 1)), (41, (.invokevirtual 172, 3)), (44, (.istore 4, 2)), (46, (.aload_n 0, 1)), (47, (.getfield 12, 3)), (50, (.getfield 78, 3)), (53, (.getfield 178, 3)), (56, (.iload 4, 2)), (58, (.iload_n 3, 1)), (59, (.iastore, 1)), (60, (.iload 4, 2)), (62, (.ireturn, 1))]
theorem tX9_skimmer : pX9_skimmer.all (fun q => decide (decode cX9_skimmer q.1 = .ok q.2)) = true := by decide +kernel
def pX9_team : List (Nat × (Instr × Nat)) := [(0, (.iload_n 1, 1)), (1, (.iconst 1, 1)), (2, (.bipush 50, 2)), (4, (.invokestatic 53, 3)), (7, (.aload_n 0, 1)), (8, (.invokevirtual 169, 3)), (11, (.aload_n 0, 1)), (12, (.getfield 12, 3)), (15, (.getfield 78, 3)), (18, (.iconst 2, 1)), (19, (.iconst (-1), 1)), (20, (.iload_n 1, 1)), (21, (.invokevirtual 172, 3)), (24, (.istore_n 3, 1)), (25, (.aload_n 0, 1)), (26, (.getfield 12, 3)), (29, (.getfield 78, 3)), (32, (.getfield 181, 3)), (35, (.iload_n 3, 1)), (36, (.iload_n 2, 1)), (37, (.bastore, 1)), (38, (.iload_n 3, 1)), (39, (.ireturn, 1))]
theorem tX9_team : pX9_team.all (fun q => decide (decode cX9_team q.1 = .ok q.2)) = true := by decide +kernel
def pX9_move : List (Nat × (Instr × Nat)) := [(0, (.iload_n 1, 1)), (1, (.aload_n 0, 1)), (2, (.getfield 12, 3)), (5, (.getfield 78, 3)), (8, (.getfield 185, 3)), (11, (.invokestatic 49, 3)), (14, (.iload_n 2, 1)), (15, (.bipush 24, 2)), (17, (.invokestatic 49, 3)), (20, (.aload_n 0, 1)), (21, (.iload_n 1, 1)), (22, (.iconst 1, 1)), (23, (.invokevirtual 186, 3)), (26, (.aload_n 0, 1)), (27, (.iload_n 2, 1)), (28, (.invokevirtual 102, 3)), (31, (.aload_n 0, 1)), (32, (.getfield 12, 3)), (35, (.getfield 78, 3)), (38, (.getfield 189, 3)), (41, (.iload_n 1, 1)), (42, (.iaload, 1)), (43, (.istore_n 3, 1)), (44, (.aload_n 0, 1)), (45, (.getfield 12, 3)), (48, (.getfield 78, 3)), (51, (.getfield 189, 3)), (54, (.iload_n 1, 1)), (55, (.iload_n 2, 1)), (56, (.iastore, 1)), (57, (.iload_n 3, 1)), (58, (.ireturn, 1))]
theorem tX9_move : pX9_move.all (fun q => decide (decode cX9_move q.1 = .ok q.2)) = true := by decide +kernel
def pX9_carry : List (Nat × (Instr × Nat)) := [(0, (.iload_n 1, 1)), (1, (.aload_n 0, 1)), (2, (.getfield 12, 3)), (5, (.getfield 78, 3)), (8, (.getfield 185, 3)), (11, (.invokestatic 49, 3)), (14, (.aload_n 0, 1)), (15, (.iload_n 1, 1)), (16, (.iconst 1, 1)), (17, (.invokevirtual 186, 3)), (20, (.aload_n 0, 1)), (21, (.getfield 12, 3)), (24, (.getfield 78, 3)), (27, (.getfield 192, 3)), (30, (.iload_n 1, 1)), (31, (.iaload, 1)), (32, (.istore_n 2, 1)), (33, (.aload_n 0, 1)), (34, (.getfield 12, 3)), (37, (.getfield 78, 3)), (40, (.getfield 192, 3)), (43, (.iload_n 1, 1)), (44, (.iconst 0, 1)), (45, (.iastore, 1)), (46, (.aload_n 0, 1)), (47, (.getfield 38, 3)), (50, (.getfield 195, 3)), (53, (.iconst 0, 1)), (54, (.dup2, 1)), (55, (.iaload, 1)), (56, (.iload_n 2, 1)), (57, (.iadd, 1)), (58, (.iastore, 1)), (59, (.iload_n 2, 1)), (60, (.ireturn, 1))]
theorem tX9_carry : pX9_carry.all (fun q => decide (decode cX9_carry q.1 = .ok q.2)) = true := by decide +kernel
def pX9_teach : List (Nat × (Instr × Nat)) := [(0, (.iload_n 1, 1)), (1, (.aload_n 0, 1)), (2, (.getfield 12, 3)), (5, (.getfield 78, 3)), (8, (.getfield 185, 3)), (11, (.invokestatic 49, 3)), (14, (.aload_n 0, 1)), (15, (.iload_n 1, 1)), (16, (.iconst 2, 1)), (17, (.invokevirtual 186, 3)), (20, (.aload_n 0, 1)), (21, (.getfield 12, 3)), (24, (.getfield 78, 3)), (27, (.getfield 181, 3)), (30, (.iload_n 1, 1)), (31, (.baload, 1)), (32, (.istore_n 2, 1)), (33, (.aload_n 0, 1)), (34, (.getfield 12, 3)), (37, (.getfield 78, 3)), (40, (.getfield 181, 3)), (43, (.iload_n 1, 1)), (44, (.iconst 1, 1)), (45, (.bastore, 1)), (46, (.iload_n 2, 1)), (47, (.ireturn, 1))]
theorem tX9_teach : pX9_teach.all (fun q => decide (decode cX9_teach q.1 = .ok q.2)) = true := by decide +kernel
def pX9_clean : List (Nat × (Instr × Nat)) := [(0, (.iload_n 1, 1)), (1, (.aload_n 0, 1)), (2, (.getfield 12, 3)), (5, (.getfield 78, 3)), (8, (.getfield 185, 3)), (11, (.invokestatic 49, 3)), (14, (.iload_n 2, 1)), (15, (.bipush 24, 2)), (17, (.invokestatic 49, 3)), (20, (.aload_n 0, 1)), (21, (.iload_n 1, 1)), (22, (.iconst 2, 1)), (23, (.invokevirtual 186, 3)), (26, (.aload_n 0, 1)), (27, (.iload_n 2, 1)), (28, (.invokevirtual 198, 3)), (31, (.aload_n 0, 1)), (32, (.getfield 12, 3)), (35, (.getfield 78, 3)), (38, (.iload_n 1, 1)), (39, (.aload_n 0, 1)), (40, (.getfield 12, 3)), (43, (.getfield 57, 3)), (46, (.invokevirtual 201, 3)), (49, (.ifCond .ne 13, 3)), (52, (.new 61, 3)), (55, (.dup, 1)), (56, (.ldc 205, 2)), (58, (.invokespecial 65, 3)), (61, (.athrow, 1)), (62, (.aload_n 0, 1)), (63, (.getfield 12, 3)), (66, (.getfield 78, 3)), (69, (.iload_n 1, 1)), (70, (.aload_n 0, 1)), (71, (.getfield 12, 3)), (74, (.getfield 57, 3)), (77, (.invokevirtual 207, 3)), (80, (.bipush 10, 2)), (82, (.aload_n 0, 1)), (83, (.getfield 12, 3)), (86, (.getfield 78, 3)), (89, (.getfield 210, 3)), (92, (.iload_n 1, 1)), (93, (.iaload, 1)), (94, (.imul, 1)), (95, (.aload_n 0, 1)), (96, (.getfield 12, 3)), (99, (.getfield 89, 3)), (102, (.getfield 149, 3)), (105, (.iload_n 2, 1)), (106, (.iaload, 1)), (107, (.invokestatic 213, 3)), (110, (.istore_n 3, 1)), (111, (.aload_n 0, 1)), (112, (.getfield 12, 3)), (115, (.getfield 89, 3)), (118, (.getfield 149, 3)), (121, (.iload_n 2, 1)), (122, (.dup2, 1)), (123, (.iaload, 1)), (124, (.iload_n 3, 1)), (125, (.isub, 1)), (126, (.iastore, 1)), (127, (.aload_n 0, 1)), (128, (.getfield 38, 3)), (131, (.getfield 195, 3)), (134, (.iconst 1, 1)), (135, (.dup2, 1)), (136, (.iaload, 1)), (137, (.iload_n 3, 1)), (138, (.iadd, 1)), (139, (.iastore, 1)), (140, (.iload_n 3, 1)), (141, (.ireturn, 1))]
theorem tX9_clean : pX9_clean.all (fun q => decide (decode cX9_clean q.1 = .ok q.2)) = true := by decide +kernel
def pX9_meanIs : List (Nat × (Instr × Nat)) := [(0, (.iload_n 1, 1)), (1, (.aload_n 0, 1)), (2, (.getfield 12, 3)), (5, (.getfield 78, 3)), (8, (.getfield 185, 3)), (11, (.invokestatic 49, 3)), (14, (.iload_n 2, 1)), (15, (.iconst 0, 1)), (16, (.iconst 3, 1)), (17, (.invokestatic 53, 3)), (20, (.iload_n 2, 1)), (21, (.tableswitch 66 0 2 #[27, 40, 53], 27)), (48, (.aload_n 0, 1)), (49, (.getfield 12, 3)), (52, (.getfield 78, 3)), (55, (.getfield 218, 3)), (58, (.iload_n 1, 1)), (59, (.iaload, 1)), (60, (.ireturn, 1)), (61, (.aload_n 0, 1)), (62, (.getfield 12, 3)), (65, (.getfield 78, 3)), (68, (.getfield 189, 3)), (71, (.iload_n 1, 1)), (72, (.iaload, 1)), (73, (.ireturn, 1)), (74, (.aload_n 0, 1)), (75, (.getfield 12, 3)), (78, (.getfield 78, 3)), (81, (.getfield 210, 3)), (84, (.iload_n 1, 1)), (85, (.iaload, 1)), (86, (.ireturn, 1)), (87, (.aload_n 0, 1)), (88, (.getfield 12, 3)), (91, (.getfield 78, 3)), (94, (.getfield 192, 3)), (97, (.iload_n 1, 1)), (98, (.iaload, 1)), (99, (.ireturn, 1))]
theorem tX9_meanIs : pX9_meanIs.all (fun q => decide (decode cX9_meanIs q.1 = .ok q.2)) = true := by decide +kernel
def pX9_use : List (Nat × (Instr × Nat)) := [(0, (.iload_n 1, 1)), (1, (.bipush 24, 2)), (3, (.invokestatic 49, 3)), (6, (.iload_n 2, 1)), (7, (.iconst 0, 1)), (8, (.iconst 1, 1)), (9, (.invokestatic 53, 3)), (12, (.aload_n 0, 1)), (13, (.iload_n 1, 1)), (14, (.invokevirtual 102, 3)), (17, (.aload_n 0, 1)), (18, (.getfield 31, 3)), (21, (.iload_n 1, 1)), (22, (.iload_n 2, 1)), (23, (.invokevirtual 221, 3)), (26, (.ifCond .le 13, 3)), (29, (.new 61, 3)), (32, (.dup, 1)), (33, (.ldc 224, 2)), (35, (.invokespecial 65, 3)), (38, (.athrow, 1)), (39, (.iload_n 2, 1)), (40, (.ifCond .ne 14, 3)), (43, (.aload_n 0, 1)), (44, (.getfield 12, 3)), (47, (.iload_n 1, 1)), (48, (.invokevirtual 226, 3)), (51, (.goto 11, 3)), (54, (.aload_n 0, 1)), (55, (.getfield 12, 3)), (58, (.iload_n 1, 1)), (59, (.invokevirtual 230, 3)), (62, (.ireturn, 1))]
theorem tX9_use : pX9_use.all (fun q => decide (decode cX9_use q.1 = .ok q.2)) = true := by decide +kernel
def pX9_why : List (Nat × (Instr × Nat)) := [(0, (.iload_n 1, 1)), (1, (.bipush 24, 2)), (3, (.invokestatic 49, 3)), (6, (.iload_n 2, 1)), (7, (.iconst 0, 1)), (8, (.iconst 1, 1)), (9, (.invokestatic 53, 3)), (12, (.iload_n 3, 1)), (13, (.iconst 0, 1)), (14, (.iconst 2, 1)), (15, (.invokestatic 53, 3)), (18, (.aload_n 0, 1)), (19, (.iload_n 1, 1)), (20, (.invokevirtual 102, 3)), (23, (.iload_n 3, 1)), (24, (.lookupswitch 48 #[(0, 28), (1, 38)], 28)), (52, (.aload_n 0, 1)), (53, (.getfield 31, 3)), (56, (.iload_n 1, 1)), (57, (.iload_n 2, 1)), (58, (.invokevirtual 233, 3)), (61, (.ireturn, 1)), (62, (.aload_n 0, 1)), (63, (.getfield 31, 3)), (66, (.iload_n 1, 1)), (67, (.iload_n 2, 1)), (68, (.invokevirtual 236, 3)), (71, (.ireturn, 1)), (72, (.aload_n 0, 1)), (73, (.getfield 31, 3)), (76, (.iload_n 1, 1)), (77, (.iload_n 2, 1)), (78, (.invokevirtual 221, 3)), (81, (.ireturn, 1))]
theorem tX9_why : pX9_why.all (fun q => decide (decode cX9_why q.1 = .ok q.2)) = true := by decide +kernel
def pX9_birds : List (Nat × (Instr × Nat)) := [(0, (.iload_n 1, 1)), (1, (.bipush 24, 2)), (3, (.invokestatic 49, 3)), (6, (.iload_n 2, 1)), (7, (.iconst 1, 1)), (8, (.bipush 100, 2)), (10, (.invokestatic 53, 3)), (13, (.aload_n 0, 1)), (14, (.iload_n 1, 1)), (15, (.invokevirtual 198, 3)), (18, (.aload_n 0, 1)), (19, (.getfield 12, 3)), (22, (.getfield 89, 3)), (25, (.getfield 152, 3)), (28, (.iload_n 1, 1)), (29, (.iaload, 1)), (30, (.iload_n 2, 1)), (31, (.iadd, 1)), (32, (.sipush 1000, 3)), (35, (.if_icmp .le 13, 3)), (38, (.new 61, 3)), (41, (.dup, 1)), (42, (.ldc 239, 2)), (44, (.invokespecial 65, 3)), (47, (.athrow, 1)), (48, (.aload_n 0, 1)), (49, (.getfield 12, 3)), (52, (.getfield 89, 3)), (55, (.getfield 152, 3)), (58, (.iload_n 1, 1)), (59, (.dup2, 1)), (60, (.iaload, 1)), (61, (.iload_n 2, 1)), (62, (.iadd, 1)), (63, (.iastore, 1)), (64, (.aload_n 0, 1)), (65, (.getfield 12, 3)), (68, (.getfield 89, 3)), (71, (.getfield 152, 3)), (74, (.iload_n 1, 1)), (75, (.iaload, 1)), (76, (.ireturn, 1))]
theorem tX9_birds : pX9_birds.all (fun q => decide (decode cX9_birds q.1 = .ok q.2)) = true := by decide +kernel
def pX9_wash : List (Nat × (Instr × Nat)) := [(0, (.iload_n 1, 1)), (1, (.bipush 24, 2)), (3, (.invokestatic 49, 3)), (6, (.iload_n 2, 1)), (7, (.iconst 1, 1)), (8, (.bipush 100, 2)), (10, (.invokestatic 53, 3)), (13, (.aload_n 0, 1)), (14, (.iload_n 1, 1)), (15, (.invokevirtual 198, 3)), (18, (.iload_n 2, 1)), (19, (.aload_n 0, 1)), (20, (.getfield 12, 3)), (23, (.getfield 89, 3)), (26, (.getfield 155, 3)), (29, (.iload_n 1, 1)), (30, (.iaload, 1)), (31, (.invokestatic 213, 3)), (34, (.istore_n 3, 1)), (35, (.aload_n 0, 1)), (36, (.getfield 12, 3)), (39, (.getfield 89, 3)), (42, (.getfield 155, 3)), (45, (.iload_n 1, 1)), (46, (.dup2, 1)), (47, (.iaload, 1)), (48, (.iload_n 3, 1)), (49, (.isub, 1)), (50, (.iastore, 1)), (51, (.iload_n 3, 1)), (52, (.ireturn, 1))]
theorem tX9_wash : pX9_wash.all (fun q => decide (decode cX9_wash q.1 = .ok q.2)) = true := by decide +kernel
def pX9_sign : List (Nat × (Instr × Nat)) := [(0, (.iload_n 1, 1)), (1, (.bipush 24, 2)), (3, (.invokestatic 49, 3)), (6, (.iload_n 2, 1)), (7, (.iconst 0, 1)), (8, (.iconst 2, 1)), (9, (.invokestatic 53, 3)), (12, (.aload_n 0, 1)), (13, (.iload_n 1, 1)), (14, (.invokevirtual 198, 3)), (17, (.iconst 1, 1)), (18, (.iload_n 2, 1)), (19, (.ishl, 1)), (20, (.istore_n 3, 1)), (21, (.aload_n 0, 1)), (22, (.getfield 12, 3)), (25, (.getfield 89, 3)), (28, (.iload_n 1, 1)), (29, (.invokevirtual 241, 3)), (32, (.ifCond .eq 13, 3)), (35, (.new 61, 3)), (38, (.dup, 1)), (39, (.ldc 244, 2)), (41, (.invokespecial 65, 3)), (44, (.athrow, 1)), (45, (.aload_n 0, 1)), (46, (.getfield 12, 3)), (49, (.getfield 89, 3)), (52, (.getfield 158, 3)), (55, (.iload_n 1, 1)), (56, (.iaload, 1)), (57, (.iload_n 3, 1)), (58, (.iand, 1)), (59, (.ifCond .eq 13, 3)), (62, (.new 61, 3)), (65, (.dup, 1)), (66, (.ldc 246, 2)), (68, (.invokespecial 65, 3)), (71, (.athrow, 1)), (72, (.aload_n 0, 1)), (73, (.getfield 12, 3)), (76, (.getfield 89, 3)), (79, (.getfield 158, 3)), (82, (.iload_n 1, 1)), (83, (.dup2, 1)), (84, (.iaload, 1)), (85, (.iload_n 3, 1)), (86, (.ior, 1)), (87, (.iastore, 1)), (88, (.aload_n 0, 1)), (89, (.getfield 12, 3)), (92, (.getfield 89, 3)), (95, (.iload_n 1, 1)), (96, (.invokevirtual 161, 3)), (99, (.ireturn, 1))]
theorem tX9_sign : pX9_sign.all (fun q => decide (decode cX9_sign q.1 = .ok q.2)) = true := by decide +kernel
def pX9_site : List (Nat × (Instr × Nat)) := [(0, (.iload_n 1, 1)), (1, (.iconst 0, 1)), (2, (.ldc 115, 2)), (4, (.invokestatic 53, 3)), (7, (.iload_n 2, 1)), (8, (.iconst 0, 1)), (9, (.ldc 115, 2)), (11, (.invokestatic 53, 3)), (14, (.aload_n 0, 1)), (15, (.getfield 38, 3)), (18, (.getfield 248, 3)), (21, (.iconst 3, 1)), (22, (.if_icmp .lt 13, 3)), (25, (.new 61, 3)), (28, (.dup, 1)), (29, (.ldc 251, 2)), (31, (.invokespecial 65, 3)), (34, (.athrow, 1)), (35, (.aload_n 0, 1)), (36, (.getfield 38, 3)), (39, (.iload_n 1, 1)), (40, (.iload_n 2, 1)), (41, (.invokevirtual 253, 3)), (44, (.ireturn, 1))]
theorem tX9_site : pX9_site.all (fun q => decide (decode cX9_site q.1 = .ok q.2)) = true := by decide +kernel
def pX9_deliver : List (Nat × (Instr × Nat)) := [(0, (.iload_n 1, 1)), (1, (.aload_n 0, 1)), (2, (.getfield 38, 3)), (5, (.getfield 248, 3)), (8, (.invokestatic 49, 3)), (11, (.iload_n 2, 1)), (12, (.iconst 0, 1)), (13, (.iconst 1, 1)), (14, (.invokestatic 53, 3)), (17, (.iload_n 3, 1)), (18, (.iconst 1, 1)), (19, (.ldc 115, 2)), (21, (.invokestatic 53, 3)), (24, (.aload_n 0, 1)), (25, (.getfield 38, 3)), (28, (.getfield 195, 3)), (31, (.iload_n 2, 1)), (32, (.iaload, 1)), (33, (.iload_n 3, 1)), (34, (.if_icmp .lt 16, 3)), (37, (.aload_n 0, 1)), (38, (.getfield 38, 3)), (41, (.iload_n 1, 1)), (42, (.iload_n 2, 1)), (43, (.invokevirtual 256, 3)), (46, (.iload_n 3, 1)), (47, (.if_icmp .ge 14, 3)), (50, (.new 61, 3)), (53, (.dup, 1)), (54, (.ldc_w 259, 3)), (57, (.invokespecial 65, 3)), (60, (.athrow, 1)), (61, (.aload_n 0, 1)), (62, (.getfield 38, 3)), (65, (.iload_n 1, 1)), (66, (.iload_n 2, 1)), (67, (.iload_n 3, 1)), (68, (.invokevirtual 261, 3)), (71, (.aload_n 0, 1)), (72, (.getfield 38, 3)), (75, (.iload_n 1, 1)), (76, (.iload_n 2, 1)), (77, (.invokevirtual 256, 3)), (80, (.ireturn, 1))]
theorem tX9_deliver : pX9_deliver.all (fun q => decide (decode cX9_deliver q.1 = .ok q.2)) = true := by decide +kernel
def pX9_waste : List (Nat × (Instr × Nat)) := [(0, (.iload_n 1, 1)), (1, (.iconst 0, 1)), (2, (.iconst 1, 1)), (3, (.invokestatic 53, 3)), (6, (.aload_n 0, 1)), (7, (.getfield 38, 3)), (10, (.getfield 195, 3)), (13, (.iload_n 1, 1)), (14, (.iaload, 1)), (15, (.ireturn, 1))]
theorem tX9_waste : pX9_waste.all (fun q => decide (decode cX9_waste q.1 = .ok q.2)) = true := by decide +kernel
def pX9_claim : List (Nat × (Instr × Nat)) := [(0, (.iload_n 1, 1)), (1, (.iconst 1, 1)), (2, (.ldc_w 264, 3)), (5, (.invokestatic 53, 3)), (8, (.aload_n 0, 1)), (9, (.getfield 45, 3)), (12, (.getfield 265, 3)), (15, (.bipush 20, 2)), (17, (.if_icmp .lt 14, 3)), (20, (.new 61, 3)), (23, (.dup, 1)), (24, (.ldc_w 266, 3)), (27, (.invokespecial 65, 3)), (30, (.athrow, 1)), (31, (.aload_n 0, 1)), (32, (.getfield 45, 3)), (35, (.iload_n 1, 1)), (36, (.invokevirtual 268, 3)), (39, (.ireturn, 1))]
theorem tX9_claim : pX9_claim.all (fun q => decide (decode cX9_claim q.1 = .ok q.2)) = true := by decide +kernel
def pX9_layers : List (Nat × (Instr × Nat)) := [(0, (.iload_n 1, 1)), (1, (.iconst 0, 1)), (2, (.ldc_w 270, 3)), (5, (.invokestatic 53, 3)), (8, (.iload_n 2, 1)), (9, (.iconst 0, 1)), (10, (.ldc_w 270, 3)), (13, (.invokestatic 53, 3)), (16, (.aload_n 0, 1)), (17, (.getfield 45, 3)), (20, (.getfield 271, 3)), (23, (.aload_n 0, 1)), (24, (.getfield 45, 3)), (27, (.getfield 274, 3)), (30, (.iadd, 1)), (31, (.istore_n 3, 1)), (32, (.aload_n 0, 1)), (33, (.getfield 45, 3)), (36, (.iload_n 1, 1)), (37, (.putfield 271, 3)), (40, (.aload_n 0, 1)), (41, (.getfield 45, 3)), (44, (.iload_n 2, 1)), (45, (.putfield 274, 3)), (48, (.iload_n 3, 1)), (49, (.ireturn, 1))]
theorem tX9_layers : pX9_layers.all (fun q => decide (decode cX9_layers q.1 = .ok q.2)) = true := by decide +kernel
def pX9_due : List (Nat × (Instr × Nat)) := [(0, (.iload_n 1, 1)), (1, (.aload_n 0, 1)), (2, (.getfield 45, 3)), (5, (.getfield 265, 3)), (8, (.invokestatic 49, 3)), (11, (.iload_n 2, 1)), (12, (.iconst 0, 1)), (13, (.iconst 1, 1)), (14, (.invokestatic 53, 3)), (17, (.aload_n 0, 1)), (18, (.getfield 45, 3)), (21, (.iload_n 1, 1)), (22, (.invokevirtual 277, 3)), (25, (.lstore_n 3, 1)), (26, (.aload_n 0, 1)), (27, (.getfield 45, 3)), (30, (.lload_n 3, 1)), (31, (.invokevirtual 281, 3)), (34, (.lstore 5, 2)), (36, (.iload_n 2, 1)), (37, (.ifCond .ne 8, 3)), (40, (.lload 5, 2)), (42, (.goto 7, 3)), (45, (.lload_n 3, 1)), (46, (.lload 5, 2)), (48, (.lsub, 1)), (49, (.l2i, 1)), (50, (.ireturn, 1))]
theorem tX9_due : pX9_due.all (fun q => decide (decode cX9_due q.1 = .ok q.2)) = true := by decide +kernel
def pX9_ahead : List (Nat × (Instr × Nat)) := [(0, (.iload_n 1, 1)), (1, (.bipush 24, 2)), (3, (.invokestatic 49, 3)), (6, (.iload_n 2, 1)), (7, (.iconst 1, 1)), (8, (.bipush 48, 2)), (10, (.invokestatic 53, 3)), (13, (.aload_n 0, 1)), (14, (.getfield 16, 3)), (17, (.aload_n 0, 1)), (18, (.getfield 12, 3)), (21, (.invokevirtual 285, 3)), (24, (.aload_n 0, 1)), (25, (.getfield 16, 3)), (28, (.iload_n 2, 1)), (29, (.invokevirtual 140, 3)), (32, (.aload_n 0, 1)), (33, (.getfield 16, 3)), (36, (.getfield 89, 3)), (39, (.iload_n 1, 1)), (40, (.invokevirtual 288, 3)), (43, (.ireturn, 1))]
theorem tX9_ahead : pX9_ahead.all (fun q => decide (decode cX9_ahead q.1 = .ok q.2)) = true := by decide +kernel
def pX9_nextAnew : List (Nat × (Instr × Nat)) := [(0, (.iload_n 1, 1)), (1, (.bipush 24, 2)), (3, (.invokestatic 49, 3)), (6, (.aload_n 0, 1)), (7, (.getfield 12, 3)), (10, (.getfield 89, 3)), (13, (.iload_n 1, 1)), (14, (.invokevirtual 291, 3)), (17, (.ifCond .eq 14, 3)), (20, (.aload_n 0, 1)), (21, (.getfield 24, 3)), (24, (.iload_n 1, 1)), (25, (.invokevirtual 294, 3)), (28, (.goto 11, 3)), (31, (.aload_n 0, 1)), (32, (.getfield 24, 3)), (35, (.iload_n 1, 1)), (36, (.invokevirtual 297, 3)), (39, (.ireturn, 1))]
theorem tX9_nextAnew : pX9_nextAnew.all (fun q => decide (decode cX9_nextAnew q.1 = .ok q.2)) = true := by decide +kernel
def pX9_sum : List (Nat × (Instr × Nat)) := [(0, (.iload_n 1, 1)), (1, (.iconst 0, 1)), (2, (.bipush 11, 2)), (4, (.invokestatic 53, 3)), (7, (.aload_n 0, 1)), (8, (.getfield 12, 3)), (11, (.getfield 300, 3)), (14, (.astore_n 2, 1)), (15, (.iload_n 1, 1)), (16, (.tableswitch 142 0 10 #[60, 68, 73, 84, 95, 100, 105, 110, 121, 132, 137], 60)), (76, (.aload_n 0, 1)), (77, (.getfield 12, 3)), (80, (.getfield 57, 3)), (83, (.ireturn, 1)), (84, (.aload_n 2, 1)), (85, (.getfield 304, 3)), (88, (.ireturn, 1)), (89, (.aload_n 0, 1)), (90, (.getfield 12, 3)), (93, (.getfield 68, 3)), (96, (.invokevirtual 309, 3)), (99, (.ireturn, 1)), (100, (.aload_n 0, 1)), (101, (.getfield 12, 3)), (104, (.getfield 89, 3)), (107, (.invokevirtual 313, 3)), (110, (.ireturn, 1)), (111, (.aload_n 2, 1)), (112, (.getfield 316, 3)), (115, (.ireturn, 1)), (116, (.aload_n 2, 1)), (117, (.getfield 319, 3)), (120, (.ireturn, 1)), (121, (.aload_n 2, 1)), (122, (.getfield 322, 3)), (125, (.ireturn, 1)), (126, (.aload_n 0, 1)), (127, (.getfield 12, 3)), (130, (.getfield 89, 3)), (133, (.invokevirtual 325, 3)), (136, (.ireturn, 1)), (137, (.aload_n 0, 1)), (138, (.getfield 12, 3)), (141, (.getfield 78, 3)), (144, (.invokevirtual 328, 3)), (147, (.ireturn, 1)), (148, (.aload_n 2, 1)), (149, (.getfield 331, 3)), (152, (.ireturn, 1)), (153, (.aload_n 2, 1)), (154, (.getfield 334, 3)), (157, (.ireturn, 1)), (158, (.aload_n 0, 1)), (159, (.getfield 38, 3)), (162, (.invokevirtual 337, 3)), (165, (.ireturn, 1))]
theorem tX9_sum : pX9_sum.all (fun q => decide (decode cX9_sum q.1 = .ok q.2)) = true := by decide +kernel
def pX9_needNumber : List (Nat × (Instr × Nat)) := [(0, (.iload_n 0, 1)), (1, (.ifCond .lt 8, 3)), (4, (.iload_n 0, 1)), (5, (.iload_n 1, 1)), (6, (.if_icmp .lt 14, 3)), (9, (.new 340, 3)), (12, (.dup, 1)), (13, (.ldc_w 342, 3)), (16, (.invokespecial 344, 3)), (19, (.athrow, 1)), (20, (.return_, 1))]
theorem tX9_needNumber : pX9_needNumber.all (fun q => decide (decode cX9_needNumber q.1 = .ok q.2)) = true := by decide +kernel
def pX9_needRange : List (Nat × (Instr × Nat)) := [(0, (.iload_n 0, 1)), (1, (.iload_n 1, 1)), (2, (.if_icmp .lt 8, 3)), (5, (.iload_n 0, 1)), (6, (.iload_n 2, 1)), (7, (.if_icmp .le 14, 3)), (10, (.new 128, 3)), (13, (.dup, 1)), (14, (.ldc_w 345, 3)), (17, (.invokespecial 132, 3)), (20, (.athrow, 1)), (21, (.return_, 1))]
theorem tX9_needRange : pX9_needRange.all (fun q => decide (decode cX9_needRange q.1 = .ok q.2)) = true := by decide +kernel
def pX9_needWater : List (Nat × (Instr × Nat)) := [(0, (.aload_n 0, 1)), (1, (.getfield 12, 3)), (4, (.getfield 89, 3)), (7, (.iload_n 1, 1)), (8, (.invokevirtual 291, 3)), (11, (.ifCond .ne 14, 3)), (14, (.new 61, 3)), (17, (.dup, 1)), (18, (.ldc_w 347, 3)), (21, (.invokespecial 65, 3)), (24, (.athrow, 1)), (25, (.return_, 1))]
theorem tX9_needWater : pX9_needWater.all (fun q => decide (decode cX9_needWater q.1 = .ok q.2)) = true := by decide +kernel
def pX9_needShore : List (Nat × (Instr × Nat)) := [(0, (.aload_n 0, 1)), (1, (.getfield 12, 3)), (4, (.getfield 89, 3)), (7, (.iload_n 1, 1)), (8, (.invokevirtual 291, 3)), (11, (.ifCond .eq 14, 3)), (14, (.new 61, 3)), (17, (.dup, 1)), (18, (.ldc_w 349, 3)), (21, (.invokespecial 65, 3)), (24, (.athrow, 1)), (25, (.return_, 1))]
theorem tX9_needShore : pX9_needShore.all (fun q => decide (decode cX9_needShore q.1 = .ok q.2)) = true := by decide +kernel
def pX9_needRoomForMeans : List (Nat × (Instr × Nat)) := [(0, (.aload_n 0, 1)), (1, (.getfield 12, 3)), (4, (.getfield 78, 3)), (7, (.getfield 185, 3)), (10, (.bipush 20, 2)), (12, (.if_icmp .lt 14, 3)), (15, (.new 61, 3)), (18, (.dup, 1)), (19, (.ldc_w 351, 3)), (22, (.invokespecial 65, 3)), (25, (.athrow, 1)), (26, (.return_, 1))]
theorem tX9_needRoomForMeans : pX9_needRoomForMeans.all (fun q => decide (decode cX9_needRoomForMeans q.1 = .ok q.2)) = true := by decide +kernel
def pX9_needSort : List (Nat × (Instr × Nat)) := [(0, (.aload_n 0, 1)), (1, (.getfield 12, 3)), (4, (.getfield 78, 3)), (7, (.getfield 218, 3)), (10, (.iload_n 1, 1)), (11, (.iaload, 1)), (12, (.iload_n 2, 1)), (13, (.if_icmp .eq 14, 3)), (16, (.new 61, 3)), (19, (.dup, 1)), (20, (.ldc_w 353, 3)), (23, (.invokespecial 65, 3)), (26, (.athrow, 1)), (27, (.return_, 1))]
theorem tX9_needSort : pX9_needSort.all (fun q => decide (decode cX9_needSort q.1 = .ok q.2)) = true := by decide +kernel
def pX10_init : List (Nat × (Instr × Nat)) := [(0, (.aload_n 0, 1)), (1, (.invokespecial 1, 3)), (4, (.aload_n 0, 1)), (5, (.sipush 174, 3)), (8, (.newarray .int, 2)), (10, (.putfield 7, 3)), (13, (.aload_n 0, 1)), (14, (.sipush 174, 3)), (17, (.newarray .int, 2)), (19, (.putfield 13, 3)), (22, (.aload_n 0, 1)), (23, (.bipush 24, 2)), (25, (.newarray .int, 2)), (27, (.putfield 16, 3)), (30, (.aload_n 0, 1)), (31, (.bipush 24, 2)), (33, (.newarray .int, 2)), (35, (.putfield 19, 3)), (38, (.aload_n 0, 1)), (39, (.bipush 48, 2)), (41, (.newarray .int, 2)), (43, (.putfield 22, 3)), (46, (.aload_n 0, 1)), (47, (.iconst 4, 1)), (48, (.newarray .int, 2)), (50, (.putfield 25, 3)), (53, (.aload_n 0, 1)), (54, (.iconst 4, 1)), (55, (.newarray .int, 2)), (57, (.putfield 28, 3)), (60, (.aload_n 0, 1)), (61, (.bipush 20, 2)), (63, (.newarray .int, 2)), (65, (.putfield 31, 3)), (68, (.aload_n 0, 1)), (69, (.bipush 20, 2)), (71, (.newarray .int, 2)), (73, (.putfield 34, 3)), (76, (.aload_n 0, 1)), (77, (.bipush 20, 2)), (79, (.newarray .int, 2)), (81, (.putfield 37, 3)), (84, (.aload_n 0, 1)), (85, (.bipush 20, 2)), (87, (.newarray .int, 2)), (89, (.putfield 40, 3)), (92, (.aload_n 0, 1)), (93, (.bipush 20, 2)), (95, (.newarray .int, 2)), (97, (.putfield 43, 3)), (100, (.aload_n 0, 1)), (101, (.bipush 20, 2)), (103, (.newarray .boolean, 2)), (105, (.putfield 46, 3)), (108, (.aload_n 0, 1)), (109, (.bipush 20, 2)), (111, (.newarray .int, 2)), (113, (.putfield 50, 3)), (116, (.aload_n 0, 1)), (117, (.iconst 2, 1)), (118, (.newarray .int, 2)), (120, (.putfield 53, 3)), (123, (.aload_n 0, 1)), (124, (.bipush 6, 2)), (126, (.newarray .int, 2)), (128, (.putfield 56, 3)), (131, (.aload_n 0, 1)), (132, (.bipush 20, 2)), (134, (.newarray .int, 2)), (136, (.putfield 59, 3)), (139, (.iconst 0, 1)), (140, (.istore_n 1, 1)), (141, (.iload_n 1, 1)), (142, (.bipush 24, 2)), (144, (.if_icmp .ge 17, 3)), (147, (.aload_n 0, 1)), (148, (.getfield 19, 3)), (151, (.iload_n 1, 1)), (152, (.bipush 20, 2)), (154, (.iastore, 1)), (155, (.iinc 1 1, 3)), (158, (.goto (-17), 3)), (161, (.aload_n 0, 1)), (162, (.getfield 7, 3)), (165, (.sipush 170, 3)), (168, (.iconst (-1), 1)), (169, (.iastore, 1)), (170, (.return_, 1))]
theorem tX10_init : pX10_init.all (fun q => decide (decode cX10_init q.1 = .ok q.2)) = true := by decide +kernel
def pX10_thrown : List (Nat × (Instr × Nat)) := [(0, (.aload_n 0, 1)), (1, (.getfield 62, 3)), (4, (.ireturn, 1))]
theorem tX10_thrown : pX10_thrown.all (fun q => decide (decode cX10_thrown q.1 = .ok q.2)) = true := by decide +kernel
def pX10_fails : List (Nat × (Instr × Nat)) := [(0, (.aload_n 0, 1)), (1, (.iload_n 1, 1)), (2, (.ifCond .eq 7, 3)), (5, (.iconst 0, 1)), (6, (.goto 4, 3)), (9, (.iload_n 2, 1)), (10, (.putfield 62, 3)), (13, (.iload_n 1, 1)), (14, (.ifCond .ne 7, 3)), (17, (.iconst 1, 1)), (18, (.goto 4, 3)), (21, (.iconst 0, 1)), (22, (.ireturn, 1))]
theorem tX10_fails : pX10_fails.all (fun q => decide (decode cX10_fails q.1 = .ok q.2)) = true := by decide +kernel
def pX10_in : List (Nat × (Instr × Nat)) := [(0, (.iload_n 0, 1)), (1, (.iload_n 1, 1)), (2, (.if_icmp .lt 12, 3)), (5, (.iload_n 0, 1)), (6, (.iload_n 2, 1)), (7, (.if_icmp .gt 7, 3)), (10, (.iconst 1, 1)), (11, (.goto 4, 3)), (14, (.iconst 0, 1)), (15, (.ireturn, 1))]
theorem tX10_in : pX10_in.all (fun q => decide (decode cX10_in q.1 = .ok q.2)) = true := by decide +kernel
def pX10_least : List (Nat × (Instr × Nat)) := [(0, (.iload_n 0, 1)), (1, (.iload_n 1, 1)), (2, (.if_icmp .ge 7, 3)), (5, (.iload_n 0, 1)), (6, (.goto 4, 3)), (9, (.iload_n 1, 1)), (10, (.ireturn, 1))]
theorem tX10_least : pX10_least.all (fun q => decide (decode cX10_least q.1 = .ok q.2)) = true := by decide +kernel
def pX10_isCell : List (Nat × (Instr × Nat)) := [(0, (.iload_n 0, 1)), (1, (.iconst 0, 1)), (2, (.bipush 23, 2)), (4, (.invokestatic 66, 3)), (7, (.ireturn, 1))]
theorem tX10_isCell : pX10_isCell.all (fun q => decide (decode cX10_isCell q.1 = .ok q.2)) = true := by decide +kernel
def pX10_isShip : List (Nat × (Instr × Nat)) := [(0, (.iload_n 1, 1)), (1, (.iconst 0, 1)), (2, (.aload_n 0, 1)), (3, (.getfield 70, 3)), (6, (.iconst 1, 1)), (7, (.isub, 1)), (8, (.invokestatic 66, 3)), (11, (.ireturn, 1))]
theorem tX10_isShip : pX10_isShip.all (fun q => decide (decode cX10_isShip q.1 = .ok q.2)) = true := by decide +kernel
def pX10_isMean : List (Nat × (Instr × Nat)) := [(0, (.iload_n 1, 1)), (1, (.iconst 0, 1)), (2, (.aload_n 0, 1)), (3, (.getfield 73, 3)), (6, (.iconst 1, 1)), (7, (.isub, 1)), (8, (.invokestatic 66, 3)), (11, (.ireturn, 1))]
theorem tX10_isMean : pX10_isMean.all (fun q => decide (decode cX10_isMean q.1 = .ok q.2)) = true := by decide +kernel
def pX10_beside : List (Nat × (Instr × Nat)) := [(0, (.iload_n 1, 1)), (1, (.iconst 2, 1)), (2, (.if_icmp .ge 40, 3)), (5, (.iload_n 0, 1)), (6, (.bipush 6, 2)), (8, (.irem, 1)), (9, (.iload_n 1, 1)), (10, (.ifCond .ne 7, 3)), (13, (.iconst 1, 1)), (14, (.goto 4, 3)), (17, (.iconst (-1), 1)), (18, (.iadd, 1)), (19, (.istore_n 2, 1)), (20, (.iload_n 2, 1)), (21, (.iconst 0, 1)), (22, (.iconst 5, 1)), (23, (.invokestatic 66, 3)), (26, (.ifCond .eq 14, 3)), (29, (.iload_n 0, 1)), (30, (.iload_n 0, 1)), (31, (.bipush 6, 2)), (33, (.irem, 1)), (34, (.isub, 1)), (35, (.iload_n 2, 1)), (36, (.iadd, 1)), (37, (.goto 4, 3)), (40, (.iconst (-1), 1)), (41, (.ireturn, 1)), (42, (.iload_n 0, 1)), (43, (.iload_n 1, 1)), (44, (.iconst 2, 1)), (45, (.if_icmp .ne 8, 3)), (48, (.bipush 6, 2)), (50, (.goto 5, 3)), (53, (.bipush (-6), 2)), (55, (.iadd, 1)), (56, (.istore_n 2, 1)), (57, (.iload_n 2, 1)), (58, (.invokestatic 76, 3)), (61, (.ifCond .eq 7, 3)), (64, (.iload_n 2, 1)), (65, (.goto 4, 3)), (68, (.iconst (-1), 1)), (69, (.ireturn, 1))]
theorem tX10_beside : pX10_beside.all (fun q => decide (decode cX10_beside q.1 = .ok q.2)) = true := by decide +kernel
def pX10_borderOf : List (Nat × (Instr × Nat)) := [(0, (.iload_n 1, 1)), (1, (.iconst 1, 1)), (2, (.if_icmp .eq 8, 3)), (5, (.iload_n 1, 1)), (6, (.iconst 2, 1)), (7, (.if_icmp .le 16, 3)), (10, (.iload_n 0, 1)), (11, (.iload_n 1, 1)), (12, (.invokestatic 80, 3)), (15, (.iconst (-1), 1)), (16, (.if_icmp .eq 7, 3)), (19, (.iconst 1, 1)), (20, (.goto 4, 3)), (23, (.iconst 0, 1)), (24, (.istore_n 2, 1)), (25, (.iload_n 2, 1)), (26, (.ifCond .eq 17, 3)), (29, (.iconst 4, 1)), (30, (.iload_n 0, 1)), (31, (.iload_n 1, 1)), (32, (.invokestatic 80, 3)), (35, (.imul, 1)), (36, (.iload_n 1, 1)), (37, (.iadd, 1)), (38, (.iconst 1, 1)), (39, (.isub, 1)), (40, (.goto 8, 3)), (43, (.iconst 4, 1)), (44, (.iload_n 0, 1)), (45, (.imul, 1)), (46, (.iload_n 1, 1)), (47, (.iadd, 1)), (48, (.ireturn, 1))]
theorem tX10_borderOf : pX10_borderOf.all (fun q => decide (decode cX10_borderOf q.1 = .ok q.2)) = true := by decide +kernel
def pX10_holds : List (Nat × (Instr × Nat)) := [(0, (.aload_n 0, 1)), (1, (.getfield 16, 3)), (4, (.iload_n 1, 1)), (5, (.iaload, 1)), (6, (.iconst 1, 1)), (7, (.if_icmp .ne 9, 3)), (10, (.sipush 200, 3)), (13, (.goto 22, 3)), (16, (.aload_n 0, 1)), (17, (.getfield 16, 3)), (20, (.iload_n 1, 1)), (21, (.iaload, 1)), (22, (.iconst 2, 1)), (23, (.if_icmp .ne 9, 3)), (26, (.sipush 500, 3)), (29, (.goto 6, 3)), (32, (.sipush 1000, 3)), (35, (.ireturn, 1))]
theorem tX10_holds : pX10_holds.all (fun q => decide (decode cX10_holds q.1 = .ok q.2)) = true := by decide +kernel
def pX10_tide : List (Nat × (Instr × Nat)) := [(0, (.iload_n 0, 1)), (1, (.bipush 12, 2)), (3, (.irem, 1)), (4, (.istore_n 1, 1)), (5, (.iload_n 1, 1)), (6, (.bipush 6, 2)), (8, (.if_icmp .gt 7, 3)), (11, (.iload_n 1, 1)), (12, (.goto 7, 3)), (15, (.bipush 12, 2)), (17, (.iload_n 1, 1)), (18, (.isub, 1)), (19, (.ireturn, 1))]
theorem tX10_tide : pX10_tide.all (fun q => decide (decode cX10_tide q.1 = .ok q.2)) = true := by decide +kernel
def pX10_leak : List (Nat × (Instr × Nat)) := [(0, (.aload_n 0, 1)), (1, (.getfield 7, 3)), (4, (.sipush 144, 3)), (7, (.iload_n 1, 1)), (8, (.iadd, 1)), (9, (.iaload, 1)), (10, (.sipush 1000, 3)), (13, (.idiv, 1)), (14, (.iload_n 2, 1)), (15, (.invokestatic 84, 3)), (18, (.isub, 1)), (19, (.istore_n 3, 1)), (20, (.iload_n 3, 1)), (21, (.ifCond .gt 7, 3)), (24, (.iconst 0, 1)), (25, (.goto 24, 3)), (28, (.aload_n 0, 1)), (29, (.getfield 7, 3)), (32, (.sipush 144, 3)), (35, (.iload_n 1, 1)), (36, (.iadd, 1)), (37, (.iaload, 1)), (38, (.aload_n 0, 1)), (39, (.getfield 28, 3)), (42, (.iload_n 1, 1)), (43, (.iaload, 1)), (44, (.iload_n 3, 1)), (45, (.imul, 1)), (46, (.invokestatic 88, 3)), (49, (.ireturn, 1))]
theorem tX10_leak : pX10_leak.all (fun q => decide (decode cX10_leak q.1 = .ok q.2)) = true := by decide +kernel
def pX10_boomOn : List (Nat × (Instr × Nat)) := [(0, (.iconst 0, 1)), (1, (.istore_n 2, 1)), (2, (.iload_n 2, 1)), (3, (.aload_n 0, 1)), (4, (.getfield 73, 3)), (7, (.if_icmp .ge 43, 3)), (10, (.aload_n 0, 1)), (11, (.getfield 31, 3)), (14, (.iload_n 2, 1)), (15, (.iaload, 1)), (16, (.ifCond .ne 28, 3)), (19, (.aload_n 0, 1)), (20, (.getfield 37, 3)), (23, (.iload_n 2, 1)), (24, (.iaload, 1)), (25, (.iload_n 1, 1)), (26, (.if_icmp .ne 18, 3)), (29, (.aload_n 0, 1)), (30, (.getfield 7, 3)), (33, (.sipush 148, 3)), (36, (.iload_n 2, 1)), (37, (.iadd, 1)), (38, (.iaload, 1)), (39, (.ifCond .ne 5, 3)), (42, (.iload_n 2, 1)), (43, (.ireturn, 1)), (44, (.iinc 2 1, 3)), (47, (.goto (-45), 3)), (50, (.iconst (-1), 1)), (51, (.ireturn, 1))]
theorem tX10_boomOn : pX10_boomOn.all (fun q => decide (decode cX10_boomOn q.1 = .ok q.2)) = true := by decide +kernel
def pX10_weather : List (Nat × (Instr × Nat)) := [(0, (.aload_n 0, 1)), (1, (.getfield 7, 3)), (4, (.iconst 0, 1)), (5, (.iload_n 1, 1)), (6, (.iadd, 1)), (7, (.iaload, 1)), (8, (.bipush 20, 2)), (10, (.idiv, 1)), (11, (.istore_n 2, 1)), (12, (.aload_n 0, 1)), (13, (.getfield 7, 3)), (16, (.iconst 0, 1)), (17, (.iload_n 1, 1)), (18, (.iadd, 1)), (19, (.dup2, 1)), (20, (.iaload, 1)), (21, (.iload_n 2, 1)), (22, (.isub, 1)), (23, (.iastore, 1)), (24, (.aload_n 0, 1)), (25, (.getfield 7, 3)), (28, (.sipush 171, 3)), (31, (.dup2, 1)), (32, (.iaload, 1)), (33, (.iload_n 2, 1)), (34, (.iadd, 1)), (35, (.iastore, 1)), (36, (.aload_n 0, 1)), (37, (.getfield 7, 3)), (40, (.iconst 0, 1)), (41, (.iload_n 1, 1)), (42, (.iadd, 1)), (43, (.iaload, 1)), (44, (.bipush 10, 2)), (46, (.idiv, 1)), (47, (.istore_n 3, 1)), (48, (.aload_n 0, 1)), (49, (.getfield 7, 3)), (52, (.iconst 0, 1)), (53, (.iload_n 1, 1)), (54, (.iadd, 1)), (55, (.dup2, 1)), (56, (.iaload, 1)), (57, (.iload_n 3, 1)), (58, (.isub, 1)), (59, (.iastore, 1)), (60, (.aload_n 0, 1)), (61, (.getfield 7, 3)), (64, (.bipush 24, 2)), (66, (.iload_n 1, 1)), (67, (.iadd, 1)), (68, (.dup2, 1)), (69, (.iaload, 1)), (70, (.iload_n 3, 1)), (71, (.iadd, 1)), (72, (.iastore, 1)), (73, (.aload_n 0, 1)), (74, (.getfield 7, 3)), (77, (.bipush 24, 2)), (79, (.iload_n 1, 1)), (80, (.iadd, 1)), (81, (.iaload, 1)), (82, (.bipush 50, 2)), (84, (.idiv, 1)), (85, (.istore 4, 2)), (87, (.aload_n 0, 1)), (88, (.getfield 7, 3)), (91, (.bipush 24, 2)), (93, (.iload_n 1, 1)), (94, (.iadd, 1)), (95, (.dup2, 1)), (96, (.iaload, 1)), (97, (.iload 4, 2)), (99, (.isub, 1)), (100, (.iastore, 1)), (101, (.aload_n 0, 1)), (102, (.getfield 7, 3)), (105, (.sipush 172, 3)), (108, (.dup2, 1)), (109, (.iaload, 1)), (110, (.iload 4, 2)), (112, (.iadd, 1)), (113, (.iastore, 1)), (114, (.return_, 1))]
theorem tX10_weather : pX10_weather.all (fun q => decide (decode cX10_weather q.1 = .ok q.2)) = true := by decide +kernel
def pX10_look_0 : List (Nat × (Instr × Nat)) := [(0, (.iload_n 1, 1)), (1, (.aload_n 0, 1)), (2, (.getfield 91, 3)), (5, (.invokestatic 80, 3)), (8, (.istore_n 2, 1)), (9, (.aload_n 0, 1)), (10, (.getfield 7, 3)), (13, (.iconst 0, 1)), (14, (.iload_n 1, 1)), (15, (.iadd, 1)), (16, (.iaload, 1)), (17, (.aload_n 0, 1)), (18, (.getfield 94, 3)), (21, (.imul, 1)), (22, (.bipush 10, 2)), (24, (.idiv, 1)), (25, (.istore_n 3, 1)), (26, (.aload_n 0, 1)), (27, (.getfield 7, 3)), (30, (.bipush 24, 2)), (32, (.iload_n 1, 1)), (33, (.iadd, 1)), (34, (.iaload, 1)), (35, (.aload_n 0, 1)), (36, (.getfield 94, 3)), (39, (.imul, 1)), (40, (.bipush 10, 2)), (42, (.idiv, 1)), (43, (.istore 4, 2)), (45, (.iload_n 2, 1)), (46, (.iconst (-1), 1)), (47, (.if_icmp .eq 47, 3)), (50, (.aload_n 0, 1)), (51, (.getfield 16, 3)), (54, (.iload_n 2, 1)), (55, (.iaload, 1)), (56, (.ifCond .eq 38, 3)), (59, (.aload_n 0, 1)), (60, (.iload_n 2, 1)), (61, (.invokevirtual 97, 3)), (64, (.aload_n 0, 1)), (65, (.getfield 7, 3)), (68, (.bipush 48, 2)), (70, (.iload_n 2, 1)), (71, (.iadd, 1)), (72, (.iaload, 1)), (73, (.isub, 1)), (74, (.istore 5, 2)), (76, (.iload_n 3, 1)), (77, (.iload 5, 2)), (79, (.invokestatic 88, 3)), (82, (.istore_n 3, 1)), (83, (.iload 4, 2)), (85, (.iload 5, 2)), (87, (.iload_n 3, 1)), (88, (.isub, 1)), (89, (.invokestatic 88, 3)), (92, (.istore 4, 2)), (94, (.iload_n 3, 1)), (95, (.iload 4, 2)), (97, (.iadd, 1)), (98, (.ifCond .le 18, 3)), (101, (.aload_n 0, 1)), (102, (.iload_n 1, 1)), (103, (.aload_n 0, 1)), (104, (.getfield 91, 3)), (107, (.invokestatic 100, 3)), (110, (.invokevirtual 103, 3)), (113, (.goto 4, 3)), (116, (.iconst (-1), 1)), (117, (.istore 5, 2)), (119, (.aload_n 0, 1)), (120, (.getfield 16, 3)), (123, (.iload_n 1, 1)), (124, (.iaload, 1)), (125, (.ifCond .ne 23, 3)), (128, (.iload 5, 2)), (130, (.iconst (-1), 1)), (131, (.if_icmp .eq 21, 3)), (134, (.aload_n 0, 1)), (135, (.getfield 40, 3)), (138, (.iload 5, 2)), (140, (.iaload, 1)), (141, (.aload_n 0, 1)), (142, (.getfield 94, 3)), (145, (.if_icmp .lt 7, 3)), (148, (.iconst 1, 1)), (149, (.goto 4, 3)), (152, (.iconst 0, 1)), (153, (.istore 6, 2)), (155, (.iload 5, 2)), (157, (.iconst (-1), 1)), (158, (.if_icmp .eq 20, 3)), (161, (.iload 6, 2)), (163, (.ifCond .ne 15, 3)), (166, (.aload_n 0, 1)), (167, (.getfield 7, 3)), (170, (.sipush 148, 3)), (173, (.iload 5, 2)), (175, (.iadd, 1))]
theorem tX10_look_0 : pX10_look_0.all (fun q => decide (decode cX10_look q.1 = .ok q.2)) = true := by decide +kernel
def pX10_look_1 : List (Nat × (Instr × Nat)) := [(176, (.iconst 1, 1)), (177, (.iastore, 1)), (178, (.aload_n 0, 1)), (179, (.getfield 22, 3)), (182, (.iload_n 1, 1)), (183, (.iload 6, 2)), (185, (.ifCond .eq 7, 3)), (188, (.iconst 0, 1)), (189, (.goto 4, 3)), (192, (.iload_n 3, 1)), (193, (.iastore, 1)), (194, (.aload_n 0, 1)), (195, (.getfield 22, 3)), (198, (.bipush 24, 2)), (200, (.iload_n 1, 1)), (201, (.iadd, 1)), (202, (.iload 6, 2)), (204, (.ifCond .eq 7, 3)), (207, (.iconst 0, 1)), (208, (.goto 5, 3)), (211, (.iload 4, 2)), (213, (.iastore, 1)), (214, (.return_, 1))]
theorem tX10_look_1 : pX10_look_1.all (fun q => decide (decode cX10_look q.1 = .ok q.2)) = true := by decide +kernel
def pX10_drift : List (Nat × (Instr × Nat)) := [(0, (.iload_n 1, 1)), (1, (.aload_n 0, 1)), (2, (.getfield 91, 3)), (5, (.invokestatic 80, 3)), (8, (.istore_n 2, 1)), (9, (.aload_n 0, 1)), (10, (.getfield 22, 3)), (13, (.iload_n 1, 1)), (14, (.iaload, 1)), (15, (.istore_n 3, 1)), (16, (.aload_n 0, 1)), (17, (.getfield 22, 3)), (20, (.bipush 24, 2)), (22, (.iload_n 1, 1)), (23, (.iadd, 1)), (24, (.iaload, 1)), (25, (.istore 4, 2)), (27, (.aload_n 0, 1)), (28, (.getfield 7, 3)), (31, (.iconst 0, 1)), (32, (.iload_n 1, 1)), (33, (.iadd, 1)), (34, (.dup2, 1)), (35, (.iaload, 1)), (36, (.iload_n 3, 1)), (37, (.isub, 1)), (38, (.iastore, 1)), (39, (.aload_n 0, 1)), (40, (.getfield 7, 3)), (43, (.bipush 24, 2)), (45, (.iload_n 1, 1)), (46, (.iadd, 1)), (47, (.dup2, 1)), (48, (.iaload, 1)), (49, (.iload 4, 2)), (51, (.isub, 1)), (52, (.iastore, 1)), (53, (.iload_n 2, 1)), (54, (.iconst (-1), 1)), (55, (.if_icmp .ne 21, 3)), (58, (.aload_n 0, 1)), (59, (.getfield 7, 3)), (62, (.sipush 173, 3)), (65, (.dup2, 1)), (66, (.iaload, 1)), (67, (.iload_n 3, 1)), (68, (.iload 4, 2)), (70, (.iadd, 1)), (71, (.iadd, 1)), (72, (.iastore, 1)), (73, (.goto 57, 3)), (76, (.aload_n 0, 1)), (77, (.getfield 16, 3)), (80, (.iload_n 2, 1)), (81, (.iaload, 1)), (82, (.ifCond .ne 32, 3)), (85, (.aload_n 0, 1)), (86, (.getfield 7, 3)), (89, (.iconst 0, 1)), (90, (.iload_n 2, 1)), (91, (.iadd, 1)), (92, (.dup2, 1)), (93, (.iaload, 1)), (94, (.iload_n 3, 1)), (95, (.iadd, 1)), (96, (.iastore, 1)), (97, (.aload_n 0, 1)), (98, (.getfield 7, 3)), (101, (.bipush 24, 2)), (103, (.iload_n 2, 1)), (104, (.iadd, 1)), (105, (.dup2, 1)), (106, (.iaload, 1)), (107, (.iload 4, 2)), (109, (.iadd, 1)), (110, (.iastore, 1)), (111, (.goto 19, 3)), (114, (.aload_n 0, 1)), (115, (.getfield 7, 3)), (118, (.bipush 48, 2)), (120, (.iload_n 2, 1)), (121, (.iadd, 1)), (122, (.dup2, 1)), (123, (.iaload, 1)), (124, (.iload_n 3, 1)), (125, (.iload 4, 2)), (127, (.iadd, 1)), (128, (.iadd, 1)), (129, (.iastore, 1)), (130, (.return_, 1))]
theorem tX10_drift : pX10_drift.all (fun q => decide (decode cX10_drift q.1 = .ok q.2)) = true := by decide +kernel
def pX10_lowestWater : List (Nat × (Instr × Nat)) := [(0, (.iconst (-1), 1)), (1, (.istore_n 2, 1)), (2, (.iconst 0, 1)), (3, (.istore_n 3, 1)), (4, (.iload_n 3, 1)), (5, (.iconst 4, 1)), (6, (.if_icmp .ge 46, 3)), (9, (.iload_n 1, 1)), (10, (.iload_n 3, 1)), (11, (.invokestatic 80, 3)), (14, (.istore 4, 2)), (16, (.iload 4, 2)), (18, (.iconst (-1), 1)), (19, (.if_icmp .eq 27, 3)), (22, (.aload_n 0, 1)), (23, (.getfield 16, 3)), (26, (.iload 4, 2)), (28, (.iaload, 1)), (29, (.ifCond .ne 17, 3)), (32, (.iload_n 2, 1)), (33, (.iconst (-1), 1)), (34, (.if_icmp .eq 9, 3)), (37, (.iload 4, 2)), (39, (.iload_n 2, 1)), (40, (.if_icmp .ge 6, 3)), (43, (.iload 4, 2)), (45, (.istore_n 2, 1)), (46, (.iinc 3 1, 3)), (49, (.goto (-45), 3)), (52, (.iload_n 2, 1)), (53, (.ireturn, 1))]
theorem tX10_lowestWater : pX10_lowestWater.all (fun q => decide (decode cX10_lowestWater q.1 = .ok q.2)) = true := by decide +kernel
def pX10_back : List (Nat × (Instr × Nat)) := [(0, (.aload_n 0, 1)), (1, (.getfield 16, 3)), (4, (.iload_n 1, 1)), (5, (.iaload, 1)), (6, (.iconst 1, 1)), (7, (.if_icmp .ne 9, 3)), (10, (.iload_n 2, 1)), (11, (.iconst 5, 1)), (12, (.idiv, 1)), (13, (.goto 21, 3)), (16, (.aload_n 0, 1)), (17, (.getfield 16, 3)), (20, (.iload_n 1, 1)), (21, (.iaload, 1)), (22, (.iconst 2, 1)), (23, (.if_icmp .ne 10, 3)), (26, (.iload_n 2, 1)), (27, (.bipush 10, 2)), (29, (.idiv, 1)), (30, (.goto 4, 3)), (33, (.iconst 0, 1)), (34, (.ireturn, 1))]
theorem tX10_back : pX10_back.all (fun q => decide (decode cX10_back q.1 = .ok q.2)) = true := by decide +kernel
def pX10_skim : List (Nat × (Instr × Nat)) := [(0, (.aload_n 0, 1)), (1, (.getfield 34, 3)), (4, (.iload_n 1, 1)), (5, (.iaload, 1)), (6, (.istore_n 2, 1)), (7, (.aload_n 0, 1)), (8, (.getfield 43, 3)), (11, (.iload_n 1, 1)), (12, (.iaload, 1)), (13, (.aload_n 0, 1)), (14, (.getfield 7, 3)), (17, (.sipush 148, 3)), (20, (.iload_n 1, 1)), (21, (.iadd, 1)), (22, (.iaload, 1)), (23, (.isub, 1)), (24, (.istore_n 3, 1)), (25, (.aload_n 0, 1)), (26, (.getfield 40, 3)), (29, (.iload_n 1, 1)), (30, (.iaload, 1)), (31, (.aload_n 0, 1)), (32, (.getfield 7, 3)), (35, (.iconst 0, 1)), (36, (.iload_n 2, 1)), (37, (.iadd, 1)), (38, (.iaload, 1)), (39, (.invokestatic 88, 3)), (42, (.iload_n 3, 1)), (43, (.invokestatic 88, 3)), (46, (.istore 4, 2)), (48, (.aload_n 0, 1)), (49, (.getfield 40, 3)), (52, (.iload_n 1, 1)), (53, (.iaload, 1)), (54, (.iload 4, 2)), (56, (.isub, 1)), (57, (.iconst 2, 1)), (58, (.idiv, 1)), (59, (.aload_n 0, 1)), (60, (.getfield 7, 3)), (63, (.bipush 24, 2)), (65, (.iload_n 2, 1)), (66, (.iadd, 1)), (67, (.iaload, 1)), (68, (.invokestatic 88, 3)), (71, (.iload_n 3, 1)), (72, (.iload 4, 2)), (74, (.isub, 1)), (75, (.invokestatic 88, 3)), (78, (.istore 5, 2)), (80, (.aload_n 0, 1)), (81, (.getfield 7, 3)), (84, (.iconst 0, 1)), (85, (.iload_n 2, 1)), (86, (.iadd, 1)), (87, (.dup2, 1)), (88, (.iaload, 1)), (89, (.iload 4, 2)), (91, (.isub, 1)), (92, (.iastore, 1)), (93, (.aload_n 0, 1)), (94, (.getfield 7, 3)), (97, (.bipush 24, 2)), (99, (.iload_n 2, 1)), (100, (.iadd, 1)), (101, (.dup2, 1)), (102, (.iaload, 1)), (103, (.iload 5, 2)), (105, (.isub, 1)), (106, (.iastore, 1)), (107, (.aload_n 0, 1)), (108, (.getfield 7, 3)), (111, (.sipush 148, 3)), (114, (.iload_n 1, 1)), (115, (.iadd, 1)), (116, (.dup2, 1)), (117, (.iaload, 1)), (118, (.iload 4, 2)), (120, (.iload 5, 2)), (122, (.iadd, 1)), (123, (.iadd, 1)), (124, (.iastore, 1)), (125, (.return_, 1))]
theorem tX10_skim : pX10_skim.all (fun q => decide (decode cX10_skim q.1 = .ok q.2)) = true := by decide +kernel
def pX10_suffer : List (Nat × (Instr × Nat)) := [(0, (.aload_n 0, 1)), (1, (.getfield 7, 3)), (4, (.bipush 48, 2)), (6, (.iload_n 1, 1)), (7, (.iadd, 1)), (8, (.iaload, 1)), (9, (.istore_n 2, 1)), (10, (.aload_n 0, 1)), (11, (.getfield 7, 3)), (14, (.bipush 72, 2)), (16, (.iload_n 1, 1)), (17, (.iadd, 1)), (18, (.iaload, 1)), (19, (.aload_n 0, 1)), (20, (.getfield 7, 3)), (23, (.bipush 96, 2)), (25, (.iload_n 1, 1)), (26, (.iadd, 1)), (27, (.iaload, 1)), (28, (.isub, 1)), (29, (.istore_n 3, 1)), (30, (.aload_n 0, 1)), (31, (.getfield 7, 3)), (34, (.bipush 96, 2)), (36, (.iload_n 1, 1)), (37, (.iadd, 1)), (38, (.dup2, 1)), (39, (.iaload, 1)), (40, (.iload_n 2, 1)), (41, (.bipush 100, 2)), (43, (.idiv, 1)), (44, (.iload_n 3, 1)), (45, (.invokestatic 88, 3)), (48, (.iadd, 1)), (49, (.iastore, 1)), (50, (.aload_n 0, 1)), (51, (.getfield 7, 3)), (54, (.bipush 120, 2)), (56, (.iload_n 1, 1)), (57, (.iadd, 1)), (58, (.iload_n 2, 1)), (59, (.aload_n 0, 1)), (60, (.iload_n 1, 1)), (61, (.invokevirtual 97, 3)), (64, (.bipush 20, 2)), (66, (.idiv, 1)), (67, (.if_icmp .le 7, 3)), (70, (.iconst 0, 1)), (71, (.goto 12, 3)), (74, (.aload_n 0, 1)), (75, (.getfield 7, 3)), (78, (.bipush 120, 2)), (80, (.iload_n 1, 1)), (81, (.iadd, 1)), (82, (.iaload, 1)), (83, (.iastore, 1)), (84, (.return_, 1))]
theorem tX10_suffer : pX10_suffer.all (fun q => decide (decode cX10_suffer q.1 = .ok q.2)) = true := by decide +kernel
def pX10_hour_0 : List (Nat × (Instr × Nat)) := [(0, (.aload_n 0, 1)), (1, (.getfield 7, 3)), (4, (.sipush 168, 3)), (7, (.dup2, 1)), (8, (.iaload, 1)), (9, (.iconst 1, 1)), (10, (.iadd, 1)), (11, (.iastore, 1)), (12, (.iconst 0, 1)), (13, (.istore_n 1, 1)), (14, (.iload_n 1, 1)), (15, (.aload_n 0, 1)), (16, (.getfield 70, 3)), (19, (.if_icmp .ge 109, 3)), (22, (.aload_n 0, 1)), (23, (.iload_n 1, 1)), (24, (.aload_n 0, 1)), (25, (.getfield 7, 3)), (28, (.sipush 168, 3)), (31, (.iaload, 1)), (32, (.invokevirtual 106, 3)), (35, (.istore_n 2, 1)), (36, (.aload_n 0, 1)), (37, (.getfield 7, 3)), (40, (.sipush 144, 3)), (43, (.iload_n 1, 1)), (44, (.iadd, 1)), (45, (.dup2, 1)), (46, (.iaload, 1)), (47, (.iload_n 2, 1)), (48, (.isub, 1)), (49, (.iastore, 1)), (50, (.aload_n 0, 1)), (51, (.getfield 7, 3)), (54, (.iconst 0, 1)), (55, (.aload_n 0, 1)), (56, (.getfield 25, 3)), (59, (.iload_n 1, 1)), (60, (.iaload, 1)), (61, (.iadd, 1)), (62, (.dup2, 1)), (63, (.iaload, 1)), (64, (.iload_n 2, 1)), (65, (.iadd, 1)), (66, (.iastore, 1)), (67, (.aload_n 0, 1)), (68, (.getfield 7, 3)), (71, (.sipush 169, 3)), (74, (.dup2, 1)), (75, (.iaload, 1)), (76, (.iload_n 2, 1)), (77, (.iadd, 1)), (78, (.iastore, 1)), (79, (.aload_n 0, 1)), (80, (.getfield 7, 3)), (83, (.sipush 170, 3)), (86, (.iload_n 2, 1)), (87, (.ifCond .le 26, 3)), (90, (.aload_n 0, 1)), (91, (.getfield 7, 3)), (94, (.sipush 170, 3)), (97, (.iaload, 1)), (98, (.iconst (-1), 1)), (99, (.if_icmp .ne 14, 3)), (102, (.aload_n 0, 1)), (103, (.getfield 7, 3)), (106, (.sipush 168, 3)), (109, (.iaload, 1)), (110, (.goto 11, 3)), (113, (.aload_n 0, 1)), (114, (.getfield 7, 3)), (117, (.sipush 170, 3)), (120, (.iaload, 1)), (121, (.iastore, 1)), (122, (.iinc 1 1, 3)), (125, (.goto (-111), 3)), (128, (.iconst 0, 1)), (129, (.istore_n 1, 1)), (130, (.iload_n 1, 1)), (131, (.bipush 24, 2)), (133, (.if_icmp .ge 14, 3)), (136, (.aload_n 0, 1)), (137, (.iload_n 1, 1)), (138, (.invokevirtual 109, 3)), (141, (.iinc 1 1, 3)), (144, (.goto (-14), 3)), (147, (.iconst 0, 1)), (148, (.istore_n 1, 1)), (149, (.iload_n 1, 1)), (150, (.bipush 24, 2)), (152, (.if_icmp .ge 14, 3)), (155, (.aload_n 0, 1)), (156, (.iload_n 1, 1)), (157, (.invokevirtual 113, 3)), (160, (.iinc 1 1, 3)), (163, (.goto (-14), 3)), (166, (.iconst 0, 1)), (167, (.istore_n 1, 1)), (168, (.iload_n 1, 1)), (169, (.bipush 24, 2))]
theorem tX10_hour_0 : pX10_hour_0.all (fun q => decide (decode cX10_hour q.1 = .ok q.2)) = true := by decide +kernel
def pX10_hour_1 : List (Nat × (Instr × Nat)) := [(171, (.if_icmp .ge 14, 3)), (174, (.aload_n 0, 1)), (175, (.iload_n 1, 1)), (176, (.invokevirtual 116, 3)), (179, (.iinc 1 1, 3)), (182, (.goto (-14), 3)), (185, (.iconst 0, 1)), (186, (.istore_n 1, 1)), (187, (.iload_n 1, 1)), (188, (.bipush 24, 2)), (190, (.if_icmp .ge 86, 3)), (193, (.aload_n 0, 1)), (194, (.getfield 7, 3)), (197, (.sipush 168, 3)), (200, (.iaload, 1)), (201, (.invokestatic 84, 3)), (204, (.bipush 6, 2)), (206, (.if_icmp .ne 70, 3)), (209, (.aload_n 0, 1)), (210, (.iload_n 1, 1)), (211, (.invokevirtual 119, 3)), (214, (.istore_n 2, 1)), (215, (.aload_n 0, 1)), (216, (.getfield 16, 3)), (219, (.iload_n 1, 1)), (220, (.iaload, 1)), (221, (.ifCond .eq 49, 3)), (224, (.iload_n 2, 1)), (225, (.iconst (-1), 1)), (226, (.if_icmp .eq 44, 3)), (229, (.aload_n 0, 1)), (230, (.iload_n 1, 1)), (231, (.aload_n 0, 1)), (232, (.getfield 7, 3)), (235, (.bipush 48, 2)), (237, (.iload_n 1, 1)), (238, (.iadd, 1)), (239, (.iaload, 1)), (240, (.invokevirtual 122, 3)), (243, (.istore_n 3, 1)), (244, (.aload_n 0, 1)), (245, (.getfield 7, 3)), (248, (.bipush 48, 2)), (250, (.iload_n 1, 1)), (251, (.iadd, 1)), (252, (.dup2, 1)), (253, (.iaload, 1)), (254, (.iload_n 3, 1)), (255, (.isub, 1)), (256, (.iastore, 1)), (257, (.aload_n 0, 1)), (258, (.getfield 7, 3)), (261, (.bipush 24, 2)), (263, (.iload_n 2, 1)), (264, (.iadd, 1)), (265, (.dup2, 1)), (266, (.iaload, 1)), (267, (.iload_n 3, 1)), (268, (.iadd, 1)), (269, (.iastore, 1)), (270, (.iinc 1 1, 3)), (273, (.goto (-86), 3)), (276, (.iconst 0, 1)), (277, (.istore_n 1, 1)), (278, (.iload_n 1, 1)), (279, (.aload_n 0, 1)), (280, (.getfield 73, 3)), (283, (.if_icmp .ge 24, 3)), (286, (.aload_n 0, 1)), (287, (.getfield 31, 3)), (290, (.iload_n 1, 1)), (291, (.iaload, 1)), (292, (.iconst 1, 1)), (293, (.if_icmp .ne 8, 3)), (296, (.aload_n 0, 1)), (297, (.iload_n 1, 1)), (298, (.invokevirtual 125, 3)), (301, (.iinc 1 1, 3)), (304, (.goto (-26), 3)), (307, (.iconst 0, 1)), (308, (.istore_n 1, 1)), (309, (.iload_n 1, 1)), (310, (.bipush 24, 2)), (312, (.if_icmp .ge 23, 3)), (315, (.aload_n 0, 1)), (316, (.getfield 16, 3)), (319, (.iload_n 1, 1)), (320, (.iaload, 1)), (321, (.ifCond .eq 8, 3)), (324, (.aload_n 0, 1)), (325, (.iload_n 1, 1)), (326, (.invokevirtual 128, 3)), (329, (.iinc 1 1, 3)), (332, (.goto (-23), 3)), (335, (.return_, 1))]
theorem tX10_hour_1 : pX10_hour_1.all (fun q => decide (decode cX10_hour q.1 = .ok q.2)) = true := by decide +kernel
def pX10_shore_0 : List (Nat × (Instr × Nat)) := [(0, (.aload_n 0, 1)), (1, (.iload_n 1, 1)), (2, (.invokestatic 76, 3)), (5, (.iconst 1, 1)), (6, (.invokevirtual 131, 3)), (9, (.ifCond .eq 5, 3)), (12, (.iconst 0, 1)), (13, (.ireturn, 1)), (14, (.aload_n 0, 1)), (15, (.iload_n 2, 1)), (16, (.iconst 0, 1)), (17, (.iconst 3, 1)), (18, (.invokestatic 66, 3)), (21, (.iconst 2, 1)), (22, (.invokevirtual 131, 3)), (25, (.ifCond .eq 5, 3)), (28, (.iconst 0, 1)), (29, (.ireturn, 1)), (30, (.aload_n 0, 1)), (31, (.getfield 7, 3)), (34, (.sipush 168, 3)), (37, (.iaload, 1)), (38, (.ifCond .ne 7, 3)), (41, (.iconst 1, 1)), (42, (.goto 4, 3)), (45, (.iconst 0, 1)), (46, (.istore_n 3, 1)), (47, (.iconst 0, 1)), (48, (.istore 4, 2)), (50, (.iload 4, 2)), (52, (.aload_n 0, 1)), (53, (.getfield 70, 3)), (56, (.if_icmp .ge 28, 3)), (59, (.iload_n 3, 1)), (60, (.aload_n 0, 1)), (61, (.getfield 25, 3)), (64, (.iload 4, 2)), (66, (.iaload, 1)), (67, (.iload_n 1, 1)), (68, (.if_icmp .eq 7, 3)), (71, (.iconst 1, 1)), (72, (.goto 4, 3)), (75, (.iconst 0, 1)), (76, (.iand, 1)), (77, (.istore_n 3, 1)), (78, (.iinc 4 1, 3)), (81, (.goto (-31), 3)), (84, (.iconst 0, 1)), (85, (.istore 4, 2)), (87, (.iload 4, 2)), (89, (.aload_n 0, 1)), (90, (.getfield 73, 3)), (93, (.if_icmp .ge 39, 3)), (96, (.iload_n 3, 1)), (97, (.aload_n 0, 1)), (98, (.getfield 31, 3)), (101, (.iload 4, 2)), (103, (.iaload, 1)), (104, (.iconst 1, 1)), (105, (.if_icmp .ne 14, 3)), (108, (.aload_n 0, 1)), (109, (.getfield 34, 3)), (112, (.iload 4, 2)), (114, (.iaload, 1)), (115, (.iload_n 1, 1)), (116, (.if_icmp .eq 7, 3)), (119, (.iconst 1, 1)), (120, (.goto 4, 3)), (123, (.iconst 0, 1)), (124, (.iand, 1)), (125, (.istore_n 3, 1)), (126, (.iinc 4 1, 3)), (129, (.goto (-42), 3)), (132, (.aload_n 0, 1)), (133, (.iload_n 3, 1)), (134, (.iconst 3, 1)), (135, (.invokevirtual 131, 3)), (138, (.ifCond .eq 5, 3)), (141, (.iconst 0, 1)), (142, (.ireturn, 1)), (143, (.aload_n 0, 1)), (144, (.getfield 16, 3)), (147, (.iload_n 1, 1)), (148, (.iaload, 1)), (149, (.istore 4, 2)), (151, (.aload_n 0, 1)), (152, (.getfield 16, 3)), (155, (.iload_n 1, 1)), (156, (.iload_n 2, 1)), (157, (.iastore, 1)), (158, (.aload_n 0, 1)), (159, (.getfield 19, 3)), (162, (.iload_n 1, 1)), (163, (.bipush 20, 2)), (165, (.iastore, 1)), (166, (.aload_n 0, 1)), (167, (.getfield 7, 3)), (170, (.bipush 72, 2)), (172, (.iload_n 1, 1)), (173, (.iadd, 1))]
theorem tX10_shore_0 : pX10_shore_0.all (fun q => decide (decode cX10_shore q.1 = .ok q.2)) = true := by decide +kernel
def pX10_shore_1 : List (Nat × (Instr × Nat)) := [(174, (.iconst 0, 1)), (175, (.iastore, 1)), (176, (.aload_n 0, 1)), (177, (.getfield 7, 3)), (180, (.bipush 96, 2)), (182, (.iload_n 1, 1)), (183, (.iadd, 1)), (184, (.iconst 0, 1)), (185, (.iastore, 1)), (186, (.aload_n 0, 1)), (187, (.getfield 7, 3)), (190, (.bipush 120, 2)), (192, (.iload_n 1, 1)), (193, (.iadd, 1)), (194, (.iconst 0, 1)), (195, (.iastore, 1)), (196, (.iload 4, 2)), (198, (.ireturn, 1))]
theorem tX10_shore_1 : pX10_shore_1.all (fun q => decide (decode cX10_shore q.1 = .ok q.2)) = true := by decide +kernel
def pX10_depth : List (Nat × (Instr × Nat)) := [(0, (.aload_n 0, 1)), (1, (.iload_n 1, 1)), (2, (.invokestatic 76, 3)), (5, (.iconst 1, 1)), (6, (.invokevirtual 131, 3)), (9, (.ifCond .eq 5, 3)), (12, (.iconst 0, 1)), (13, (.ireturn, 1)), (14, (.aload_n 0, 1)), (15, (.iload_n 2, 1)), (16, (.iconst 1, 1)), (17, (.bipush 99, 2)), (19, (.invokestatic 66, 3)), (22, (.iconst 2, 1)), (23, (.invokevirtual 131, 3)), (26, (.ifCond .eq 5, 3)), (29, (.iconst 0, 1)), (30, (.ireturn, 1)), (31, (.aload_n 0, 1)), (32, (.aload_n 0, 1)), (33, (.getfield 16, 3)), (36, (.iload_n 1, 1)), (37, (.iaload, 1)), (38, (.ifCond .ne 7, 3)), (41, (.iconst 1, 1)), (42, (.goto 4, 3)), (45, (.iconst 0, 1)), (46, (.iconst 3, 1)), (47, (.invokevirtual 131, 3)), (50, (.ifCond .eq 5, 3)), (53, (.iconst 0, 1)), (54, (.ireturn, 1)), (55, (.aload_n 0, 1)), (56, (.getfield 19, 3)), (59, (.iload_n 1, 1)), (60, (.iaload, 1)), (61, (.istore_n 3, 1)), (62, (.aload_n 0, 1)), (63, (.getfield 19, 3)), (66, (.iload_n 1, 1)), (67, (.iload_n 2, 1)), (68, (.iastore, 1)), (69, (.iload_n 3, 1)), (70, (.ireturn, 1))]
theorem tX10_depth : pX10_depth.all (fun q => decide (decode cX10_depth q.1 = .ok q.2)) = true := by decide +kernel
def pX10_wind : List (Nat × (Instr × Nat)) := [(0, (.aload_n 0, 1)), (1, (.iload_n 1, 1)), (2, (.iconst 0, 1)), (3, (.iconst 3, 1)), (4, (.invokestatic 66, 3)), (7, (.ifCond .eq 17, 3)), (10, (.iload_n 2, 1)), (11, (.iconst 0, 1)), (12, (.bipush 9, 2)), (14, (.invokestatic 66, 3)), (17, (.ifCond .eq 7, 3)), (20, (.iconst 1, 1)), (21, (.goto 4, 3)), (24, (.iconst 0, 1)), (25, (.iconst 1, 1)), (26, (.invokevirtual 131, 3)), (29, (.ifCond .eq 5, 3)), (32, (.iconst 0, 1)), (33, (.ireturn, 1)), (34, (.bipush 10, 2)), (36, (.aload_n 0, 1)), (37, (.getfield 91, 3)), (40, (.imul, 1)), (41, (.aload_n 0, 1)), (42, (.getfield 94, 3)), (45, (.iadd, 1)), (46, (.istore_n 3, 1)), (47, (.aload_n 0, 1)), (48, (.iload_n 1, 1)), (49, (.putfield 91, 3)), (52, (.aload_n 0, 1)), (53, (.iload_n 2, 1)), (54, (.putfield 94, 3)), (57, (.iload_n 3, 1)), (58, (.ireturn, 1))]
theorem tX10_wind : pX10_wind.all (fun q => decide (decode cX10_wind q.1 = .ok q.2)) = true := by decide +kernel
def pX10_ship : List (Nat × (Instr × Nat)) := [(0, (.aload_n 0, 1)), (1, (.iload_n 1, 1)), (2, (.invokestatic 76, 3)), (5, (.iconst 1, 1)), (6, (.invokevirtual 131, 3)), (9, (.ifCond .eq 5, 3)), (12, (.iconst 0, 1)), (13, (.ireturn, 1)), (14, (.aload_n 0, 1)), (15, (.iload_n 2, 1)), (16, (.iconst 0, 1)), (17, (.ldc 135, 2)), (19, (.invokestatic 66, 3)), (22, (.iconst 2, 1)), (23, (.invokevirtual 131, 3)), (26, (.ifCond .eq 5, 3)), (29, (.iconst 0, 1)), (30, (.ireturn, 1)), (31, (.aload_n 0, 1)), (32, (.aload_n 0, 1)), (33, (.getfield 16, 3)), (36, (.iload_n 1, 1)), (37, (.iaload, 1)), (38, (.ifCond .ne 15, 3)), (41, (.aload_n 0, 1)), (42, (.getfield 70, 3)), (45, (.iconst 4, 1)), (46, (.if_icmp .ge 7, 3)), (49, (.iconst 1, 1)), (50, (.goto 4, 3)), (53, (.iconst 0, 1)), (54, (.iconst 3, 1)), (55, (.invokevirtual 131, 3)), (58, (.ifCond .eq 5, 3)), (61, (.iconst 0, 1)), (62, (.ireturn, 1)), (63, (.aload_n 0, 1)), (64, (.getfield 25, 3)), (67, (.aload_n 0, 1)), (68, (.getfield 70, 3)), (71, (.iload_n 1, 1)), (72, (.iastore, 1)), (73, (.aload_n 0, 1)), (74, (.getfield 7, 3)), (77, (.sipush 144, 3)), (80, (.aload_n 0, 1)), (81, (.getfield 70, 3)), (84, (.iadd, 1)), (85, (.iload_n 2, 1)), (86, (.iastore, 1)), (87, (.aload_n 0, 1)), (88, (.dup, 1)), (89, (.getfield 70, 3)), (92, (.iconst 1, 1)), (93, (.iadd, 1)), (94, (.putfield 70, 3)), (97, (.aload_n 0, 1)), (98, (.getfield 70, 3)), (101, (.iconst 1, 1)), (102, (.isub, 1)), (103, (.ireturn, 1))]
theorem tX10_ship : pX10_ship.all (fun q => decide (decode cX10_ship q.1 = .ok q.2)) = true := by decide +kernel
def pX10_hole : List (Nat × (Instr × Nat)) := [(0, (.aload_n 0, 1)), (1, (.aload_n 0, 1)), (2, (.iload_n 1, 1)), (3, (.invokevirtual 136, 3)), (6, (.iconst 1, 1)), (7, (.invokevirtual 131, 3)), (10, (.ifCond .eq 5, 3)), (13, (.iconst 0, 1)), (14, (.ireturn, 1)), (15, (.aload_n 0, 1)), (16, (.iload_n 2, 1)), (17, (.iconst 0, 1)), (18, (.bipush 99, 2)), (20, (.invokestatic 66, 3)), (23, (.iconst 2, 1)), (24, (.invokevirtual 131, 3)), (27, (.ifCond .eq 5, 3)), (30, (.iconst 0, 1)), (31, (.ireturn, 1)), (32, (.aload_n 0, 1)), (33, (.getfield 28, 3)), (36, (.iload_n 1, 1)), (37, (.iaload, 1)), (38, (.istore_n 3, 1)), (39, (.aload_n 0, 1)), (40, (.getfield 28, 3)), (43, (.iload_n 1, 1)), (44, (.iload_n 2, 1)), (45, (.iastore, 1)), (46, (.iload_n 3, 1)), (47, (.ireturn, 1))]
theorem tX10_hole : pX10_hole.all (fun q => decide (decode cX10_hole q.1 = .ok q.2)) = true := by decide +kernel
def pX10_pump : List (Nat × (Instr × Nat)) := [(0, (.aload_n 0, 1)), (1, (.aload_n 0, 1)), (2, (.iload_n 1, 1)), (3, (.invokevirtual 136, 3)), (6, (.ifCond .eq 15, 3)), (9, (.aload_n 0, 1)), (10, (.iload_n 2, 1)), (11, (.invokevirtual 136, 3)), (14, (.ifCond .eq 7, 3)), (17, (.iconst 1, 1)), (18, (.goto 4, 3)), (21, (.iconst 0, 1)), (22, (.iconst 1, 1)), (23, (.invokevirtual 131, 3)), (26, (.ifCond .eq 5, 3)), (29, (.iconst 0, 1)), (30, (.ireturn, 1)), (31, (.aload_n 0, 1)), (32, (.iload_n 1, 1)), (33, (.iload_n 2, 1)), (34, (.if_icmp .eq 17, 3)), (37, (.iload_n 3, 1)), (38, (.iconst 1, 1)), (39, (.ldc 135, 2)), (41, (.invokestatic 66, 3)), (44, (.ifCond .eq 7, 3)), (47, (.iconst 1, 1)), (48, (.goto 4, 3)), (51, (.iconst 0, 1)), (52, (.iconst 2, 1)), (53, (.invokevirtual 131, 3)), (56, (.ifCond .eq 5, 3)), (59, (.iconst 0, 1)), (60, (.ireturn, 1)), (61, (.aload_n 0, 1)), (62, (.aload_n 0, 1)), (63, (.getfield 7, 3)), (66, (.sipush 144, 3)), (69, (.iload_n 1, 1)), (70, (.iadd, 1)), (71, (.iaload, 1)), (72, (.iload_n 3, 1)), (73, (.if_icmp .lt 24, 3)), (76, (.aload_n 0, 1)), (77, (.getfield 7, 3)), (80, (.sipush 144, 3)), (83, (.iload_n 2, 1)), (84, (.iadd, 1)), (85, (.iaload, 1)), (86, (.iload_n 3, 1)), (87, (.iadd, 1)), (88, (.ldc 135, 2)), (90, (.if_icmp .gt 7, 3)), (93, (.iconst 1, 1)), (94, (.goto 4, 3)), (97, (.iconst 0, 1)), (98, (.iconst 3, 1)), (99, (.invokevirtual 131, 3)), (102, (.ifCond .eq 5, 3)), (105, (.iconst 0, 1)), (106, (.ireturn, 1)), (107, (.aload_n 0, 1)), (108, (.getfield 7, 3)), (111, (.sipush 144, 3)), (114, (.iload_n 1, 1)), (115, (.iadd, 1)), (116, (.dup2, 1)), (117, (.iaload, 1)), (118, (.iload_n 3, 1)), (119, (.isub, 1)), (120, (.iastore, 1)), (121, (.aload_n 0, 1)), (122, (.getfield 7, 3)), (125, (.sipush 144, 3)), (128, (.iload_n 2, 1)), (129, (.iadd, 1)), (130, (.dup2, 1)), (131, (.iaload, 1)), (132, (.iload_n 3, 1)), (133, (.iadd, 1)), (134, (.iastore, 1)), (135, (.aload_n 0, 1)), (136, (.getfield 7, 3)), (139, (.sipush 144, 3)), (142, (.iload_n 2, 1)), (143, (.iadd, 1)), (144, (.iaload, 1)), (145, (.ireturn, 1))]
theorem tX10_pump : pX10_pump.all (fun q => decide (decode cX10_pump q.1 = .ok q.2)) = true := by decide +kernel
def pX10_shipHas : List (Nat × (Instr × Nat)) := [(0, (.aload_n 0, 1)), (1, (.aload_n 0, 1)), (2, (.iload_n 1, 1)), (3, (.invokevirtual 136, 3)), (6, (.iconst 1, 1)), (7, (.invokevirtual 131, 3)), (10, (.ifCond .eq 5, 3)), (13, (.iconst 0, 1)), (14, (.ireturn, 1)), (15, (.aload_n 0, 1)), (16, (.getfield 7, 3)), (19, (.sipush 144, 3)), (22, (.iload_n 1, 1)), (23, (.iadd, 1)), (24, (.iaload, 1)), (25, (.ireturn, 1))]
theorem tX10_shipHas : pX10_shipHas.all (fun q => decide (decode cX10_shipHas q.1 = .ok q.2)) = true := by decide +kernel
def pX10_pass : List (Nat × (Instr × Nat)) := [(0, (.aload_n 0, 1)), (1, (.iload_n 1, 1)), (2, (.iconst 1, 1)), (3, (.bipush 48, 2)), (5, (.invokestatic 66, 3)), (8, (.iconst 1, 1)), (9, (.invokevirtual 131, 3)), (12, (.ifCond .eq 5, 3)), (15, (.iconst 0, 1)), (16, (.ireturn, 1)), (17, (.aload_n 0, 1)), (18, (.aload_n 0, 1)), (19, (.getfield 7, 3)), (22, (.sipush 168, 3)), (25, (.iaload, 1)), (26, (.iload_n 1, 1)), (27, (.iadd, 1)), (28, (.sipush 2000, 3)), (31, (.if_icmp .gt 7, 3)), (34, (.iconst 1, 1)), (35, (.goto 4, 3)), (38, (.iconst 0, 1)), (39, (.iconst 2, 1)), (40, (.invokevirtual 131, 3)), (43, (.ifCond .eq 5, 3)), (46, (.iconst 0, 1)), (47, (.ireturn, 1)), (48, (.iconst 0, 1)), (49, (.istore_n 2, 1)), (50, (.iload_n 2, 1)), (51, (.iload_n 1, 1)), (52, (.if_icmp .ge 13, 3)), (55, (.aload_n 0, 1)), (56, (.invokevirtual 139, 3)), (59, (.iinc 2 1, 3)), (62, (.goto (-12), 3)), (65, (.aload_n 0, 1)), (66, (.getfield 7, 3)), (69, (.sipush 168, 3)), (72, (.iaload, 1)), (73, (.ireturn, 1))]
theorem tX10_pass : pX10_pass.all (fun q => decide (decode cX10_pass q.1 = .ok q.2)) = true := by decide +kernel
def pX10_signatures : List (Nat × (Instr × Nat)) := [(0, (.aload_n 0, 1)), (1, (.getfield 7, 3)), (4, (.bipush 120, 2)), (6, (.iload_n 1, 1)), (7, (.iadd, 1)), (8, (.iaload, 1)), (9, (.istore_n 2, 1)), (10, (.iload_n 2, 1)), (11, (.iconst 1, 1)), (12, (.iand, 1)), (13, (.iload_n 2, 1)), (14, (.iconst 1, 1)), (15, (.ishr, 1)), (16, (.iconst 1, 1)), (17, (.iand, 1)), (18, (.iadd, 1)), (19, (.iload_n 2, 1)), (20, (.iconst 2, 1)), (21, (.ishr, 1)), (22, (.iadd, 1)), (23, (.ireturn, 1))]
theorem tX10_signatures : pX10_signatures.all (fun q => decide (decode cX10_signatures q.1 = .ok q.2)) = true := by decide +kernel
def pX10_at : List (Nat × (Instr × Nat)) := [(0, (.aload_n 0, 1)), (1, (.iload_n 1, 1)), (2, (.invokestatic 76, 3)), (5, (.iconst 1, 1)), (6, (.invokevirtual 131, 3)), (9, (.ifCond .eq 5, 3)), (12, (.iconst 0, 1)), (13, (.ireturn, 1)), (14, (.aload_n 0, 1)), (15, (.iload_n 2, 1)), (16, (.iconst 0, 1)), (17, (.bipush 8, 2)), (19, (.invokestatic 66, 3)), (22, (.iconst 2, 1)), (23, (.invokevirtual 131, 3)), (26, (.ifCond .eq 5, 3)), (29, (.iconst 0, 1)), (30, (.ireturn, 1)), (31, (.iload_n 2, 1)), (32, (.iconst 3, 1)), (33, (.if_icmp .ge 15, 3)), (36, (.aload_n 0, 1)), (37, (.getfield 7, 3)), (40, (.bipush 24, 2)), (42, (.iload_n 2, 1)), (43, (.imul, 1)), (44, (.iload_n 1, 1)), (45, (.iadd, 1)), (46, (.iaload, 1)), (47, (.ireturn, 1)), (48, (.iload_n 2, 1)), (49, (.iconst 5, 1)), (50, (.if_icmp .ge 37, 3)), (53, (.iload_n 2, 1)), (54, (.iconst 3, 1)), (55, (.if_icmp .ne 12, 3)), (58, (.aload_n 0, 1)), (59, (.getfield 16, 3)), (62, (.iload_n 1, 1)), (63, (.iaload, 1)), (64, (.goto 22, 3)), (67, (.aload_n 0, 1)), (68, (.getfield 16, 3)), (71, (.iload_n 1, 1)), (72, (.iaload, 1)), (73, (.ifCond .ne 12, 3)), (76, (.aload_n 0, 1)), (77, (.getfield 19, 3)), (80, (.iload_n 1, 1)), (81, (.iaload, 1)), (82, (.goto 4, 3)), (85, (.iconst 0, 1)), (86, (.ireturn, 1)), (87, (.iload_n 2, 1)), (88, (.bipush 8, 2)), (90, (.if_icmp .ne 20, 3)), (93, (.aload_n 0, 1)), (94, (.iload_n 1, 1)), (95, (.invokevirtual 142, 3)), (98, (.iconst 1, 1)), (99, (.if_icmp .le 7, 3)), (102, (.iconst 1, 1)), (103, (.goto 37, 3)), (106, (.iconst 0, 1)), (107, (.goto 33, 3)), (110, (.aload_n 0, 1)), (111, (.getfield 7, 3)), (114, (.iload_n 2, 1)), (115, (.iconst 5, 1)), (116, (.if_icmp .ne 8, 3)), (119, (.bipush 72, 2)), (121, (.goto 16, 3)), (124, (.iload_n 2, 1)), (125, (.bipush 6, 2)), (127, (.if_icmp .ne 8, 3)), (130, (.bipush 96, 2)), (132, (.goto 5, 3)), (135, (.bipush 120, 2)), (137, (.iload_n 1, 1)), (138, (.iadd, 1)), (139, (.iaload, 1)), (140, (.ireturn, 1))]
theorem tX10_at : pX10_at.all (fun q => decide (decode cX10_at q.1 = .ok q.2)) = true := by decide +kernel
def pX10_mean : List (Nat × (Instr × Nat)) := [(0, (.aload_n 0, 1)), (1, (.getfield 31, 3)), (4, (.aload_n 0, 1)), (5, (.getfield 73, 3)), (8, (.iload_n 1, 1)), (9, (.iastore, 1)), (10, (.aload_n 0, 1)), (11, (.getfield 34, 3)), (14, (.aload_n 0, 1)), (15, (.getfield 73, 3)), (18, (.iload_n 2, 1)), (19, (.iastore, 1)), (20, (.aload_n 0, 1)), (21, (.getfield 40, 3)), (24, (.aload_n 0, 1)), (25, (.getfield 73, 3)), (28, (.iload_n 3, 1)), (29, (.iastore, 1)), (30, (.aload_n 0, 1)), (31, (.getfield 43, 3)), (34, (.aload_n 0, 1)), (35, (.getfield 73, 3)), (38, (.iload 4, 2)), (40, (.iastore, 1)), (41, (.aload_n 0, 1)), (42, (.getfield 50, 3)), (45, (.aload_n 0, 1)), (46, (.getfield 73, 3)), (49, (.iconst (-1), 1)), (50, (.iastore, 1)), (51, (.aload_n 0, 1)), (52, (.dup, 1)), (53, (.getfield 73, 3)), (56, (.iconst 1, 1)), (57, (.iadd, 1)), (58, (.putfield 73, 3)), (61, (.aload_n 0, 1)), (62, (.getfield 73, 3)), (65, (.iconst 1, 1)), (66, (.isub, 1)), (67, (.ireturn, 1))]
theorem tX10_mean : pX10_mean.all (fun q => decide (decode cX10_mean q.1 = .ok q.2)) = true := by decide +kernel
def pX10_boom : List (Nat × (Instr × Nat)) := [(0, (.aload_n 0, 1)), (1, (.iload_n 1, 1)), (2, (.invokestatic 76, 3)), (5, (.iconst 1, 1)), (6, (.invokevirtual 131, 3)), (9, (.ifCond .eq 5, 3)), (12, (.iconst 0, 1)), (13, (.ireturn, 1)), (14, (.aload_n 0, 1)), (15, (.iload_n 2, 1)), (16, (.iconst 0, 1)), (17, (.iconst 3, 1)), (18, (.invokestatic 66, 3)), (21, (.ifCond .eq 17, 3)), (24, (.iload_n 3, 1)), (25, (.iconst 1, 1)), (26, (.bipush 9, 2)), (28, (.invokestatic 66, 3)), (31, (.ifCond .eq 7, 3)), (34, (.iconst 1, 1)), (35, (.goto 4, 3)), (38, (.iconst 0, 1)), (39, (.iconst 2, 1)), (40, (.invokevirtual 131, 3)), (43, (.ifCond .eq 5, 3)), (46, (.iconst 0, 1)), (47, (.ireturn, 1)), (48, (.iload_n 1, 1)), (49, (.iload_n 2, 1)), (50, (.invokestatic 100, 3)), (53, (.istore 4, 2)), (55, (.aload_n 0, 1)), (56, (.aload_n 0, 1)), (57, (.iload 4, 2)), (59, (.invokevirtual 103, 3)), (62, (.iconst (-1), 1)), (63, (.if_icmp .ne 16, 3)), (66, (.aload_n 0, 1)), (67, (.getfield 73, 3)), (70, (.bipush 20, 2)), (72, (.if_icmp .ge 7, 3)), (75, (.iconst 1, 1)), (76, (.goto 4, 3)), (79, (.iconst 0, 1)), (80, (.iconst 3, 1)), (81, (.invokevirtual 131, 3)), (84, (.ifCond .eq 5, 3)), (87, (.iconst 0, 1)), (88, (.ireturn, 1)), (89, (.aload_n 0, 1)), (90, (.getfield 37, 3)), (93, (.aload_n 0, 1)), (94, (.getfield 73, 3)), (97, (.iload 4, 2)), (99, (.iastore, 1)), (100, (.aload_n 0, 1)), (101, (.iconst 0, 1)), (102, (.iload_n 1, 1)), (103, (.iload_n 3, 1)), (104, (.iconst 0, 1)), (105, (.invokevirtual 145, 3)), (108, (.ireturn, 1))]
theorem tX10_boom : pX10_boom.all (fun q => decide (decode cX10_boom q.1 = .ok q.2)) = true := by decide +kernel
def pX10_skimmer : List (Nat × (Instr × Nat)) := [(0, (.aload_n 0, 1)), (1, (.iload_n 1, 1)), (2, (.invokestatic 76, 3)), (5, (.iconst 1, 1)), (6, (.invokevirtual 131, 3)), (9, (.ifCond .eq 5, 3)), (12, (.iconst 0, 1)), (13, (.ireturn, 1)), (14, (.aload_n 0, 1)), (15, (.iload_n 2, 1)), (16, (.iconst 1, 1)), (17, (.sipush 500, 3)), (20, (.invokestatic 66, 3)), (23, (.ifCond .eq 18, 3)), (26, (.iload_n 3, 1)), (27, (.iconst 1, 1)), (28, (.sipush 5000, 3)), (31, (.invokestatic 66, 3)), (34, (.ifCond .eq 7, 3)), (37, (.iconst 1, 1)), (38, (.goto 4, 3)), (41, (.iconst 0, 1)), (42, (.iconst 2, 1)), (43, (.invokevirtual 131, 3)), (46, (.ifCond .eq 5, 3)), (49, (.iconst 0, 1)), (50, (.ireturn, 1)), (51, (.aload_n 0, 1)), (52, (.aload_n 0, 1)), (53, (.getfield 16, 3)), (56, (.iload_n 1, 1)), (57, (.iaload, 1)), (58, (.ifCond .ne 16, 3)), (61, (.aload_n 0, 1)), (62, (.getfield 73, 3)), (65, (.bipush 20, 2)), (67, (.if_icmp .ge 7, 3)), (70, (.iconst 1, 1)), (71, (.goto 4, 3)), (74, (.iconst 0, 1)), (75, (.iconst 3, 1)), (76, (.invokevirtual 131, 3)), (79, (.ifCond .eq 5, 3)), (82, (.iconst 0, 1)), (83, (.ireturn, 1)), (84, (.aload_n 0, 1)), (85, (.iconst 1, 1)), (86, (.iload_n 1, 1)), (87, (.iload_n 2, 1)), (88, (.iload_n 3, 1)), (89, (.invokevirtual 145, 3)), (92, (.ireturn, 1))]
theorem tX10_skimmer : pX10_skimmer.all (fun q => decide (decode cX10_skimmer q.1 = .ok q.2)) = true := by decide +kernel
def pX10_team : List (Nat × (Instr × Nat)) := [(0, (.aload_n 0, 1)), (1, (.iload_n 1, 1)), (2, (.iconst 1, 1)), (3, (.bipush 50, 2)), (5, (.invokestatic 66, 3)), (8, (.iconst 1, 1)), (9, (.invokevirtual 131, 3)), (12, (.ifCond .eq 5, 3)), (15, (.iconst 0, 1)), (16, (.ireturn, 1)), (17, (.aload_n 0, 1)), (18, (.aload_n 0, 1)), (19, (.getfield 73, 3)), (22, (.bipush 20, 2)), (24, (.if_icmp .ge 7, 3)), (27, (.iconst 1, 1)), (28, (.goto 4, 3)), (31, (.iconst 0, 1)), (32, (.iconst 2, 1)), (33, (.invokevirtual 131, 3)), (36, (.ifCond .eq 5, 3)), (39, (.iconst 0, 1)), (40, (.ireturn, 1)), (41, (.aload_n 0, 1)), (42, (.getfield 46, 3)), (45, (.aload_n 0, 1)), (46, (.getfield 73, 3)), (49, (.iload_n 2, 1)), (50, (.bastore, 1)), (51, (.aload_n 0, 1)), (52, (.iconst 2, 1)), (53, (.iconst (-1), 1)), (54, (.iload_n 1, 1)), (55, (.iconst 0, 1)), (56, (.invokevirtual 145, 3)), (59, (.ireturn, 1))]
theorem tX10_team : pX10_team.all (fun q => decide (decode cX10_team q.1 = .ok q.2)) = true := by decide +kernel
def pX10_move : List (Nat × (Instr × Nat)) := [(0, (.aload_n 0, 1)), (1, (.aload_n 0, 1)), (2, (.iload_n 1, 1)), (3, (.invokevirtual 149, 3)), (6, (.ifCond .eq 14, 3)), (9, (.iload_n 2, 1)), (10, (.invokestatic 76, 3)), (13, (.ifCond .eq 7, 3)), (16, (.iconst 1, 1)), (17, (.goto 4, 3)), (20, (.iconst 0, 1)), (21, (.iconst 1, 1)), (22, (.invokevirtual 131, 3)), (25, (.ifCond .eq 5, 3)), (28, (.iconst 0, 1)), (29, (.ireturn, 1)), (30, (.aload_n 0, 1)), (31, (.aload_n 0, 1)), (32, (.getfield 31, 3)), (35, (.iload_n 1, 1)), (36, (.iaload, 1)), (37, (.iconst 1, 1)), (38, (.if_icmp .ne 16, 3)), (41, (.aload_n 0, 1)), (42, (.getfield 16, 3)), (45, (.iload_n 2, 1)), (46, (.iaload, 1)), (47, (.ifCond .ne 7, 3)), (50, (.iconst 1, 1)), (51, (.goto 4, 3)), (54, (.iconst 0, 1)), (55, (.iconst 2, 1)), (56, (.invokevirtual 131, 3)), (59, (.ifCond .eq 5, 3)), (62, (.iconst 0, 1)), (63, (.ireturn, 1)), (64, (.aload_n 0, 1)), (65, (.getfield 34, 3)), (68, (.iload_n 1, 1)), (69, (.iaload, 1)), (70, (.istore_n 3, 1)), (71, (.aload_n 0, 1)), (72, (.getfield 34, 3)), (75, (.iload_n 1, 1)), (76, (.iload_n 2, 1)), (77, (.iastore, 1)), (78, (.iload_n 3, 1)), (79, (.ireturn, 1))]
theorem tX10_move : pX10_move.all (fun q => decide (decode cX10_move q.1 = .ok q.2)) = true := by decide +kernel
def pX10_carry : List (Nat × (Instr × Nat)) := [(0, (.aload_n 0, 1)), (1, (.aload_n 0, 1)), (2, (.iload_n 1, 1)), (3, (.invokevirtual 149, 3)), (6, (.iconst 1, 1)), (7, (.invokevirtual 131, 3)), (10, (.ifCond .eq 5, 3)), (13, (.iconst 0, 1)), (14, (.ireturn, 1)), (15, (.aload_n 0, 1)), (16, (.aload_n 0, 1)), (17, (.getfield 31, 3)), (20, (.iload_n 1, 1)), (21, (.iaload, 1)), (22, (.iconst 1, 1)), (23, (.if_icmp .ne 7, 3)), (26, (.iconst 1, 1)), (27, (.goto 4, 3)), (30, (.iconst 0, 1)), (31, (.iconst 2, 1)), (32, (.invokevirtual 131, 3)), (35, (.ifCond .eq 5, 3)), (38, (.iconst 0, 1)), (39, (.ireturn, 1)), (40, (.aload_n 0, 1)), (41, (.getfield 7, 3)), (44, (.sipush 148, 3)), (47, (.iload_n 1, 1)), (48, (.iadd, 1)), (49, (.iaload, 1)), (50, (.istore_n 2, 1)), (51, (.aload_n 0, 1)), (52, (.getfield 7, 3)), (55, (.sipush 148, 3)), (58, (.iload_n 1, 1)), (59, (.iadd, 1)), (60, (.iconst 0, 1)), (61, (.iastore, 1)), (62, (.aload_n 0, 1)), (63, (.getfield 53, 3)), (66, (.iconst 0, 1)), (67, (.dup2, 1)), (68, (.iaload, 1)), (69, (.iload_n 2, 1)), (70, (.iadd, 1)), (71, (.iastore, 1)), (72, (.iload_n 2, 1)), (73, (.ireturn, 1))]
theorem tX10_carry : pX10_carry.all (fun q => decide (decode cX10_carry q.1 = .ok q.2)) = true := by decide +kernel
def pX10_teach : List (Nat × (Instr × Nat)) := [(0, (.aload_n 0, 1)), (1, (.aload_n 0, 1)), (2, (.iload_n 1, 1)), (3, (.invokevirtual 149, 3)), (6, (.iconst 1, 1)), (7, (.invokevirtual 131, 3)), (10, (.ifCond .eq 5, 3)), (13, (.iconst 0, 1)), (14, (.ireturn, 1)), (15, (.aload_n 0, 1)), (16, (.aload_n 0, 1)), (17, (.getfield 31, 3)), (20, (.iload_n 1, 1)), (21, (.iaload, 1)), (22, (.iconst 2, 1)), (23, (.if_icmp .ne 7, 3)), (26, (.iconst 1, 1)), (27, (.goto 4, 3)), (30, (.iconst 0, 1)), (31, (.iconst 2, 1)), (32, (.invokevirtual 131, 3)), (35, (.ifCond .eq 5, 3)), (38, (.iconst 0, 1)), (39, (.ireturn, 1)), (40, (.aload_n 0, 1)), (41, (.getfield 46, 3)), (44, (.iload_n 1, 1)), (45, (.baload, 1)), (46, (.istore_n 2, 1)), (47, (.aload_n 0, 1)), (48, (.getfield 46, 3)), (51, (.iload_n 1, 1)), (52, (.iconst 1, 1)), (53, (.bastore, 1)), (54, (.iload_n 2, 1)), (55, (.ireturn, 1))]
theorem tX10_teach : pX10_teach.all (fun q => decide (decode cX10_teach q.1 = .ok q.2)) = true := by decide +kernel
def pX10_clean_0 : List (Nat × (Instr × Nat)) := [(0, (.aload_n 0, 1)), (1, (.aload_n 0, 1)), (2, (.iload_n 1, 1)), (3, (.invokevirtual 149, 3)), (6, (.ifCond .eq 14, 3)), (9, (.iload_n 2, 1)), (10, (.invokestatic 76, 3)), (13, (.ifCond .eq 7, 3)), (16, (.iconst 1, 1)), (17, (.goto 4, 3)), (20, (.iconst 0, 1)), (21, (.iconst 1, 1)), (22, (.invokevirtual 131, 3)), (25, (.ifCond .eq 5, 3)), (28, (.iconst 0, 1)), (29, (.ireturn, 1)), (30, (.aload_n 0, 1)), (31, (.getfield 50, 3)), (34, (.iload_n 1, 1)), (35, (.iaload, 1)), (36, (.iconst (-1), 1)), (37, (.if_icmp .eq 23, 3)), (40, (.aload_n 0, 1)), (41, (.getfield 7, 3)), (44, (.sipush 168, 3)), (47, (.iaload, 1)), (48, (.aload_n 0, 1)), (49, (.getfield 50, 3)), (52, (.iload_n 1, 1)), (53, (.iaload, 1)), (54, (.isub, 1)), (55, (.bipush 12, 2)), (57, (.if_icmp .lt 7, 3)), (60, (.iconst 1, 1)), (61, (.goto 4, 3)), (64, (.iconst 0, 1)), (65, (.istore_n 3, 1)), (66, (.iload_n 3, 1)), (67, (.ifCond .eq 7, 3)), (70, (.iconst 0, 1)), (71, (.goto 13, 3)), (74, (.aload_n 0, 1)), (75, (.getfield 7, 3)), (78, (.sipush 148, 3)), (81, (.iload_n 1, 1)), (82, (.iadd, 1)), (83, (.iaload, 1)), (84, (.istore 4, 2)), (86, (.aload_n 0, 1)), (87, (.getfield 31, 3)), (90, (.iload_n 1, 1)), (91, (.iaload, 1)), (92, (.iconst 2, 1)), (93, (.if_icmp .ne 49, 3)), (96, (.aload_n 0, 1)), (97, (.getfield 16, 3)), (100, (.iload_n 2, 1)), (101, (.iaload, 1)), (102, (.ifCond .eq 40, 3)), (105, (.aload_n 0, 1)), (106, (.getfield 46, 3)), (109, (.iload_n 1, 1)), (110, (.baload, 1)), (111, (.ifCond .eq 31, 3)), (114, (.aload_n 0, 1)), (115, (.getfield 50, 3)), (118, (.iload_n 1, 1)), (119, (.iaload, 1)), (120, (.aload_n 0, 1)), (121, (.getfield 7, 3)), (124, (.sipush 168, 3)), (127, (.iaload, 1)), (128, (.if_icmp .eq 14, 3)), (131, (.iload 4, 2)), (133, (.bipush 8, 2)), (135, (.if_icmp .ge 7, 3)), (138, (.iconst 1, 1)), (139, (.goto 4, 3)), (142, (.iconst 0, 1)), (143, (.istore 5, 2)), (145, (.aload_n 0, 1)), (146, (.iload 5, 2)), (148, (.iconst 2, 1)), (149, (.invokevirtual 131, 3)), (152, (.ifCond .eq 5, 3)), (155, (.iconst 0, 1)), (156, (.ireturn, 1)), (157, (.bipush 10, 2)), (159, (.aload_n 0, 1)), (160, (.getfield 40, 3)), (163, (.iload_n 1, 1)), (164, (.iaload, 1)), (165, (.imul, 1)), (166, (.aload_n 0, 1)), (167, (.getfield 7, 3)), (170, (.bipush 48, 2)), (172, (.iload_n 2, 1)), (173, (.iadd, 1)), (174, (.iaload, 1)), (175, (.invokestatic 88, 3))]
theorem tX10_clean_0 : pX10_clean_0.all (fun q => decide (decode cX10_clean q.1 = .ok q.2)) = true := by decide +kernel
def pX10_clean_1 : List (Nat × (Instr × Nat)) := [(178, (.istore 6, 2)), (180, (.aload_n 0, 1)), (181, (.getfield 7, 3)), (184, (.bipush 48, 2)), (186, (.iload_n 2, 1)), (187, (.iadd, 1)), (188, (.dup2, 1)), (189, (.iaload, 1)), (190, (.iload 6, 2)), (192, (.isub, 1)), (193, (.iastore, 1)), (194, (.aload_n 0, 1)), (195, (.getfield 53, 3)), (198, (.iconst 1, 1)), (199, (.dup2, 1)), (200, (.iaload, 1)), (201, (.iload 6, 2)), (203, (.iadd, 1)), (204, (.iastore, 1)), (205, (.aload_n 0, 1)), (206, (.getfield 7, 3)), (209, (.sipush 148, 3)), (212, (.iload_n 1, 1)), (213, (.iadd, 1)), (214, (.iload 4, 2)), (216, (.iconst 1, 1)), (217, (.iadd, 1)), (218, (.iastore, 1)), (219, (.aload_n 0, 1)), (220, (.getfield 50, 3)), (223, (.iload_n 1, 1)), (224, (.aload_n 0, 1)), (225, (.getfield 7, 3)), (228, (.sipush 168, 3)), (231, (.iaload, 1)), (232, (.iastore, 1)), (233, (.iload 6, 2)), (235, (.ireturn, 1))]
theorem tX10_clean_1 : pX10_clean_1.all (fun q => decide (decode cX10_clean q.1 = .ok q.2)) = true := by decide +kernel
def pX10_meanIs : List (Nat × (Instr × Nat)) := [(0, (.aload_n 0, 1)), (1, (.aload_n 0, 1)), (2, (.iload_n 1, 1)), (3, (.invokevirtual 149, 3)), (6, (.iconst 1, 1)), (7, (.invokevirtual 131, 3)), (10, (.ifCond .eq 5, 3)), (13, (.iconst 0, 1)), (14, (.ireturn, 1)), (15, (.aload_n 0, 1)), (16, (.iload_n 2, 1)), (17, (.iconst 0, 1)), (18, (.iconst 3, 1)), (19, (.invokestatic 66, 3)), (22, (.iconst 2, 1)), (23, (.invokevirtual 131, 3)), (26, (.ifCond .eq 5, 3)), (29, (.iconst 0, 1)), (30, (.ireturn, 1)), (31, (.iload_n 2, 1)), (32, (.ifCond .ne 12, 3)), (35, (.aload_n 0, 1)), (36, (.getfield 31, 3)), (39, (.iload_n 1, 1)), (40, (.iaload, 1)), (41, (.goto 41, 3)), (44, (.iload_n 2, 1)), (45, (.iconst 1, 1)), (46, (.if_icmp .ne 12, 3)), (49, (.aload_n 0, 1)), (50, (.getfield 34, 3)), (53, (.iload_n 1, 1)), (54, (.iaload, 1)), (55, (.goto 27, 3)), (58, (.iload_n 2, 1)), (59, (.iconst 2, 1)), (60, (.if_icmp .ne 12, 3)), (63, (.aload_n 0, 1)), (64, (.getfield 40, 3)), (67, (.iload_n 1, 1)), (68, (.iaload, 1)), (69, (.goto 13, 3)), (72, (.aload_n 0, 1)), (73, (.getfield 7, 3)), (76, (.sipush 148, 3)), (79, (.iload_n 1, 1)), (80, (.iadd, 1)), (81, (.iaload, 1)), (82, (.ireturn, 1))]
theorem tX10_meanIs : pX10_meanIs.all (fun q => decide (decode cX10_meanIs q.1 = .ok q.2)) = true := by decide +kernel
def pX10_isAgainst_0 : List (Nat × (Instr × Nat)) := [(0, (.iload_n 2, 1)), (1, (.ifCond .ne 8, 3)), (4, (.bipush 72, 2)), (6, (.goto 5, 3)), (9, (.bipush 24, 2)), (11, (.istore 4, 2)), (13, (.iload_n 3, 1)), (14, (.tableswitch 172 1 4 #[30, 72, 112, 138], 30)), (44, (.iload_n 2, 1)), (45, (.ifCond .ne 22, 3)), (48, (.aload_n 0, 1)), (49, (.getfield 19, 3)), (52, (.iload_n 1, 1)), (53, (.iaload, 1)), (54, (.bipush 10, 2)), (56, (.if_icmp .ge 7, 3)), (59, (.iconst 1, 1)), (60, (.goto 25, 3)), (63, (.iconst 0, 1)), (64, (.goto 21, 3)), (67, (.aload_n 0, 1)), (68, (.getfield 7, 3)), (71, (.iconst 0, 1)), (72, (.iload_n 1, 1)), (73, (.iadd, 1)), (74, (.iaload, 1)), (75, (.bipush 100, 2)), (77, (.if_icmp .ge 7, 3)), (80, (.iconst 1, 1)), (81, (.goto 4, 3)), (84, (.iconst 0, 1)), (85, (.ireturn, 1)), (86, (.aload_n 0, 1)), (87, (.getfield 7, 3)), (90, (.sipush 170, 3)), (93, (.iaload, 1)), (94, (.iconst (-1), 1)), (95, (.if_icmp .eq 25, 3)), (98, (.aload_n 0, 1)), (99, (.getfield 7, 3)), (102, (.sipush 168, 3)), (105, (.iaload, 1)), (106, (.aload_n 0, 1)), (107, (.getfield 7, 3)), (110, (.sipush 170, 3)), (113, (.iaload, 1)), (114, (.isub, 1)), (115, (.iload 4, 2)), (117, (.if_icmp .le 7, 3)), (120, (.iconst 1, 1)), (121, (.goto 4, 3)), (124, (.iconst 0, 1)), (125, (.ireturn, 1)), (126, (.aload_n 0, 1)), (127, (.getfield 7, 3)), (130, (.bipush 24, 2)), (132, (.iload_n 1, 1)), (133, (.iadd, 1)), (134, (.iaload, 1)), (135, (.aload_n 0, 1)), (136, (.getfield 7, 3)), (139, (.iconst 0, 1)), (140, (.iload_n 1, 1)), (141, (.iadd, 1)), (142, (.iaload, 1)), (143, (.if_icmp .le 7, 3)), (146, (.iconst 1, 1)), (147, (.goto 4, 3)), (150, (.iconst 0, 1)), (151, (.ireturn, 1)), (152, (.iload_n 2, 1)), (153, (.ifCond .ne 19, 3)), (156, (.aload_n 0, 1)), (157, (.getfield 94, 3)), (160, (.iconst 2, 1)), (161, (.if_icmp .ge 7, 3)), (164, (.iconst 1, 1)), (165, (.goto 20, 3)), (168, (.iconst 0, 1)), (169, (.goto 16, 3)), (172, (.aload_n 0, 1)), (173, (.getfield 94, 3)), (176, (.iconst 5, 1)), (177, (.if_icmp .le 7, 3)), (180, (.iconst 1, 1)), (181, (.goto 4, 3)), (184, (.iconst 0, 1)), (185, (.ireturn, 1)), (186, (.iconst 0, 1)), (187, (.istore 5, 2)), (189, (.iconst 0, 1)), (190, (.istore 6, 2)), (192, (.iload 6, 2)), (194, (.iconst 4, 1)), (195, (.if_icmp .ge 61, 3)), (198, (.iload_n 1, 1)), (199, (.iload 6, 2)), (201, (.invokestatic 80, 3)), (204, (.istore 7, 2)), (206, (.iload 5, 2))]
theorem tX10_isAgainst_0 : pX10_isAgainst_0.all (fun q => decide (decode cX10_isAgainst q.1 = .ok q.2)) = true := by decide +kernel
def pX10_isAgainst_1 : List (Nat × (Instr × Nat)) := [(208, (.iload 7, 2)), (210, (.iconst (-1), 1)), (211, (.if_icmp .eq 35, 3)), (214, (.iload_n 2, 1)), (215, (.ifCond .ne 17, 3)), (218, (.aload_n 0, 1)), (219, (.getfield 16, 3)), (222, (.iload 7, 2)), (224, (.iaload, 1)), (225, (.iconst 3, 1)), (226, (.if_icmp .ne 20, 3)), (229, (.goto 13, 3)), (232, (.aload_n 0, 1)), (233, (.getfield 16, 3)), (236, (.iload 7, 2)), (238, (.iaload, 1)), (239, (.ifCond .eq 7, 3)), (242, (.iconst 1, 1)), (243, (.goto 4, 3)), (246, (.iconst 0, 1)), (247, (.ior, 1)), (248, (.istore 5, 2)), (250, (.iinc 6 1, 3)), (253, (.goto (-61), 3)), (256, (.iload 5, 2)), (258, (.ireturn, 1))]
theorem tX10_isAgainst_1 : pX10_isAgainst_1.all (fun q => decide (decode cX10_isAgainst q.1 = .ok q.2)) = true := by decide +kernel
def pX10_rules : List (Nat × (Instr × Nat)) := [(0, (.iconst 0, 1)), (1, (.istore 4, 2)), (3, (.iconst 0, 1)), (4, (.istore 5, 2)), (6, (.iconst 0, 1)), (7, (.istore 6, 2)), (9, (.iconst 1, 1)), (10, (.istore 7, 2)), (12, (.iload 7, 2)), (14, (.bipush 6, 2)), (16, (.if_icmp .ge 41, 3)), (19, (.aload_n 0, 1)), (20, (.iload_n 1, 1)), (21, (.iload_n 2, 1)), (22, (.iload 7, 2)), (24, (.invokevirtual 152, 3)), (27, (.ifCond .eq 24, 3)), (30, (.iload 4, 2)), (32, (.ifCond .ne 8, 3)), (35, (.iload 7, 2)), (37, (.goto 5, 3)), (40, (.iload 4, 2)), (42, (.istore 4, 2)), (44, (.iload 7, 2)), (46, (.istore 5, 2)), (48, (.iinc 6 1, 3)), (51, (.iinc 7 1, 3)), (54, (.goto (-42), 3)), (57, (.iload_n 3, 1)), (58, (.ifCond .ne 8, 3)), (61, (.iload 4, 2)), (63, (.goto 15, 3)), (66, (.iload_n 3, 1)), (67, (.iconst 1, 1)), (68, (.if_icmp .ne 8, 3)), (71, (.iload 5, 2)), (73, (.goto 5, 3)), (76, (.iload 6, 2)), (78, (.ireturn, 1))]
theorem tX10_rules : pX10_rules.all (fun q => decide (decode cX10_rules q.1 = .ok q.2)) = true := by decide +kernel
def pX10_use : List (Nat × (Instr × Nat)) := [(0, (.aload_n 0, 1)), (1, (.iload_n 1, 1)), (2, (.invokestatic 76, 3)), (5, (.iconst 1, 1)), (6, (.invokevirtual 131, 3)), (9, (.ifCond .eq 5, 3)), (12, (.iconst 0, 1)), (13, (.ireturn, 1)), (14, (.aload_n 0, 1)), (15, (.iload_n 2, 1)), (16, (.iconst 0, 1)), (17, (.iconst 1, 1)), (18, (.invokestatic 66, 3)), (21, (.iconst 2, 1)), (22, (.invokevirtual 131, 3)), (25, (.ifCond .eq 5, 3)), (28, (.iconst 0, 1)), (29, (.ireturn, 1)), (30, (.aload_n 0, 1)), (31, (.aload_n 0, 1)), (32, (.getfield 16, 3)), (35, (.iload_n 1, 1)), (36, (.iaload, 1)), (37, (.ifCond .ne 17, 3)), (40, (.aload_n 0, 1)), (41, (.iload_n 1, 1)), (42, (.iload_n 2, 1)), (43, (.iconst 2, 1)), (44, (.invokevirtual 155, 3)), (47, (.ifCond .ne 7, 3)), (50, (.iconst 1, 1)), (51, (.goto 4, 3)), (54, (.iconst 0, 1)), (55, (.iconst 3, 1)), (56, (.invokevirtual 131, 3)), (59, (.ifCond .eq 5, 3)), (62, (.iconst 0, 1)), (63, (.ireturn, 1)), (64, (.iload_n 2, 1)), (65, (.ifCond .ne 14, 3)), (68, (.aload_n 0, 1)), (69, (.getfield 7, 3)), (72, (.iconst 0, 1)), (73, (.iload_n 1, 1)), (74, (.iadd, 1)), (75, (.iaload, 1)), (76, (.goto 17, 3)), (79, (.bipush 9, 2)), (81, (.aload_n 0, 1)), (82, (.getfield 7, 3)), (85, (.iconst 0, 1)), (86, (.iload_n 1, 1)), (87, (.iadd, 1)), (88, (.iaload, 1)), (89, (.imul, 1)), (90, (.bipush 10, 2)), (92, (.idiv, 1)), (93, (.istore_n 3, 1)), (94, (.aload_n 0, 1)), (95, (.getfield 7, 3)), (98, (.iconst 0, 1)), (99, (.iload_n 1, 1)), (100, (.iadd, 1)), (101, (.dup2, 1)), (102, (.iaload, 1)), (103, (.iload_n 3, 1)), (104, (.isub, 1)), (105, (.iastore, 1)), (106, (.aload_n 0, 1)), (107, (.dup, 1)), (108, (.getfield 159, 3)), (111, (.iload_n 2, 1)), (112, (.ifCond .ne 7, 3)), (115, (.iload_n 3, 1)), (116, (.goto 4, 3)), (119, (.iconst 0, 1)), (120, (.iadd, 1)), (121, (.putfield 159, 3)), (124, (.aload_n 0, 1)), (125, (.dup, 1)), (126, (.getfield 162, 3)), (129, (.iload_n 2, 1)), (130, (.iconst 1, 1)), (131, (.if_icmp .ne 7, 3)), (134, (.iload_n 3, 1)), (135, (.goto 4, 3)), (138, (.iconst 0, 1)), (139, (.iadd, 1)), (140, (.putfield 162, 3)), (143, (.iload_n 3, 1)), (144, (.ireturn, 1))]
theorem tX10_use : pX10_use.all (fun q => decide (decode cX10_use q.1 = .ok q.2)) = true := by decide +kernel
def pX10_why : List (Nat × (Instr × Nat)) := [(0, (.aload_n 0, 1)), (1, (.iload_n 1, 1)), (2, (.invokestatic 76, 3)), (5, (.iconst 1, 1)), (6, (.invokevirtual 131, 3)), (9, (.ifCond .eq 5, 3)), (12, (.iconst 0, 1)), (13, (.ireturn, 1)), (14, (.aload_n 0, 1)), (15, (.iload_n 2, 1)), (16, (.iconst 0, 1)), (17, (.iconst 1, 1)), (18, (.invokestatic 66, 3)), (21, (.ifCond .eq 16, 3)), (24, (.iload_n 3, 1)), (25, (.iconst 0, 1)), (26, (.iconst 2, 1)), (27, (.invokestatic 66, 3)), (30, (.ifCond .eq 7, 3)), (33, (.iconst 1, 1)), (34, (.goto 4, 3)), (37, (.iconst 0, 1)), (38, (.iconst 2, 1)), (39, (.invokevirtual 131, 3)), (42, (.ifCond .eq 5, 3)), (45, (.iconst 0, 1)), (46, (.ireturn, 1)), (47, (.aload_n 0, 1)), (48, (.aload_n 0, 1)), (49, (.getfield 16, 3)), (52, (.iload_n 1, 1)), (53, (.iaload, 1)), (54, (.ifCond .ne 7, 3)), (57, (.iconst 1, 1)), (58, (.goto 4, 3)), (61, (.iconst 0, 1)), (62, (.iconst 3, 1)), (63, (.invokevirtual 131, 3)), (66, (.ifCond .eq 5, 3)), (69, (.iconst 0, 1)), (70, (.ireturn, 1)), (71, (.aload_n 0, 1)), (72, (.iload_n 1, 1)), (73, (.iload_n 2, 1)), (74, (.iload_n 3, 1)), (75, (.invokevirtual 155, 3)), (78, (.ireturn, 1))]
theorem tX10_why : pX10_why.all (fun q => decide (decode cX10_why q.1 = .ok q.2)) = true := by decide +kernel
def pX10_birds : List (Nat × (Instr × Nat)) := [(0, (.aload_n 0, 1)), (1, (.iload_n 1, 1)), (2, (.invokestatic 76, 3)), (5, (.iconst 1, 1)), (6, (.invokevirtual 131, 3)), (9, (.ifCond .eq 5, 3)), (12, (.iconst 0, 1)), (13, (.ireturn, 1)), (14, (.aload_n 0, 1)), (15, (.iload_n 2, 1)), (16, (.iconst 1, 1)), (17, (.bipush 100, 2)), (19, (.invokestatic 66, 3)), (22, (.iconst 2, 1)), (23, (.invokevirtual 131, 3)), (26, (.ifCond .eq 5, 3)), (29, (.iconst 0, 1)), (30, (.ireturn, 1)), (31, (.aload_n 0, 1)), (32, (.aload_n 0, 1)), (33, (.getfield 16, 3)), (36, (.iload_n 1, 1)), (37, (.iaload, 1)), (38, (.ifCond .eq 24, 3)), (41, (.aload_n 0, 1)), (42, (.getfield 7, 3)), (45, (.bipush 72, 2)), (47, (.iload_n 1, 1)), (48, (.iadd, 1)), (49, (.iaload, 1)), (50, (.iload_n 2, 1)), (51, (.iadd, 1)), (52, (.sipush 1000, 3)), (55, (.if_icmp .gt 7, 3)), (58, (.iconst 1, 1)), (59, (.goto 4, 3)), (62, (.iconst 0, 1)), (63, (.iconst 3, 1)), (64, (.invokevirtual 131, 3)), (67, (.ifCond .eq 5, 3)), (70, (.iconst 0, 1)), (71, (.ireturn, 1)), (72, (.aload_n 0, 1)), (73, (.getfield 7, 3)), (76, (.bipush 72, 2)), (78, (.iload_n 1, 1)), (79, (.iadd, 1)), (80, (.dup2, 1)), (81, (.iaload, 1)), (82, (.iload_n 2, 1)), (83, (.iadd, 1)), (84, (.iastore, 1)), (85, (.aload_n 0, 1)), (86, (.getfield 7, 3)), (89, (.bipush 72, 2)), (91, (.iload_n 1, 1)), (92, (.iadd, 1)), (93, (.iaload, 1)), (94, (.ireturn, 1))]
theorem tX10_birds : pX10_birds.all (fun q => decide (decode cX10_birds q.1 = .ok q.2)) = true := by decide +kernel
def pX10_wash : List (Nat × (Instr × Nat)) := [(0, (.aload_n 0, 1)), (1, (.iload_n 1, 1)), (2, (.invokestatic 76, 3)), (5, (.iconst 1, 1)), (6, (.invokevirtual 131, 3)), (9, (.ifCond .eq 5, 3)), (12, (.iconst 0, 1)), (13, (.ireturn, 1)), (14, (.aload_n 0, 1)), (15, (.iload_n 2, 1)), (16, (.iconst 1, 1)), (17, (.bipush 100, 2)), (19, (.invokestatic 66, 3)), (22, (.iconst 2, 1)), (23, (.invokevirtual 131, 3)), (26, (.ifCond .eq 5, 3)), (29, (.iconst 0, 1)), (30, (.ireturn, 1)), (31, (.aload_n 0, 1)), (32, (.aload_n 0, 1)), (33, (.getfield 16, 3)), (36, (.iload_n 1, 1)), (37, (.iaload, 1)), (38, (.ifCond .eq 7, 3)), (41, (.iconst 1, 1)), (42, (.goto 4, 3)), (45, (.iconst 0, 1)), (46, (.iconst 3, 1)), (47, (.invokevirtual 131, 3)), (50, (.ifCond .eq 5, 3)), (53, (.iconst 0, 1)), (54, (.ireturn, 1)), (55, (.iload_n 2, 1)), (56, (.aload_n 0, 1)), (57, (.getfield 7, 3)), (60, (.bipush 96, 2)), (62, (.iload_n 1, 1)), (63, (.iadd, 1)), (64, (.iaload, 1)), (65, (.invokestatic 88, 3)), (68, (.istore_n 3, 1)), (69, (.aload_n 0, 1)), (70, (.getfield 7, 3)), (73, (.bipush 96, 2)), (75, (.iload_n 1, 1)), (76, (.iadd, 1)), (77, (.dup2, 1)), (78, (.iaload, 1)), (79, (.iload_n 3, 1)), (80, (.isub, 1)), (81, (.iastore, 1)), (82, (.iload_n 3, 1)), (83, (.ireturn, 1))]
theorem tX10_wash : pX10_wash.all (fun q => decide (decode cX10_wash q.1 = .ok q.2)) = true := by decide +kernel
def pX10_sign : List (Nat × (Instr × Nat)) := [(0, (.aload_n 0, 1)), (1, (.iload_n 1, 1)), (2, (.invokestatic 76, 3)), (5, (.iconst 1, 1)), (6, (.invokevirtual 131, 3)), (9, (.ifCond .eq 5, 3)), (12, (.iconst 0, 1)), (13, (.ireturn, 1)), (14, (.aload_n 0, 1)), (15, (.iload_n 2, 1)), (16, (.iconst 0, 1)), (17, (.iconst 2, 1)), (18, (.invokestatic 66, 3)), (21, (.iconst 2, 1)), (22, (.invokevirtual 131, 3)), (25, (.ifCond .eq 5, 3)), (28, (.iconst 0, 1)), (29, (.ireturn, 1)), (30, (.aload_n 0, 1)), (31, (.getfield 16, 3)), (34, (.iload_n 1, 1)), (35, (.iaload, 1)), (36, (.ifCond .eq 43, 3)), (39, (.aload_n 0, 1)), (40, (.getfield 7, 3)), (43, (.bipush 48, 2)), (45, (.iload_n 1, 1)), (46, (.iadd, 1)), (47, (.iaload, 1)), (48, (.aload_n 0, 1)), (49, (.iload_n 1, 1)), (50, (.invokevirtual 97, 3)), (53, (.bipush 20, 2)), (55, (.idiv, 1)), (56, (.if_icmp .gt 23, 3)), (59, (.aload_n 0, 1)), (60, (.getfield 7, 3)), (63, (.bipush 120, 2)), (65, (.iload_n 1, 1)), (66, (.iadd, 1)), (67, (.iaload, 1)), (68, (.iload_n 2, 1)), (69, (.ishr, 1)), (70, (.iconst 1, 1)), (71, (.iand, 1)), (72, (.ifCond .ne 7, 3)), (75, (.iconst 1, 1)), (76, (.goto 4, 3)), (79, (.iconst 0, 1)), (80, (.istore_n 3, 1)), (81, (.aload_n 0, 1)), (82, (.iload_n 3, 1)), (83, (.iconst 3, 1)), (84, (.invokevirtual 131, 3)), (87, (.ifCond .eq 5, 3)), (90, (.iconst 0, 1)), (91, (.ireturn, 1)), (92, (.aload_n 0, 1)), (93, (.getfield 7, 3)), (96, (.bipush 120, 2)), (98, (.iload_n 1, 1)), (99, (.iadd, 1)), (100, (.dup2, 1)), (101, (.iaload, 1)), (102, (.iconst 1, 1)), (103, (.iload_n 2, 1)), (104, (.ishl, 1)), (105, (.ior, 1)), (106, (.iastore, 1)), (107, (.aload_n 0, 1)), (108, (.iload_n 1, 1)), (109, (.invokevirtual 142, 3)), (112, (.iconst 1, 1)), (113, (.if_icmp .le 7, 3)), (116, (.iconst 1, 1)), (117, (.goto 4, 3)), (120, (.iconst 0, 1)), (121, (.ireturn, 1))]
theorem tX10_sign : pX10_sign.all (fun q => decide (decode cX10_sign q.1 = .ok q.2)) = true := by decide +kernel
def pX10_site : List (Nat × (Instr × Nat)) := [(0, (.aload_n 0, 1)), (1, (.iload_n 1, 1)), (2, (.iconst 0, 1)), (3, (.ldc 135, 2)), (5, (.invokestatic 66, 3)), (8, (.ifCond .eq 17, 3)), (11, (.iload_n 2, 1)), (12, (.iconst 0, 1)), (13, (.ldc 135, 2)), (15, (.invokestatic 66, 3)), (18, (.ifCond .eq 7, 3)), (21, (.iconst 1, 1)), (22, (.goto 4, 3)), (25, (.iconst 0, 1)), (26, (.iconst 1, 1)), (27, (.invokevirtual 131, 3)), (30, (.ifCond .eq 5, 3)), (33, (.iconst 0, 1)), (34, (.ireturn, 1)), (35, (.aload_n 0, 1)), (36, (.aload_n 0, 1)), (37, (.getfield 165, 3)), (40, (.iconst 3, 1)), (41, (.if_icmp .ge 7, 3)), (44, (.iconst 1, 1)), (45, (.goto 4, 3)), (48, (.iconst 0, 1)), (49, (.iconst 2, 1)), (50, (.invokevirtual 131, 3)), (53, (.ifCond .eq 5, 3)), (56, (.iconst 0, 1)), (57, (.ireturn, 1)), (58, (.aload_n 0, 1)), (59, (.getfield 56, 3)), (62, (.iconst 2, 1)), (63, (.aload_n 0, 1)), (64, (.getfield 165, 3)), (67, (.imul, 1)), (68, (.iload_n 1, 1)), (69, (.iastore, 1)), (70, (.aload_n 0, 1)), (71, (.getfield 56, 3)), (74, (.iconst 2, 1)), (75, (.aload_n 0, 1)), (76, (.getfield 165, 3)), (79, (.imul, 1)), (80, (.iconst 1, 1)), (81, (.iadd, 1)), (82, (.iload_n 2, 1)), (83, (.iastore, 1)), (84, (.aload_n 0, 1)), (85, (.dup, 1)), (86, (.getfield 165, 3)), (89, (.iconst 1, 1)), (90, (.iadd, 1)), (91, (.putfield 165, 3)), (94, (.aload_n 0, 1)), (95, (.getfield 165, 3)), (98, (.iconst 1, 1)), (99, (.isub, 1)), (100, (.ireturn, 1))]
theorem tX10_site : pX10_site.all (fun q => decide (decode cX10_site q.1 = .ok q.2)) = true := by decide +kernel
def pX10_deliver : List (Nat × (Instr × Nat)) := [(0, (.aload_n 0, 1)), (1, (.iload_n 1, 1)), (2, (.iconst 0, 1)), (3, (.aload_n 0, 1)), (4, (.getfield 165, 3)), (7, (.iconst 1, 1)), (8, (.isub, 1)), (9, (.invokestatic 66, 3)), (12, (.iconst 1, 1)), (13, (.invokevirtual 131, 3)), (16, (.ifCond .eq 5, 3)), (19, (.iconst 0, 1)), (20, (.ireturn, 1)), (21, (.aload_n 0, 1)), (22, (.iload_n 2, 1)), (23, (.iconst 0, 1)), (24, (.iconst 1, 1)), (25, (.invokestatic 66, 3)), (28, (.ifCond .eq 17, 3)), (31, (.iload_n 3, 1)), (32, (.iconst 1, 1)), (33, (.ldc 135, 2)), (35, (.invokestatic 66, 3)), (38, (.ifCond .eq 7, 3)), (41, (.iconst 1, 1)), (42, (.goto 4, 3)), (45, (.iconst 0, 1)), (46, (.iconst 2, 1)), (47, (.invokevirtual 131, 3)), (50, (.ifCond .eq 5, 3)), (53, (.iconst 0, 1)), (54, (.ireturn, 1)), (55, (.aload_n 0, 1)), (56, (.aload_n 0, 1)), (57, (.getfield 53, 3)), (60, (.iload_n 2, 1)), (61, (.iaload, 1)), (62, (.iload_n 3, 1)), (63, (.if_icmp .lt 21, 3)), (66, (.aload_n 0, 1)), (67, (.getfield 56, 3)), (70, (.iconst 2, 1)), (71, (.iload_n 1, 1)), (72, (.imul, 1)), (73, (.iload_n 2, 1)), (74, (.iadd, 1)), (75, (.iaload, 1)), (76, (.iload_n 3, 1)), (77, (.if_icmp .lt 7, 3)), (80, (.iconst 1, 1)), (81, (.goto 4, 3)), (84, (.iconst 0, 1)), (85, (.iconst 3, 1)), (86, (.invokevirtual 131, 3)), (89, (.ifCond .eq 5, 3)), (92, (.iconst 0, 1)), (93, (.ireturn, 1)), (94, (.aload_n 0, 1)), (95, (.getfield 53, 3)), (98, (.iload_n 2, 1)), (99, (.dup2, 1)), (100, (.iaload, 1)), (101, (.iload_n 3, 1)), (102, (.isub, 1)), (103, (.iastore, 1)), (104, (.aload_n 0, 1)), (105, (.dup, 1)), (106, (.getfield 168, 3)), (109, (.iload_n 3, 1)), (110, (.iadd, 1)), (111, (.putfield 168, 3)), (114, (.aload_n 0, 1)), (115, (.getfield 56, 3)), (118, (.iconst 2, 1)), (119, (.iload_n 1, 1)), (120, (.imul, 1)), (121, (.iload_n 2, 1)), (122, (.iadd, 1)), (123, (.dup2, 1)), (124, (.iaload, 1)), (125, (.iload_n 3, 1)), (126, (.isub, 1)), (127, (.iastore, 1)), (128, (.aload_n 0, 1)), (129, (.getfield 56, 3)), (132, (.iconst 2, 1)), (133, (.iload_n 1, 1)), (134, (.imul, 1)), (135, (.iload_n 2, 1)), (136, (.iadd, 1)), (137, (.iaload, 1)), (138, (.ireturn, 1))]
theorem tX10_deliver : pX10_deliver.all (fun q => decide (decode cX10_deliver q.1 = .ok q.2)) = true := by decide +kernel
def pX10_waste : List (Nat × (Instr × Nat)) := [(0, (.aload_n 0, 1)), (1, (.iload_n 1, 1)), (2, (.iconst 0, 1)), (3, (.iconst 1, 1)), (4, (.invokestatic 66, 3)), (7, (.iconst 1, 1)), (8, (.invokevirtual 131, 3)), (11, (.ifCond .eq 5, 3)), (14, (.iconst 0, 1)), (15, (.ireturn, 1)), (16, (.aload_n 0, 1)), (17, (.getfield 53, 3)), (20, (.iload_n 1, 1)), (21, (.iaload, 1)), (22, (.ireturn, 1))]
theorem tX10_waste : pX10_waste.all (fun q => decide (decode cX10_waste q.1 = .ok q.2)) = true := by decide +kernel
def pX10_claim : List (Nat × (Instr × Nat)) := [(0, (.aload_n 0, 1)), (1, (.iload_n 1, 1)), (2, (.iconst 1, 1)), (3, (.ldc 171, 2)), (5, (.invokestatic 66, 3)), (8, (.iconst 1, 1)), (9, (.invokevirtual 131, 3)), (12, (.ifCond .eq 5, 3)), (15, (.iconst 0, 1)), (16, (.ireturn, 1)), (17, (.aload_n 0, 1)), (18, (.aload_n 0, 1)), (19, (.getfield 172, 3)), (22, (.bipush 20, 2)), (24, (.if_icmp .ge 7, 3)), (27, (.iconst 1, 1)), (28, (.goto 4, 3)), (31, (.iconst 0, 1)), (32, (.iconst 2, 1)), (33, (.invokevirtual 131, 3)), (36, (.ifCond .eq 5, 3)), (39, (.iconst 0, 1)), (40, (.ireturn, 1)), (41, (.aload_n 0, 1)), (42, (.getfield 59, 3)), (45, (.aload_n 0, 1)), (46, (.getfield 172, 3)), (49, (.iload_n 1, 1)), (50, (.iastore, 1)), (51, (.aload_n 0, 1)), (52, (.dup, 1)), (53, (.getfield 172, 3)), (56, (.iconst 1, 1)), (57, (.iadd, 1)), (58, (.putfield 172, 3)), (61, (.aload_n 0, 1)), (62, (.getfield 172, 3)), (65, (.iconst 1, 1)), (66, (.isub, 1)), (67, (.ireturn, 1))]
theorem tX10_claim : pX10_claim.all (fun q => decide (decode cX10_claim q.1 = .ok q.2)) = true := by decide +kernel
def pX10_layers : List (Nat × (Instr × Nat)) := [(0, (.aload_n 0, 1)), (1, (.iload_n 1, 1)), (2, (.iconst 0, 1)), (3, (.ldc 175, 2)), (5, (.invokestatic 66, 3)), (8, (.ifCond .eq 17, 3)), (11, (.iload_n 2, 1)), (12, (.iconst 0, 1)), (13, (.ldc 175, 2)), (15, (.invokestatic 66, 3)), (18, (.ifCond .eq 7, 3)), (21, (.iconst 1, 1)), (22, (.goto 4, 3)), (25, (.iconst 0, 1)), (26, (.iconst 1, 1)), (27, (.invokevirtual 131, 3)), (30, (.ifCond .eq 5, 3)), (33, (.iconst 0, 1)), (34, (.ireturn, 1)), (35, (.aload_n 0, 1)), (36, (.getfield 176, 3)), (39, (.aload_n 0, 1)), (40, (.getfield 179, 3)), (43, (.iadd, 1)), (44, (.istore_n 3, 1)), (45, (.aload_n 0, 1)), (46, (.iload_n 1, 1)), (47, (.putfield 176, 3)), (50, (.aload_n 0, 1)), (51, (.iload_n 2, 1)), (52, (.putfield 179, 3)), (55, (.iload_n 3, 1)), (56, (.ireturn, 1))]
theorem tX10_layers : pX10_layers.all (fun q => decide (decode cX10_layers q.1 = .ok q.2)) = true := by decide +kernel
def pX10_due : List (Nat × (Instr × Nat)) := [(0, (.aload_n 0, 1)), (1, (.iload_n 1, 1)), (2, (.iconst 0, 1)), (3, (.aload_n 0, 1)), (4, (.getfield 172, 3)), (7, (.iconst 1, 1)), (8, (.isub, 1)), (9, (.invokestatic 66, 3)), (12, (.iconst 1, 1)), (13, (.invokevirtual 131, 3)), (16, (.ifCond .eq 5, 3)), (19, (.iconst 0, 1)), (20, (.ireturn, 1)), (21, (.aload_n 0, 1)), (22, (.iload_n 2, 1)), (23, (.iconst 0, 1)), (24, (.iconst 1, 1)), (25, (.invokestatic 66, 3)), (28, (.iconst 2, 1)), (29, (.invokevirtual 131, 3)), (32, (.ifCond .eq 5, 3)), (35, (.iconst 0, 1)), (36, (.ireturn, 1)), (37, (.iconst 0, 1)), (38, (.istore_n 3, 1)), (39, (.iconst 0, 1)), (40, (.istore 4, 2)), (42, (.iload 4, 2)), (44, (.aload_n 0, 1)), (45, (.getfield 172, 3)), (48, (.if_icmp .ge 19, 3)), (51, (.iload_n 3, 1)), (52, (.aload_n 0, 1)), (53, (.getfield 59, 3)), (56, (.iload 4, 2)), (58, (.iaload, 1)), (59, (.iadd, 1)), (60, (.istore_n 3, 1)), (61, (.iinc 4 1, 3)), (64, (.goto (-22), 3)), (67, (.aload_n 0, 1)), (68, (.getfield 176, 3)), (71, (.aload_n 0, 1)), (72, (.getfield 179, 3)), (75, (.iadd, 1)), (76, (.iload_n 3, 1)), (77, (.invokestatic 88, 3)), (80, (.istore 4, 2)), (82, (.aload_n 0, 1)), (83, (.getfield 59, 3)), (86, (.iload_n 1, 1)), (87, (.iaload, 1)), (88, (.i2l, 1)), (89, (.iload 4, 2)), (91, (.i2l, 1)), (92, (.lmul, 1)), (93, (.iload_n 3, 1)), (94, (.i2l, 1)), (95, (.ldiv, 1)), (96, (.l2i, 1)), (97, (.istore 5, 2)), (99, (.iload 4, 2)), (101, (.ifCond .ne 7, 3)), (104, (.iconst 0, 1)), (105, (.goto 22, 3)), (108, (.iload 5, 2)), (110, (.i2l, 1)), (111, (.aload_n 0, 1)), (112, (.getfield 176, 3)), (115, (.iload 4, 2)), (117, (.invokestatic 88, 3)), (120, (.i2l, 1)), (121, (.lmul, 1)), (122, (.iload 4, 2)), (124, (.i2l, 1)), (125, (.ldiv, 1)), (126, (.l2i, 1)), (127, (.istore 6, 2)), (129, (.iload_n 2, 1)), (130, (.ifCond .ne 8, 3)), (133, (.iload 6, 2)), (135, (.goto 8, 3)), (138, (.iload 5, 2)), (140, (.iload 6, 2)), (142, (.isub, 1)), (143, (.ireturn, 1))]
theorem tX10_due : pX10_due.all (fun q => decide (decode cX10_due q.1 = .ok q.2)) = true := by decide +kernel
def pX10_ahead : List (Nat × (Instr × Nat)) := [(0, (.aload_n 0, 1)), (1, (.iload_n 1, 1)), (2, (.invokestatic 76, 3)), (5, (.iconst 1, 1)), (6, (.invokevirtual 131, 3)), (9, (.ifCond .eq 5, 3)), (12, (.iconst 0, 1)), (13, (.ireturn, 1)), (14, (.aload_n 0, 1)), (15, (.iload_n 2, 1)), (16, (.iconst 1, 1)), (17, (.bipush 48, 2)), (19, (.invokestatic 66, 3)), (22, (.iconst 2, 1)), (23, (.invokevirtual 131, 3)), (26, (.ifCond .eq 5, 3)), (29, (.iconst 0, 1)), (30, (.ireturn, 1)), (31, (.iconst 0, 1)), (32, (.istore_n 3, 1)), (33, (.iload_n 3, 1)), (34, (.sipush 174, 3)), (37, (.if_icmp .ge 21, 3)), (40, (.aload_n 0, 1)), (41, (.getfield 13, 3)), (44, (.iload_n 3, 1)), (45, (.aload_n 0, 1)), (46, (.getfield 7, 3)), (49, (.iload_n 3, 1)), (50, (.iaload, 1)), (51, (.iastore, 1)), (52, (.iinc 3 1, 3)), (55, (.goto (-22), 3)), (58, (.iconst 0, 1)), (59, (.istore_n 3, 1)), (60, (.iload_n 3, 1)), (61, (.iload_n 2, 1)), (62, (.if_icmp .ge 13, 3)), (65, (.aload_n 0, 1)), (66, (.invokevirtual 139, 3)), (69, (.iinc 3 1, 3)), (72, (.goto (-12), 3)), (75, (.aload_n 0, 1)), (76, (.getfield 7, 3)), (79, (.iconst 0, 1)), (80, (.iload_n 1, 1)), (81, (.iadd, 1)), (82, (.iaload, 1)), (83, (.aload_n 0, 1)), (84, (.getfield 7, 3)), (87, (.bipush 24, 2)), (89, (.iload_n 1, 1)), (90, (.iadd, 1)), (91, (.iaload, 1)), (92, (.iadd, 1)), (93, (.aload_n 0, 1)), (94, (.getfield 7, 3)), (97, (.bipush 48, 2)), (99, (.iload_n 1, 1)), (100, (.iadd, 1)), (101, (.iaload, 1)), (102, (.iadd, 1)), (103, (.istore_n 3, 1)), (104, (.iconst 0, 1)), (105, (.istore 4, 2)), (107, (.iload 4, 2)), (109, (.sipush 174, 3)), (112, (.if_icmp .ge 23, 3)), (115, (.aload_n 0, 1)), (116, (.getfield 7, 3)), (119, (.iload 4, 2)), (121, (.aload_n 0, 1)), (122, (.getfield 13, 3)), (125, (.iload 4, 2)), (127, (.iaload, 1)), (128, (.iastore, 1)), (129, (.iinc 4 1, 3)), (132, (.goto (-25), 3)), (135, (.iload_n 3, 1)), (136, (.ireturn, 1))]
theorem tX10_ahead : pX10_ahead.all (fun q => decide (decode cX10_ahead q.1 = .ok q.2)) = true := by decide +kernel
def pX10_floats : List (Nat × (Instr × Nat)) := [(0, (.aload_n 0, 1)), (1, (.getfield 7, 3)), (4, (.iconst 0, 1)), (5, (.iload_n 1, 1)), (6, (.iadd, 1)), (7, (.iaload, 1)), (8, (.istore_n 3, 1)), (9, (.iconst 0, 1)), (10, (.istore 4, 2)), (12, (.iload 4, 2)), (14, (.aload_n 0, 1)), (15, (.getfield 70, 3)), (18, (.if_icmp .ge 43, 3)), (21, (.iload_n 3, 1)), (22, (.aload_n 0, 1)), (23, (.getfield 25, 3)), (26, (.iload 4, 2)), (28, (.iaload, 1)), (29, (.iload_n 1, 1)), (30, (.if_icmp .ne 22, 3)), (33, (.aload_n 0, 1)), (34, (.iload 4, 2)), (36, (.aload_n 0, 1)), (37, (.getfield 7, 3)), (40, (.sipush 168, 3)), (43, (.iaload, 1)), (44, (.iconst 1, 1)), (45, (.iadd, 1)), (46, (.invokevirtual 106, 3)), (49, (.goto 4, 3)), (52, (.iconst 0, 1)), (53, (.iadd, 1)), (54, (.istore_n 3, 1)), (55, (.iinc 4 1, 3)), (58, (.goto (-46), 3)), (61, (.iload_n 3, 1)), (62, (.iload_n 3, 1)), (63, (.bipush 20, 2)), (65, (.idiv, 1)), (66, (.isub, 1)), (67, (.istore_n 3, 1)), (68, (.aload_n 0, 1)), (69, (.getfield 7, 3)), (72, (.bipush 24, 2)), (74, (.iload_n 1, 1)), (75, (.iadd, 1)), (76, (.iaload, 1)), (77, (.iload_n 3, 1)), (78, (.bipush 10, 2)), (80, (.idiv, 1)), (81, (.iadd, 1)), (82, (.istore 4, 2)), (84, (.iload_n 2, 1)), (85, (.ifCond .eq 14, 3)), (88, (.iload 4, 2)), (90, (.iload 4, 2)), (92, (.bipush 50, 2)), (94, (.idiv, 1)), (95, (.isub, 1)), (96, (.goto 9, 3)), (99, (.iload_n 3, 1)), (100, (.iload_n 3, 1)), (101, (.bipush 10, 2)), (103, (.idiv, 1)), (104, (.isub, 1)), (105, (.ireturn, 1))]
theorem tX10_floats : pX10_floats.all (fun q => decide (decode cX10_floats q.1 = .ok q.2)) = true := by decide +kernel
def pX10_goes : List (Nat × (Instr × Nat)) := [(0, (.iload_n 1, 1)), (1, (.iconst (-1), 1)), (2, (.if_icmp .eq 12, 3)), (5, (.aload_n 0, 1)), (6, (.getfield 16, 3)), (9, (.iload_n 1, 1)), (10, (.iaload, 1)), (11, (.ifCond .eq 5, 3)), (14, (.iconst 0, 1)), (15, (.ireturn, 1)), (16, (.aload_n 0, 1)), (17, (.iload_n 1, 1)), (18, (.iconst 0, 1)), (19, (.invokevirtual 182, 3)), (22, (.aload_n 0, 1)), (23, (.getfield 94, 3)), (26, (.imul, 1)), (27, (.bipush 10, 2)), (29, (.idiv, 1)), (30, (.istore_n 3, 1)), (31, (.aload_n 0, 1)), (32, (.iload_n 1, 1)), (33, (.iconst 1, 1)), (34, (.invokevirtual 182, 3)), (37, (.aload_n 0, 1)), (38, (.getfield 94, 3)), (41, (.imul, 1)), (42, (.bipush 10, 2)), (44, (.idiv, 1)), (45, (.istore 4, 2)), (47, (.iload_n 1, 1)), (48, (.aload_n 0, 1)), (49, (.getfield 91, 3)), (52, (.invokestatic 80, 3)), (55, (.istore 5, 2)), (57, (.iload 5, 2)), (59, (.iconst (-1), 1)), (60, (.if_icmp .eq 13, 3)), (63, (.aload_n 0, 1)), (64, (.getfield 16, 3)), (67, (.iload 5, 2)), (69, (.iaload, 1)), (70, (.ifCond .ne 10, 3)), (73, (.iload_n 3, 1)), (74, (.iload 4, 2)), (76, (.iadd, 1)), (77, (.goto 20, 3)), (80, (.aload_n 0, 1)), (81, (.iload 5, 2)), (83, (.invokevirtual 97, 3)), (86, (.aload_n 0, 1)), (87, (.getfield 7, 3)), (90, (.bipush 48, 2)), (92, (.iload 5, 2)), (94, (.iadd, 1)), (95, (.iaload, 1)), (96, (.isub, 1)), (97, (.istore 6, 2)), (99, (.iload_n 3, 1)), (100, (.iload 6, 2)), (102, (.invokestatic 88, 3)), (105, (.istore_n 3, 1)), (106, (.iload 4, 2)), (108, (.iload 6, 2)), (110, (.iload_n 3, 1)), (111, (.isub, 1)), (112, (.invokestatic 88, 3)), (115, (.istore 4, 2)), (117, (.aload_n 0, 1)), (118, (.iload_n 1, 1)), (119, (.aload_n 0, 1)), (120, (.getfield 91, 3)), (123, (.invokestatic 100, 3)), (126, (.invokevirtual 103, 3)), (129, (.istore 7, 2)), (131, (.iload 7, 2)), (133, (.iconst (-1), 1)), (134, (.if_icmp .eq 21, 3)), (137, (.aload_n 0, 1)), (138, (.getfield 40, 3)), (141, (.iload 7, 2)), (143, (.iaload, 1)), (144, (.aload_n 0, 1)), (145, (.getfield 94, 3)), (148, (.if_icmp .lt 7, 3)), (151, (.iconst 0, 1)), (152, (.goto 13, 3)), (155, (.iload_n 2, 1)), (156, (.ifCond .eq 8, 3)), (159, (.iload 4, 2)), (161, (.goto 4, 3)), (164, (.iload_n 3, 1)), (165, (.ireturn, 1))]
theorem tX10_goes : pX10_goes.all (fun q => decide (decode cX10_goes q.1 = .ok q.2)) = true := by decide +kernel
def pX10_strands : List (Nat × (Instr × Nat)) := [(0, (.iload_n 1, 1)), (1, (.aload_n 0, 1)), (2, (.getfield 91, 3)), (5, (.iconst 1, 1)), (6, (.ixor, 1)), (7, (.invokestatic 80, 3)), (10, (.istore_n 2, 1)), (11, (.aload_n 0, 1)), (12, (.getfield 7, 3)), (15, (.bipush 48, 2)), (17, (.iload_n 1, 1)), (18, (.iadd, 1)), (19, (.iaload, 1)), (20, (.aload_n 0, 1)), (21, (.iload_n 2, 1)), (22, (.iconst 0, 1)), (23, (.invokevirtual 186, 3)), (26, (.iadd, 1)), (27, (.aload_n 0, 1)), (28, (.iload_n 2, 1)), (29, (.iconst 1, 1)), (30, (.invokevirtual 186, 3)), (33, (.iadd, 1)), (34, (.ireturn, 1))]
theorem tX10_strands : pX10_strands.all (fun q => decide (decode cX10_strands q.1 = .ok q.2)) = true := by decide +kernel
def pX10_nextAnew_0 : List (Nat × (Instr × Nat)) := [(0, (.aload_n 0, 1)), (1, (.iload_n 1, 1)), (2, (.invokestatic 76, 3)), (5, (.iconst 1, 1)), (6, (.invokevirtual 131, 3)), (9, (.ifCond .eq 5, 3)), (12, (.iconst 0, 1)), (13, (.ireturn, 1)), (14, (.aload_n 0, 1)), (15, (.getfield 7, 3)), (18, (.sipush 168, 3)), (21, (.iaload, 1)), (22, (.iconst 1, 1)), (23, (.iadd, 1)), (24, (.invokestatic 84, 3)), (27, (.bipush 6, 2)), (29, (.if_icmp .ne 7, 3)), (32, (.iconst 1, 1)), (33, (.goto 4, 3)), (36, (.iconst 0, 1)), (37, (.istore_n 2, 1)), (38, (.aload_n 0, 1)), (39, (.getfield 16, 3)), (42, (.iload_n 1, 1)), (43, (.iaload, 1)), (44, (.ifCond .eq 35, 3)), (47, (.aload_n 0, 1)), (48, (.iload_n 1, 1)), (49, (.invokevirtual 189, 3)), (52, (.istore_n 3, 1)), (53, (.iload_n 2, 1)), (54, (.ifCond .eq 23, 3)), (57, (.aload_n 0, 1)), (58, (.iload_n 1, 1)), (59, (.invokevirtual 119, 3)), (62, (.iconst (-1), 1)), (63, (.if_icmp .eq 14, 3)), (66, (.iload_n 3, 1)), (67, (.aload_n 0, 1)), (68, (.iload_n 1, 1)), (69, (.iload_n 3, 1)), (70, (.invokevirtual 122, 3)), (73, (.isub, 1)), (74, (.goto 4, 3)), (77, (.iload_n 3, 1)), (78, (.ireturn, 1)), (79, (.iload_n 1, 1)), (80, (.aload_n 0, 1)), (81, (.getfield 91, 3)), (84, (.iconst 1, 1)), (85, (.ixor, 1)), (86, (.invokestatic 80, 3)), (89, (.istore_n 3, 1)), (90, (.aload_n 0, 1)), (91, (.iload_n 1, 1)), (92, (.iconst 0, 1)), (93, (.invokevirtual 182, 3)), (96, (.aload_n 0, 1)), (97, (.iload_n 1, 1)), (98, (.iconst 0, 1)), (99, (.invokevirtual 186, 3)), (102, (.isub, 1)), (103, (.aload_n 0, 1)), (104, (.iload_n 3, 1)), (105, (.iconst 0, 1)), (106, (.invokevirtual 186, 3)), (109, (.iadd, 1)), (110, (.istore 4, 2)), (112, (.aload_n 0, 1)), (113, (.iload_n 1, 1)), (114, (.iconst 1, 1)), (115, (.invokevirtual 182, 3)), (118, (.aload_n 0, 1)), (119, (.iload_n 1, 1)), (120, (.iconst 1, 1)), (121, (.invokevirtual 186, 3)), (124, (.isub, 1)), (125, (.aload_n 0, 1)), (126, (.iload_n 3, 1)), (127, (.iconst 1, 1)), (128, (.invokevirtual 186, 3)), (131, (.iadd, 1)), (132, (.istore 5, 2)), (134, (.iconst 0, 1)), (135, (.istore 6, 2)), (137, (.iload 6, 2)), (139, (.iconst 4, 1)), (140, (.if_icmp .ge 80, 3)), (143, (.iload_n 2, 1)), (144, (.ifCond .eq 76, 3)), (147, (.iload_n 1, 1)), (148, (.iload 6, 2)), (150, (.invokestatic 80, 3)), (153, (.istore 7, 2)), (155, (.iload 7, 2)), (157, (.iconst (-1), 1)), (158, (.if_icmp .eq 27, 3)), (161, (.aload_n 0, 1)), (162, (.getfield 16, 3)), (165, (.iload 7, 2))]
theorem tX10_nextAnew_0 : pX10_nextAnew_0.all (fun q => decide (decode cX10_nextAnew q.1 = .ok q.2)) = true := by decide +kernel
def pX10_nextAnew_1 : List (Nat × (Instr × Nat)) := [(167, (.iaload, 1)), (168, (.ifCond .eq 17, 3)), (171, (.aload_n 0, 1)), (172, (.iload 7, 2)), (174, (.invokevirtual 119, 3)), (177, (.iload_n 1, 1)), (178, (.if_icmp .ne 7, 3)), (181, (.iconst 1, 1)), (182, (.goto 4, 3)), (185, (.iconst 0, 1)), (186, (.istore 8, 2)), (188, (.iload 5, 2)), (190, (.iload 8, 2)), (192, (.ifCond .eq 18, 3)), (195, (.aload_n 0, 1)), (196, (.iload 7, 2)), (198, (.aload_n 0, 1)), (199, (.iload 7, 2)), (201, (.invokevirtual 189, 3)), (204, (.invokevirtual 122, 3)), (207, (.goto 4, 3)), (210, (.iconst 0, 1)), (211, (.iadd, 1)), (212, (.istore 5, 2)), (214, (.iinc 6 1, 3)), (217, (.goto (-80), 3)), (220, (.iconst 0, 1)), (221, (.istore 6, 2)), (223, (.iload 6, 2)), (225, (.aload_n 0, 1)), (226, (.getfield 73, 3)), (229, (.if_icmp .ge 112, 3)), (232, (.aload_n 0, 1)), (233, (.getfield 31, 3)), (236, (.iload 6, 2)), (238, (.iaload, 1)), (239, (.iconst 1, 1)), (240, (.if_icmp .ne 95, 3)), (243, (.aload_n 0, 1)), (244, (.getfield 34, 3)), (247, (.iload 6, 2)), (249, (.iaload, 1)), (250, (.iload_n 1, 1)), (251, (.if_icmp .ne 84, 3)), (254, (.aload_n 0, 1)), (255, (.getfield 43, 3)), (258, (.iload 6, 2)), (260, (.iaload, 1)), (261, (.aload_n 0, 1)), (262, (.getfield 7, 3)), (265, (.sipush 148, 3)), (268, (.iload 6, 2)), (270, (.iadd, 1)), (271, (.iaload, 1)), (272, (.isub, 1)), (273, (.istore 7, 2)), (275, (.aload_n 0, 1)), (276, (.getfield 40, 3)), (279, (.iload 6, 2)), (281, (.iaload, 1)), (282, (.iload 4, 2)), (284, (.invokestatic 88, 3)), (287, (.iload 7, 2)), (289, (.invokestatic 88, 3)), (292, (.istore 8, 2)), (294, (.aload_n 0, 1)), (295, (.getfield 40, 3)), (298, (.iload 6, 2)), (300, (.iaload, 1)), (301, (.iload 8, 2)), (303, (.isub, 1)), (304, (.iconst 2, 1)), (305, (.idiv, 1)), (306, (.iload 5, 2)), (308, (.invokestatic 88, 3)), (311, (.iload 7, 2)), (313, (.iload 8, 2)), (315, (.isub, 1)), (316, (.invokestatic 88, 3)), (319, (.istore 9, 2)), (321, (.iload 4, 2)), (323, (.iload 8, 2)), (325, (.isub, 1)), (326, (.istore 4, 2)), (328, (.iload 5, 2)), (330, (.iload 9, 2)), (332, (.isub, 1)), (333, (.istore 5, 2)), (335, (.iinc 6 1, 3)), (338, (.goto (-115), 3)), (341, (.iload 4, 2)), (343, (.iload 5, 2)), (345, (.iadd, 1)), (346, (.ireturn, 1))]
theorem tX10_nextAnew_1 : pX10_nextAnew_1.all (fun q => decide (decode cX10_nextAnew q.1 = .ok q.2)) = true := by decide +kernel
def pX10_over : List (Nat × (Instr × Nat)) := [(0, (.iconst 0, 1)), (1, (.istore_n 3, 1)), (2, (.iload_n 1, 1)), (3, (.istore 4, 2)), (5, (.iload 4, 2)), (7, (.iload_n 1, 1)), (8, (.iload_n 2, 1)), (9, (.iadd, 1)), (10, (.if_icmp .ge 19, 3)), (13, (.iload_n 3, 1)), (14, (.aload_n 0, 1)), (15, (.getfield 7, 3)), (18, (.iload 4, 2)), (20, (.iaload, 1)), (21, (.iadd, 1)), (22, (.istore_n 3, 1)), (23, (.iinc 4 1, 3)), (26, (.goto (-21), 3)), (29, (.iload_n 3, 1)), (30, (.ireturn, 1))]
theorem tX10_over : pX10_over.all (fun q => decide (decode cX10_over q.1 = .ok q.2)) = true := by decide +kernel
def pX10_sum_0 : List (Nat × (Instr × Nat)) := [(0, (.aload_n 0, 1)), (1, (.iload_n 1, 1)), (2, (.iconst 0, 1)), (3, (.bipush 11, 2)), (5, (.invokestatic 66, 3)), (8, (.iconst 1, 1)), (9, (.invokevirtual 131, 3)), (12, (.ifCond .eq 5, 3)), (15, (.iconst 0, 1)), (16, (.ireturn, 1)), (17, (.iload_n 1, 1)), (18, (.iconst 4, 1)), (19, (.if_icmp .ge 58, 3)), (22, (.iload_n 1, 1)), (23, (.ifCond .ne 14, 3)), (26, (.aload_n 0, 1)), (27, (.getfield 7, 3)), (30, (.sipush 168, 3)), (33, (.iaload, 1)), (34, (.goto 42, 3)), (37, (.iload_n 1, 1)), (38, (.iconst 1, 1)), (39, (.if_icmp .ne 14, 3)), (42, (.aload_n 0, 1)), (43, (.getfield 7, 3)), (46, (.sipush 169, 3)), (49, (.iaload, 1)), (50, (.goto 26, 3)), (53, (.iload_n 1, 1)), (54, (.iconst 2, 1)), (55, (.if_icmp .ne 14, 3)), (58, (.aload_n 0, 1)), (59, (.sipush 144, 3)), (62, (.iconst 4, 1)), (63, (.invokevirtual 192, 3)), (66, (.goto 10, 3)), (69, (.aload_n 0, 1)), (70, (.iconst 0, 1)), (71, (.bipush 48, 2)), (73, (.invokevirtual 192, 3)), (76, (.ireturn, 1)), (77, (.iload_n 1, 1)), (78, (.bipush 8, 2)), (80, (.if_icmp .ge 61, 3)), (83, (.iload_n 1, 1)), (84, (.iconst 4, 1)), (85, (.if_icmp .ne 14, 3)), (88, (.aload_n 0, 1)), (89, (.getfield 7, 3)), (92, (.sipush 171, 3)), (95, (.iaload, 1)), (96, (.goto 44, 3)), (99, (.iload_n 1, 1)), (100, (.iconst 5, 1)), (101, (.if_icmp .ne 14, 3)), (104, (.aload_n 0, 1)), (105, (.getfield 7, 3)), (108, (.sipush 172, 3)), (111, (.iaload, 1)), (112, (.goto 28, 3)), (115, (.iload_n 1, 1)), (116, (.bipush 6, 2)), (118, (.if_icmp .ne 14, 3)), (121, (.aload_n 0, 1)), (122, (.getfield 7, 3)), (125, (.sipush 173, 3)), (128, (.iaload, 1)), (129, (.goto 11, 3)), (132, (.aload_n 0, 1)), (133, (.bipush 48, 2)), (135, (.bipush 24, 2)), (137, (.invokevirtual 192, 3)), (140, (.ireturn, 1)), (141, (.iconst 0, 1)), (142, (.istore_n 2, 1)), (143, (.iconst 0, 1)), (144, (.istore_n 3, 1)), (145, (.iload_n 3, 1)), (146, (.aload_n 0, 1)), (147, (.getfield 73, 3)), (150, (.if_icmp .ge 42, 3)), (153, (.iload_n 1, 1)), (154, (.bipush 8, 2)), (156, (.if_icmp .ne 36, 3)), (159, (.iload_n 2, 1)), (160, (.aload_n 0, 1)), (161, (.getfield 31, 3)), (164, (.iload_n 3, 1)), (165, (.iaload, 1)), (166, (.iconst 1, 1)), (167, (.if_icmp .ne 16, 3)), (170, (.aload_n 0, 1)), (171, (.getfield 7, 3)), (174, (.sipush 148, 3)), (177, (.iload_n 3, 1)), (178, (.iadd, 1)), (179, (.iaload, 1)), (180, (.goto 4, 3)), (183, (.iconst 0, 1)), (184, (.iadd, 1))]
theorem tX10_sum_0 : pX10_sum_0.all (fun q => decide (decode cX10_sum q.1 = .ok q.2)) = true := by decide +kernel
def pX10_sum_1 : List (Nat × (Instr × Nat)) := [(185, (.istore_n 2, 1)), (186, (.iinc 3 1, 3)), (189, (.goto (-44), 3)), (192, (.iload_n 1, 1)), (193, (.bipush 8, 2)), (195, (.if_icmp .ne 7, 3)), (198, (.iload_n 2, 1)), (199, (.goto 47, 3)), (202, (.iload_n 1, 1)), (203, (.bipush 9, 2)), (205, (.if_icmp .ne 10, 3)), (208, (.aload_n 0, 1)), (209, (.getfield 159, 3)), (212, (.goto 34, 3)), (215, (.iload_n 1, 1)), (216, (.bipush 10, 2)), (218, (.if_icmp .ne 10, 3)), (221, (.aload_n 0, 1)), (222, (.getfield 162, 3)), (225, (.goto 21, 3)), (228, (.aload_n 0, 1)), (229, (.getfield 53, 3)), (232, (.iconst 0, 1)), (233, (.iaload, 1)), (234, (.aload_n 0, 1)), (235, (.getfield 53, 3)), (238, (.iconst 1, 1)), (239, (.iaload, 1)), (240, (.iadd, 1)), (241, (.aload_n 0, 1)), (242, (.getfield 168, 3)), (245, (.iadd, 1)), (246, (.ireturn, 1))]
theorem tX10_sum_1 : pX10_sum_1.all (fun q => decide (decode cX10_sum q.1 = .ok q.2)) = true := by decide +kernel
def pJ6_bitCount_0f7a4 : List (Nat × (Instr × Nat)) := [(0, (.iload_n 0, 1)), (1, (.iload_n 0, 1)), (2, (.iconst 1, 1)), (3, (.iushr, 1)), (4, (.ldc_w 265, 3)), (7, (.iand, 1)), (8, (.isub, 1)), (9, (.istore_n 0, 1)), (10, (.iload_n 0, 1)), (11, (.ldc_w 266, 3)), (14, (.iand, 1)), (15, (.iload_n 0, 1)), (16, (.iconst 2, 1)), (17, (.iushr, 1)), (18, (.ldc_w 266, 3)), (21, (.iand, 1)), (22, (.iadd, 1)), (23, (.istore_n 0, 1)), (24, (.iload_n 0, 1)), (25, (.iload_n 0, 1)), (26, (.iconst 4, 1)), (27, (.iushr, 1)), (28, (.iadd, 1)), (29, (.ldc_w 267, 3)), (32, (.iand, 1)), (33, (.istore_n 0, 1)), (34, (.iload_n 0, 1)), (35, (.iload_n 0, 1)), (36, (.bipush 8, 2)), (38, (.iushr, 1)), (39, (.iadd, 1)), (40, (.istore_n 0, 1)), (41, (.iload_n 0, 1)), (42, (.iload_n 0, 1)), (43, (.bipush 16, 2)), (45, (.iushr, 1)), (46, (.iadd, 1)), (47, (.istore_n 0, 1)), (48, (.iload_n 0, 1)), (49, (.bipush 63, 2)), (51, (.iand, 1)), (52, (.ireturn, 1))]
theorem tJ6_bitCount_0f7a4 : pJ6_bitCount_0f7a4.all (fun q => decide (decode cJ6_bitCount_0f7a4 q.1 = .ok q.2)) = true := by decide +kernel
def pJ7_fill_53178 : List (Nat × (Instr × Nat)) := [(0, (.iconst 0, 1)), (1, (.istore_n 2, 1)), (2, (.aload_n 0, 1)), (3, (.arraylength, 1)), (4, (.istore_n 3, 1)), (5, (.iload_n 2, 1)), (6, (.iload_n 3, 1)), (7, (.if_icmp .ge 13, 3)), (10, (.aload_n 0, 1)), (11, (.iload_n 2, 1)), (12, (.iload_n 1, 1)), (13, (.iastore, 1)), (14, (.iinc 2 1, 3)), (17, (.goto (-12), 3)), (20, (.return_, 1))]
theorem tJ7_fill_53178 : pJ7_fill_53178.all (fun q => decide (decode cJ7_fill_53178 q.1 = .ok q.2)) = true := by decide +kernel
def pL_shore : List (Nat × (Instr × Nat)) := [(0, (.aload_n 3, 1)), (1, (.iconst 0, 1)), (2, (.aload_n 0, 1)), (3, (.iload_n 1, 1)), (4, (.iload_n 2, 1)), (5, (.invokevirtual 7, 3)), (8, (.i2l, 1)), (9, (.lastore, 1)), (10, (.goto 15, 3)), (13, (.astore 4, 2)), (15, (.iconst 1, 1)), (16, (.ireturn, 1)), (17, (.astore 4, 2)), (19, (.iconst 2, 1)), (20, (.ireturn, 1)), (21, (.astore 4, 2)), (23, (.iconst 3, 1)), (24, (.ireturn, 1)), (25, (.iconst 0, 1)), (26, (.ireturn, 1))]
theorem tL_shore : pL_shore.all (fun q => decide (decode cL_shore q.1 = .ok q.2)) = true := by decide +kernel
def pL_depth : List (Nat × (Instr × Nat)) := [(0, (.aload_n 3, 1)), (1, (.iconst 0, 1)), (2, (.aload_n 0, 1)), (3, (.iload_n 1, 1)), (4, (.iload_n 2, 1)), (5, (.invokevirtual 19, 3)), (8, (.i2l, 1)), (9, (.lastore, 1)), (10, (.goto 15, 3)), (13, (.astore 4, 2)), (15, (.iconst 1, 1)), (16, (.ireturn, 1)), (17, (.astore 4, 2)), (19, (.iconst 2, 1)), (20, (.ireturn, 1)), (21, (.astore 4, 2)), (23, (.iconst 3, 1)), (24, (.ireturn, 1)), (25, (.iconst 0, 1)), (26, (.ireturn, 1))]
theorem tL_depth : pL_depth.all (fun q => decide (decode cL_depth q.1 = .ok q.2)) = true := by decide +kernel
def pL_wind : List (Nat × (Instr × Nat)) := [(0, (.aload_n 3, 1)), (1, (.iconst 0, 1)), (2, (.aload_n 0, 1)), (3, (.iload_n 1, 1)), (4, (.iload_n 2, 1)), (5, (.invokevirtual 22, 3)), (8, (.i2l, 1)), (9, (.lastore, 1)), (10, (.goto 7, 3)), (13, (.astore 4, 2)), (15, (.iconst 1, 1)), (16, (.ireturn, 1)), (17, (.iconst 0, 1)), (18, (.ireturn, 1))]
theorem tL_wind : pL_wind.all (fun q => decide (decode cL_wind q.1 = .ok q.2)) = true := by decide +kernel
def pL_ship : List (Nat × (Instr × Nat)) := [(0, (.aload_n 3, 1)), (1, (.iconst 0, 1)), (2, (.aload_n 0, 1)), (3, (.iload_n 1, 1)), (4, (.iload_n 2, 1)), (5, (.invokevirtual 25, 3)), (8, (.i2l, 1)), (9, (.lastore, 1)), (10, (.goto 15, 3)), (13, (.astore 4, 2)), (15, (.iconst 1, 1)), (16, (.ireturn, 1)), (17, (.astore 4, 2)), (19, (.iconst 2, 1)), (20, (.ireturn, 1)), (21, (.astore 4, 2)), (23, (.iconst 3, 1)), (24, (.ireturn, 1)), (25, (.iconst 0, 1)), (26, (.ireturn, 1))]
theorem tL_ship : pL_ship.all (fun q => decide (decode cL_ship q.1 = .ok q.2)) = true := by decide +kernel
def pL_hole : List (Nat × (Instr × Nat)) := [(0, (.aload_n 3, 1)), (1, (.iconst 0, 1)), (2, (.aload_n 0, 1)), (3, (.iload_n 1, 1)), (4, (.iload_n 2, 1)), (5, (.invokevirtual 28, 3)), (8, (.i2l, 1)), (9, (.lastore, 1)), (10, (.goto 11, 3)), (13, (.astore 4, 2)), (15, (.iconst 1, 1)), (16, (.ireturn, 1)), (17, (.astore 4, 2)), (19, (.iconst 2, 1)), (20, (.ireturn, 1)), (21, (.iconst 0, 1)), (22, (.ireturn, 1))]
theorem tL_hole : pL_hole.all (fun q => decide (decode cL_hole q.1 = .ok q.2)) = true := by decide +kernel
def pL_pump : List (Nat × (Instr × Nat)) := [(0, (.aload 4, 2)), (2, (.iconst 0, 1)), (3, (.aload_n 0, 1)), (4, (.iload_n 1, 1)), (5, (.iload_n 2, 1)), (6, (.iload_n 3, 1)), (7, (.invokevirtual 31, 3)), (10, (.i2l, 1)), (11, (.lastore, 1)), (12, (.goto 15, 3)), (15, (.astore 5, 2)), (17, (.iconst 1, 1)), (18, (.ireturn, 1)), (19, (.astore 5, 2)), (21, (.iconst 2, 1)), (22, (.ireturn, 1)), (23, (.astore 5, 2)), (25, (.iconst 3, 1)), (26, (.ireturn, 1)), (27, (.iconst 0, 1)), (28, (.ireturn, 1))]
theorem tL_pump : pL_pump.all (fun q => decide (decode cL_pump q.1 = .ok q.2)) = true := by decide +kernel
def pL_shipHas : List (Nat × (Instr × Nat)) := [(0, (.aload_n 2, 1)), (1, (.iconst 0, 1)), (2, (.aload_n 0, 1)), (3, (.iload_n 1, 1)), (4, (.invokevirtual 35, 3)), (7, (.i2l, 1)), (8, (.lastore, 1)), (9, (.goto 6, 3)), (12, (.astore_n 3, 1)), (13, (.iconst 1, 1)), (14, (.ireturn, 1)), (15, (.iconst 0, 1)), (16, (.ireturn, 1))]
theorem tL_shipHas : pL_shipHas.all (fun q => decide (decode cL_shipHas q.1 = .ok q.2)) = true := by decide +kernel
def pL_pass : List (Nat × (Instr × Nat)) := [(0, (.aload_n 2, 1)), (1, (.iconst 0, 1)), (2, (.aload_n 0, 1)), (3, (.iload_n 1, 1)), (4, (.invokevirtual 39, 3)), (7, (.i2l, 1)), (8, (.lastore, 1)), (9, (.goto 9, 3)), (12, (.astore_n 3, 1)), (13, (.iconst 1, 1)), (14, (.ireturn, 1)), (15, (.astore_n 3, 1)), (16, (.iconst 2, 1)), (17, (.ireturn, 1)), (18, (.iconst 0, 1)), (19, (.ireturn, 1))]
theorem tL_pass : pL_pass.all (fun q => decide (decode cL_pass q.1 = .ok q.2)) = true := by decide +kernel
def pL_at : List (Nat × (Instr × Nat)) := [(0, (.aload_n 3, 1)), (1, (.iconst 0, 1)), (2, (.aload_n 0, 1)), (3, (.iload_n 1, 1)), (4, (.iload_n 2, 1)), (5, (.invokevirtual 42, 3)), (8, (.i2l, 1)), (9, (.lastore, 1)), (10, (.goto 11, 3)), (13, (.astore 4, 2)), (15, (.iconst 1, 1)), (16, (.ireturn, 1)), (17, (.astore 4, 2)), (19, (.iconst 2, 1)), (20, (.ireturn, 1)), (21, (.iconst 0, 1)), (22, (.ireturn, 1))]
theorem tL_at : pL_at.all (fun q => decide (decode cL_at q.1 = .ok q.2)) = true := by decide +kernel
def pL_boom : List (Nat × (Instr × Nat)) := [(0, (.aload 4, 2)), (2, (.iconst 0, 1)), (3, (.aload_n 0, 1)), (4, (.iload_n 1, 1)), (5, (.iload_n 2, 1)), (6, (.iload_n 3, 1)), (7, (.invokevirtual 45, 3)), (10, (.i2l, 1)), (11, (.lastore, 1)), (12, (.goto 15, 3)), (15, (.astore 5, 2)), (17, (.iconst 1, 1)), (18, (.ireturn, 1)), (19, (.astore 5, 2)), (21, (.iconst 2, 1)), (22, (.ireturn, 1)), (23, (.astore 5, 2)), (25, (.iconst 3, 1)), (26, (.ireturn, 1)), (27, (.iconst 0, 1)), (28, (.ireturn, 1))]
theorem tL_boom : pL_boom.all (fun q => decide (decode cL_boom q.1 = .ok q.2)) = true := by decide +kernel
def pL_skimmer : List (Nat × (Instr × Nat)) := [(0, (.aload 4, 2)), (2, (.iconst 0, 1)), (3, (.aload_n 0, 1)), (4, (.iload_n 1, 1)), (5, (.iload_n 2, 1)), (6, (.iload_n 3, 1)), (7, (.invokevirtual 48, 3)), (10, (.i2l, 1)), (11, (.lastore, 1)), (12, (.goto 15, 3)), (15, (.astore 5, 2)), (17, (.iconst 1, 1)), (18, (.ireturn, 1)), (19, (.astore 5, 2)), (21, (.iconst 2, 1)), (22, (.ireturn, 1)), (23, (.astore 5, 2)), (25, (.iconst 3, 1)), (26, (.ireturn, 1)), (27, (.iconst 0, 1)), (28, (.ireturn, 1))]
theorem tL_skimmer : pL_skimmer.all (fun q => decide (decode cL_skimmer q.1 = .ok q.2)) = true := by decide +kernel
def pL_team : List (Nat × (Instr × Nat)) := [(0, (.aload_n 3, 1)), (1, (.iconst 0, 1)), (2, (.aload_n 0, 1)), (3, (.iload_n 1, 1)), (4, (.iload_n 2, 1)), (5, (.invokevirtual 51, 3)), (8, (.i2l, 1)), (9, (.lastore, 1)), (10, (.goto 11, 3)), (13, (.astore 4, 2)), (15, (.iconst 1, 1)), (16, (.ireturn, 1)), (17, (.astore 4, 2)), (19, (.iconst 2, 1)), (20, (.ireturn, 1)), (21, (.iconst 0, 1)), (22, (.ireturn, 1))]
theorem tL_team : pL_team.all (fun q => decide (decode cL_team q.1 = .ok q.2)) = true := by decide +kernel
def pL_move : List (Nat × (Instr × Nat)) := [(0, (.aload_n 3, 1)), (1, (.iconst 0, 1)), (2, (.aload_n 0, 1)), (3, (.iload_n 1, 1)), (4, (.iload_n 2, 1)), (5, (.invokevirtual 55, 3)), (8, (.i2l, 1)), (9, (.lastore, 1)), (10, (.goto 11, 3)), (13, (.astore 4, 2)), (15, (.iconst 1, 1)), (16, (.ireturn, 1)), (17, (.astore 4, 2)), (19, (.iconst 2, 1)), (20, (.ireturn, 1)), (21, (.iconst 0, 1)), (22, (.ireturn, 1))]
theorem tL_move : pL_move.all (fun q => decide (decode cL_move q.1 = .ok q.2)) = true := by decide +kernel
def pL_carry : List (Nat × (Instr × Nat)) := [(0, (.aload_n 2, 1)), (1, (.iconst 0, 1)), (2, (.aload_n 0, 1)), (3, (.iload_n 1, 1)), (4, (.invokevirtual 58, 3)), (7, (.i2l, 1)), (8, (.lastore, 1)), (9, (.goto 9, 3)), (12, (.astore_n 3, 1)), (13, (.iconst 1, 1)), (14, (.ireturn, 1)), (15, (.astore_n 3, 1)), (16, (.iconst 2, 1)), (17, (.ireturn, 1)), (18, (.iconst 0, 1)), (19, (.ireturn, 1))]
theorem tL_carry : pL_carry.all (fun q => decide (decode cL_carry q.1 = .ok q.2)) = true := by decide +kernel
def pL_teach : List (Nat × (Instr × Nat)) := [(0, (.aload_n 2, 1)), (1, (.iconst 0, 1)), (2, (.aload_n 0, 1)), (3, (.iload_n 1, 1)), (4, (.invokevirtual 61, 3)), (7, (.ifCond .eq 7, 3)), (10, (.lconst 1, 1)), (11, (.goto 4, 3)), (14, (.lconst 0, 1)), (15, (.lastore, 1)), (16, (.goto 9, 3)), (19, (.astore_n 3, 1)), (20, (.iconst 1, 1)), (21, (.ireturn, 1)), (22, (.astore_n 3, 1)), (23, (.iconst 2, 1)), (24, (.ireturn, 1)), (25, (.iconst 0, 1)), (26, (.ireturn, 1))]
theorem tL_teach : pL_teach.all (fun q => decide (decode cL_teach q.1 = .ok q.2)) = true := by decide +kernel
def pL_clean : List (Nat × (Instr × Nat)) := [(0, (.aload_n 3, 1)), (1, (.iconst 0, 1)), (2, (.aload_n 0, 1)), (3, (.iload_n 1, 1)), (4, (.iload_n 2, 1)), (5, (.invokevirtual 65, 3)), (8, (.i2l, 1)), (9, (.lastore, 1)), (10, (.goto 11, 3)), (13, (.astore 4, 2)), (15, (.iconst 1, 1)), (16, (.ireturn, 1)), (17, (.astore 4, 2)), (19, (.iconst 2, 1)), (20, (.ireturn, 1)), (21, (.iconst 0, 1)), (22, (.ireturn, 1))]
theorem tL_clean : pL_clean.all (fun q => decide (decode cL_clean q.1 = .ok q.2)) = true := by decide +kernel
def pL_meanIs : List (Nat × (Instr × Nat)) := [(0, (.aload_n 3, 1)), (1, (.iconst 0, 1)), (2, (.aload_n 0, 1)), (3, (.iload_n 1, 1)), (4, (.iload_n 2, 1)), (5, (.invokevirtual 68, 3)), (8, (.i2l, 1)), (9, (.lastore, 1)), (10, (.goto 11, 3)), (13, (.astore 4, 2)), (15, (.iconst 1, 1)), (16, (.ireturn, 1)), (17, (.astore 4, 2)), (19, (.iconst 2, 1)), (20, (.ireturn, 1)), (21, (.iconst 0, 1)), (22, (.ireturn, 1))]
theorem tL_meanIs : pL_meanIs.all (fun q => decide (decode cL_meanIs q.1 = .ok q.2)) = true := by decide +kernel
def pL_use : List (Nat × (Instr × Nat)) := [(0, (.aload_n 3, 1)), (1, (.iconst 0, 1)), (2, (.aload_n 0, 1)), (3, (.iload_n 1, 1)), (4, (.iload_n 2, 1)), (5, (.invokevirtual 71, 3)), (8, (.i2l, 1)), (9, (.lastore, 1)), (10, (.goto 15, 3)), (13, (.astore 4, 2)), (15, (.iconst 1, 1)), (16, (.ireturn, 1)), (17, (.astore 4, 2)), (19, (.iconst 2, 1)), (20, (.ireturn, 1)), (21, (.astore 4, 2)), (23, (.iconst 3, 1)), (24, (.ireturn, 1)), (25, (.iconst 0, 1)), (26, (.ireturn, 1))]
theorem tL_use : pL_use.all (fun q => decide (decode cL_use q.1 = .ok q.2)) = true := by decide +kernel
def pL_why : List (Nat × (Instr × Nat)) := [(0, (.aload 4, 2)), (2, (.iconst 0, 1)), (3, (.aload_n 0, 1)), (4, (.iload_n 1, 1)), (5, (.iload_n 2, 1)), (6, (.iload_n 3, 1)), (7, (.invokevirtual 74, 3)), (10, (.i2l, 1)), (11, (.lastore, 1)), (12, (.goto 15, 3)), (15, (.astore 5, 2)), (17, (.iconst 1, 1)), (18, (.ireturn, 1)), (19, (.astore 5, 2)), (21, (.iconst 2, 1)), (22, (.ireturn, 1)), (23, (.astore 5, 2)), (25, (.iconst 3, 1)), (26, (.ireturn, 1)), (27, (.iconst 0, 1)), (28, (.ireturn, 1))]
theorem tL_why : pL_why.all (fun q => decide (decode cL_why q.1 = .ok q.2)) = true := by decide +kernel
def pL_birds : List (Nat × (Instr × Nat)) := [(0, (.aload_n 3, 1)), (1, (.iconst 0, 1)), (2, (.aload_n 0, 1)), (3, (.iload_n 1, 1)), (4, (.iload_n 2, 1)), (5, (.invokevirtual 77, 3)), (8, (.i2l, 1)), (9, (.lastore, 1)), (10, (.goto 15, 3)), (13, (.astore 4, 2)), (15, (.iconst 1, 1)), (16, (.ireturn, 1)), (17, (.astore 4, 2)), (19, (.iconst 2, 1)), (20, (.ireturn, 1)), (21, (.astore 4, 2)), (23, (.iconst 3, 1)), (24, (.ireturn, 1)), (25, (.iconst 0, 1)), (26, (.ireturn, 1))]
theorem tL_birds : pL_birds.all (fun q => decide (decode cL_birds q.1 = .ok q.2)) = true := by decide +kernel
def pL_wash : List (Nat × (Instr × Nat)) := [(0, (.aload_n 3, 1)), (1, (.iconst 0, 1)), (2, (.aload_n 0, 1)), (3, (.iload_n 1, 1)), (4, (.iload_n 2, 1)), (5, (.invokevirtual 80, 3)), (8, (.i2l, 1)), (9, (.lastore, 1)), (10, (.goto 15, 3)), (13, (.astore 4, 2)), (15, (.iconst 1, 1)), (16, (.ireturn, 1)), (17, (.astore 4, 2)), (19, (.iconst 2, 1)), (20, (.ireturn, 1)), (21, (.astore 4, 2)), (23, (.iconst 3, 1)), (24, (.ireturn, 1)), (25, (.iconst 0, 1)), (26, (.ireturn, 1))]
theorem tL_wash : pL_wash.all (fun q => decide (decode cL_wash q.1 = .ok q.2)) = true := by decide +kernel
def pL_sign : List (Nat × (Instr × Nat)) := [(0, (.aload_n 3, 1)), (1, (.iconst 0, 1)), (2, (.aload_n 0, 1)), (3, (.iload_n 1, 1)), (4, (.iload_n 2, 1)), (5, (.invokevirtual 83, 3)), (8, (.ifCond .eq 7, 3)), (11, (.lconst 1, 1)), (12, (.goto 4, 3)), (15, (.lconst 0, 1)), (16, (.lastore, 1)), (17, (.goto 15, 3)), (20, (.astore 4, 2)), (22, (.iconst 1, 1)), (23, (.ireturn, 1)), (24, (.astore 4, 2)), (26, (.iconst 2, 1)), (27, (.ireturn, 1)), (28, (.astore 4, 2)), (30, (.iconst 3, 1)), (31, (.ireturn, 1)), (32, (.iconst 0, 1)), (33, (.ireturn, 1))]
theorem tL_sign : pL_sign.all (fun q => decide (decode cL_sign q.1 = .ok q.2)) = true := by decide +kernel
def pL_site : List (Nat × (Instr × Nat)) := [(0, (.aload_n 3, 1)), (1, (.iconst 0, 1)), (2, (.aload_n 0, 1)), (3, (.iload_n 1, 1)), (4, (.iload_n 2, 1)), (5, (.invokevirtual 87, 3)), (8, (.i2l, 1)), (9, (.lastore, 1)), (10, (.goto 11, 3)), (13, (.astore 4, 2)), (15, (.iconst 1, 1)), (16, (.ireturn, 1)), (17, (.astore 4, 2)), (19, (.iconst 2, 1)), (20, (.ireturn, 1)), (21, (.iconst 0, 1)), (22, (.ireturn, 1))]
theorem tL_site : pL_site.all (fun q => decide (decode cL_site q.1 = .ok q.2)) = true := by decide +kernel
def pL_deliver : List (Nat × (Instr × Nat)) := [(0, (.aload 4, 2)), (2, (.iconst 0, 1)), (3, (.aload_n 0, 1)), (4, (.iload_n 1, 1)), (5, (.iload_n 2, 1)), (6, (.iload_n 3, 1)), (7, (.invokevirtual 90, 3)), (10, (.i2l, 1)), (11, (.lastore, 1)), (12, (.goto 15, 3)), (15, (.astore 5, 2)), (17, (.iconst 1, 1)), (18, (.ireturn, 1)), (19, (.astore 5, 2)), (21, (.iconst 2, 1)), (22, (.ireturn, 1)), (23, (.astore 5, 2)), (25, (.iconst 3, 1)), (26, (.ireturn, 1)), (27, (.iconst 0, 1)), (28, (.ireturn, 1))]
theorem tL_deliver : pL_deliver.all (fun q => decide (decode cL_deliver q.1 = .ok q.2)) = true := by decide +kernel
def pL_waste : List (Nat × (Instr × Nat)) := [(0, (.aload_n 2, 1)), (1, (.iconst 0, 1)), (2, (.aload_n 0, 1)), (3, (.iload_n 1, 1)), (4, (.invokevirtual 93, 3)), (7, (.i2l, 1)), (8, (.lastore, 1)), (9, (.goto 6, 3)), (12, (.astore_n 3, 1)), (13, (.iconst 1, 1)), (14, (.ireturn, 1)), (15, (.iconst 0, 1)), (16, (.ireturn, 1))]
theorem tL_waste : pL_waste.all (fun q => decide (decode cL_waste q.1 = .ok q.2)) = true := by decide +kernel
def pL_claim : List (Nat × (Instr × Nat)) := [(0, (.aload_n 2, 1)), (1, (.iconst 0, 1)), (2, (.aload_n 0, 1)), (3, (.iload_n 1, 1)), (4, (.invokevirtual 96, 3)), (7, (.i2l, 1)), (8, (.lastore, 1)), (9, (.goto 9, 3)), (12, (.astore_n 3, 1)), (13, (.iconst 1, 1)), (14, (.ireturn, 1)), (15, (.astore_n 3, 1)), (16, (.iconst 2, 1)), (17, (.ireturn, 1)), (18, (.iconst 0, 1)), (19, (.ireturn, 1))]
theorem tL_claim : pL_claim.all (fun q => decide (decode cL_claim q.1 = .ok q.2)) = true := by decide +kernel
def pL_layers : List (Nat × (Instr × Nat)) := [(0, (.aload_n 3, 1)), (1, (.iconst 0, 1)), (2, (.aload_n 0, 1)), (3, (.iload_n 1, 1)), (4, (.iload_n 2, 1)), (5, (.invokevirtual 99, 3)), (8, (.i2l, 1)), (9, (.lastore, 1)), (10, (.goto 7, 3)), (13, (.astore 4, 2)), (15, (.iconst 1, 1)), (16, (.ireturn, 1)), (17, (.iconst 0, 1)), (18, (.ireturn, 1))]
theorem tL_layers : pL_layers.all (fun q => decide (decode cL_layers q.1 = .ok q.2)) = true := by decide +kernel
def pL_due : List (Nat × (Instr × Nat)) := [(0, (.aload_n 3, 1)), (1, (.iconst 0, 1)), (2, (.aload_n 0, 1)), (3, (.iload_n 1, 1)), (4, (.iload_n 2, 1)), (5, (.invokevirtual 102, 3)), (8, (.i2l, 1)), (9, (.lastore, 1)), (10, (.goto 11, 3)), (13, (.astore 4, 2)), (15, (.iconst 1, 1)), (16, (.ireturn, 1)), (17, (.astore 4, 2)), (19, (.iconst 2, 1)), (20, (.ireturn, 1)), (21, (.iconst 0, 1)), (22, (.ireturn, 1))]
theorem tL_due : pL_due.all (fun q => decide (decode cL_due q.1 = .ok q.2)) = true := by decide +kernel
def pL_ahead : List (Nat × (Instr × Nat)) := [(0, (.aload_n 3, 1)), (1, (.iconst 0, 1)), (2, (.aload_n 0, 1)), (3, (.iload_n 1, 1)), (4, (.iload_n 2, 1)), (5, (.invokevirtual 105, 3)), (8, (.i2l, 1)), (9, (.lastore, 1)), (10, (.goto 11, 3)), (13, (.astore 4, 2)), (15, (.iconst 1, 1)), (16, (.ireturn, 1)), (17, (.astore 4, 2)), (19, (.iconst 2, 1)), (20, (.ireturn, 1)), (21, (.iconst 0, 1)), (22, (.ireturn, 1))]
theorem tL_ahead : pL_ahead.all (fun q => decide (decode cL_ahead q.1 = .ok q.2)) = true := by decide +kernel
def pL_nextAnew : List (Nat × (Instr × Nat)) := [(0, (.aload_n 2, 1)), (1, (.iconst 0, 1)), (2, (.aload_n 0, 1)), (3, (.iload_n 1, 1)), (4, (.invokevirtual 108, 3)), (7, (.i2l, 1)), (8, (.lastore, 1)), (9, (.goto 6, 3)), (12, (.astore_n 3, 1)), (13, (.iconst 1, 1)), (14, (.ireturn, 1)), (15, (.iconst 0, 1)), (16, (.ireturn, 1))]
theorem tL_nextAnew : pL_nextAnew.all (fun q => decide (decode cL_nextAnew q.1 = .ok q.2)) = true := by decide +kernel
def pL_sum : List (Nat × (Instr × Nat)) := [(0, (.aload_n 2, 1)), (1, (.iconst 0, 1)), (2, (.aload_n 0, 1)), (3, (.iload_n 1, 1)), (4, (.invokevirtual 111, 3)), (7, (.i2l, 1)), (8, (.lastore, 1)), (9, (.goto 6, 3)), (12, (.astore_n 3, 1)), (13, (.iconst 1, 1)), (14, (.ireturn, 1)), (15, (.iconst 0, 1)), (16, (.ireturn, 1))]
theorem tL_sum : pL_sum.all (fun q => decide (decode cL_sum q.1 = .ok q.2)) = true := by decide +kernel
end
section
def pL_law_0 : List (Nat × (Instr × Nat)) := [(0, (.new 8, 3)), (3, (.dup, 1)), (4, (.invokespecial 114, 3)), (7, (.astore_n 1, 1)), (8, (.new 115, 3)), (11, (.dup, 1)), (12, (.invokespecial 117, 3)), (15, (.astore_n 2, 1)), (16, (.iconst 1, 1)), (17, (.newarray .long, 2)), (19, (.astore_n 3, 1)), (20, (.iconst 0, 1)), (21, (.istore 4, 2)), (23, (.iload 4, 2)), (25, (.aload_n 0, 1)), (26, (.arraylength, 1)), (27, (.iconst 4, 1)), (28, (.isub, 1)), (29, (.if_icmp .gt 2255, 3)), (32, (.aload_n 0, 1)), (33, (.iload 4, 2)), (35, (.iaload, 1)), (36, (.bipush 31, 2)), (38, (.iand, 1)), (39, (.tableswitch 2239 0 30 #[137, 205, 273, 341, 409, 477, 557, 613, 669, 737, 817, 897, 981, 1049, 1105, 1168, 1236, 1304, 1372, 1452, 1520, 1588, 1663, 1731, 1811, 1867, 1923, 1991, 2059, 2127, 2183], 137)), (176, (.aload_n 1, 1)), (177, (.aload_n 0, 1)), (178, (.iload 4, 2)), (180, (.iconst 1, 1)), (181, (.iadd, 1)), (182, (.iaload, 1)), (183, (.aload_n 0, 1)), (184, (.iload 4, 2)), (186, (.iconst 2, 1)), (187, (.iadd, 1)), (188, (.iaload, 1)), (189, (.aload_n 3, 1)), (190, (.invokestatic 118, 3)), (193, (.istore 5, 2)), (195, (.aload_n 2, 1)), (196, (.aload_n 0, 1)), (197, (.iload 4, 2)), (199, (.iconst 1, 1)), (200, (.iadd, 1)), (201, (.iaload, 1)), (202, (.aload_n 0, 1)), (203, (.iload 4, 2)), (205, (.iconst 2, 1)), (206, (.iadd, 1)), (207, (.iaload, 1)), (208, (.invokevirtual 123, 3)), (211, (.istore 6, 2)), (213, (.aload_n 2, 1)), (214, (.invokevirtual 124, 3)), (217, (.iload 5, 2)), (219, (.if_icmp .eq 5, 3)), (222, (.iconst 0, 1)), (223, (.ireturn, 1)), (224, (.iload 5, 2)), (226, (.ifCond .ne 15, 3)), (229, (.aload_n 3, 1)), (230, (.iconst 0, 1)), (231, (.laload, 1)), (232, (.iload 6, 2)), (234, (.i2l, 1)), (235, (.lcmp, 1)), (236, (.ifCond .eq 5, 3)), (239, (.iconst 0, 1)), (240, (.ireturn, 1)), (241, (.goto 2037, 3)), (244, (.aload_n 1, 1)), (245, (.aload_n 0, 1)), (246, (.iload 4, 2)), (248, (.iconst 1, 1)), (249, (.iadd, 1)), (250, (.iaload, 1)), (251, (.aload_n 0, 1)), (252, (.iload 4, 2)), (254, (.iconst 2, 1)), (255, (.iadd, 1)), (256, (.iaload, 1)), (257, (.aload_n 3, 1)), (258, (.invokestatic 128, 3)), (261, (.istore 5, 2)), (263, (.aload_n 2, 1)), (264, (.aload_n 0, 1)), (265, (.iload 4, 2)), (267, (.iconst 1, 1)), (268, (.iadd, 1)), (269, (.iaload, 1)), (270, (.aload_n 0, 1)), (271, (.iload 4, 2)), (273, (.iconst 2, 1)), (274, (.iadd, 1)), (275, (.iaload, 1)), (276, (.invokevirtual 130, 3)), (279, (.istore 6, 2)), (281, (.aload_n 2, 1)), (282, (.invokevirtual 124, 3)), (285, (.iload 5, 2))]
theorem tL_law_0 : pL_law_0.all (fun q => decide (decode cL_law q.1 = .ok q.2)) = true := by decide +kernel
def pL_law_1 : List (Nat × (Instr × Nat)) := [(287, (.if_icmp .eq 5, 3)), (290, (.iconst 0, 1)), (291, (.ireturn, 1)), (292, (.iload 5, 2)), (294, (.ifCond .ne 15, 3)), (297, (.aload_n 3, 1)), (298, (.iconst 0, 1)), (299, (.laload, 1)), (300, (.iload 6, 2)), (302, (.i2l, 1)), (303, (.lcmp, 1)), (304, (.ifCond .eq 5, 3)), (307, (.iconst 0, 1)), (308, (.ireturn, 1)), (309, (.goto 1969, 3)), (312, (.aload_n 1, 1)), (313, (.aload_n 0, 1)), (314, (.iload 4, 2)), (316, (.iconst 1, 1)), (317, (.iadd, 1)), (318, (.iaload, 1)), (319, (.aload_n 0, 1)), (320, (.iload 4, 2)), (322, (.iconst 2, 1)), (323, (.iadd, 1)), (324, (.iaload, 1)), (325, (.aload_n 3, 1)), (326, (.invokestatic 131, 3)), (329, (.istore 5, 2)), (331, (.aload_n 2, 1)), (332, (.aload_n 0, 1)), (333, (.iload 4, 2)), (335, (.iconst 1, 1)), (336, (.iadd, 1)), (337, (.iaload, 1)), (338, (.aload_n 0, 1)), (339, (.iload 4, 2)), (341, (.iconst 2, 1)), (342, (.iadd, 1)), (343, (.iaload, 1)), (344, (.invokevirtual 133, 3)), (347, (.istore 6, 2)), (349, (.aload_n 2, 1)), (350, (.invokevirtual 124, 3)), (353, (.iload 5, 2)), (355, (.if_icmp .eq 5, 3)), (358, (.iconst 0, 1)), (359, (.ireturn, 1)), (360, (.iload 5, 2)), (362, (.ifCond .ne 15, 3)), (365, (.aload_n 3, 1)), (366, (.iconst 0, 1)), (367, (.laload, 1)), (368, (.iload 6, 2)), (370, (.i2l, 1)), (371, (.lcmp, 1)), (372, (.ifCond .eq 5, 3)), (375, (.iconst 0, 1)), (376, (.ireturn, 1)), (377, (.goto 1901, 3)), (380, (.aload_n 1, 1)), (381, (.aload_n 0, 1)), (382, (.iload 4, 2)), (384, (.iconst 1, 1)), (385, (.iadd, 1)), (386, (.iaload, 1)), (387, (.aload_n 0, 1)), (388, (.iload 4, 2)), (390, (.iconst 2, 1)), (391, (.iadd, 1)), (392, (.iaload, 1)), (393, (.aload_n 3, 1)), (394, (.invokestatic 134, 3)), (397, (.istore 5, 2)), (399, (.aload_n 2, 1)), (400, (.aload_n 0, 1)), (401, (.iload 4, 2)), (403, (.iconst 1, 1)), (404, (.iadd, 1)), (405, (.iaload, 1)), (406, (.aload_n 0, 1)), (407, (.iload 4, 2)), (409, (.iconst 2, 1)), (410, (.iadd, 1)), (411, (.iaload, 1)), (412, (.invokevirtual 136, 3)), (415, (.istore 6, 2)), (417, (.aload_n 2, 1)), (418, (.invokevirtual 124, 3)), (421, (.iload 5, 2)), (423, (.if_icmp .eq 5, 3)), (426, (.iconst 0, 1)), (427, (.ireturn, 1)), (428, (.iload 5, 2)), (430, (.ifCond .ne 15, 3)), (433, (.aload_n 3, 1)), (434, (.iconst 0, 1)), (435, (.laload, 1)), (436, (.iload 6, 2)), (438, (.i2l, 1))]
theorem tL_law_1 : pL_law_1.all (fun q => decide (decode cL_law q.1 = .ok q.2)) = true := by decide +kernel
def pL_law_2 : List (Nat × (Instr × Nat)) := [(439, (.lcmp, 1)), (440, (.ifCond .eq 5, 3)), (443, (.iconst 0, 1)), (444, (.ireturn, 1)), (445, (.goto 1833, 3)), (448, (.aload_n 1, 1)), (449, (.aload_n 0, 1)), (450, (.iload 4, 2)), (452, (.iconst 1, 1)), (453, (.iadd, 1)), (454, (.iaload, 1)), (455, (.aload_n 0, 1)), (456, (.iload 4, 2)), (458, (.iconst 2, 1)), (459, (.iadd, 1)), (460, (.iaload, 1)), (461, (.aload_n 3, 1)), (462, (.invokestatic 137, 3)), (465, (.istore 5, 2)), (467, (.aload_n 2, 1)), (468, (.aload_n 0, 1)), (469, (.iload 4, 2)), (471, (.iconst 1, 1)), (472, (.iadd, 1)), (473, (.iaload, 1)), (474, (.aload_n 0, 1)), (475, (.iload 4, 2)), (477, (.iconst 2, 1)), (478, (.iadd, 1)), (479, (.iaload, 1)), (480, (.invokevirtual 139, 3)), (483, (.istore 6, 2)), (485, (.aload_n 2, 1)), (486, (.invokevirtual 124, 3)), (489, (.iload 5, 2)), (491, (.if_icmp .eq 5, 3)), (494, (.iconst 0, 1)), (495, (.ireturn, 1)), (496, (.iload 5, 2)), (498, (.ifCond .ne 15, 3)), (501, (.aload_n 3, 1)), (502, (.iconst 0, 1)), (503, (.laload, 1)), (504, (.iload 6, 2)), (506, (.i2l, 1)), (507, (.lcmp, 1)), (508, (.ifCond .eq 5, 3)), (511, (.iconst 0, 1)), (512, (.ireturn, 1)), (513, (.goto 1765, 3)), (516, (.aload_n 1, 1)), (517, (.aload_n 0, 1)), (518, (.iload 4, 2)), (520, (.iconst 1, 1)), (521, (.iadd, 1)), (522, (.iaload, 1)), (523, (.aload_n 0, 1)), (524, (.iload 4, 2)), (526, (.iconst 2, 1)), (527, (.iadd, 1)), (528, (.iaload, 1)), (529, (.aload_n 0, 1)), (530, (.iload 4, 2)), (532, (.iconst 3, 1)), (533, (.iadd, 1)), (534, (.iaload, 1)), (535, (.aload_n 3, 1)), (536, (.invokestatic 140, 3)), (539, (.istore 5, 2)), (541, (.aload_n 2, 1)), (542, (.aload_n 0, 1)), (543, (.iload 4, 2)), (545, (.iconst 1, 1)), (546, (.iadd, 1)), (547, (.iaload, 1)), (548, (.aload_n 0, 1)), (549, (.iload 4, 2)), (551, (.iconst 2, 1)), (552, (.iadd, 1)), (553, (.iaload, 1)), (554, (.aload_n 0, 1)), (555, (.iload 4, 2)), (557, (.iconst 3, 1)), (558, (.iadd, 1)), (559, (.iaload, 1)), (560, (.invokevirtual 143, 3)), (563, (.istore 6, 2)), (565, (.aload_n 2, 1)), (566, (.invokevirtual 124, 3)), (569, (.iload 5, 2)), (571, (.if_icmp .eq 5, 3)), (574, (.iconst 0, 1)), (575, (.ireturn, 1)), (576, (.iload 5, 2)), (578, (.ifCond .ne 15, 3)), (581, (.aload_n 3, 1)), (582, (.iconst 0, 1)), (583, (.laload, 1)), (584, (.iload 6, 2)), (586, (.i2l, 1))]
theorem tL_law_2 : pL_law_2.all (fun q => decide (decode cL_law q.1 = .ok q.2)) = true := by decide +kernel
def pL_law_3 : List (Nat × (Instr × Nat)) := [(587, (.lcmp, 1)), (588, (.ifCond .eq 5, 3)), (591, (.iconst 0, 1)), (592, (.ireturn, 1)), (593, (.goto 1685, 3)), (596, (.aload_n 1, 1)), (597, (.aload_n 0, 1)), (598, (.iload 4, 2)), (600, (.iconst 1, 1)), (601, (.iadd, 1)), (602, (.iaload, 1)), (603, (.aload_n 3, 1)), (604, (.invokestatic 144, 3)), (607, (.istore 5, 2)), (609, (.aload_n 2, 1)), (610, (.aload_n 0, 1)), (611, (.iload 4, 2)), (613, (.iconst 1, 1)), (614, (.iadd, 1)), (615, (.iaload, 1)), (616, (.invokevirtual 147, 3)), (619, (.istore 6, 2)), (621, (.aload_n 2, 1)), (622, (.invokevirtual 124, 3)), (625, (.iload 5, 2)), (627, (.if_icmp .eq 5, 3)), (630, (.iconst 0, 1)), (631, (.ireturn, 1)), (632, (.iload 5, 2)), (634, (.ifCond .ne 15, 3)), (637, (.aload_n 3, 1)), (638, (.iconst 0, 1)), (639, (.laload, 1)), (640, (.iload 6, 2)), (642, (.i2l, 1)), (643, (.lcmp, 1)), (644, (.ifCond .eq 5, 3)), (647, (.iconst 0, 1)), (648, (.ireturn, 1)), (649, (.goto 1629, 3)), (652, (.aload_n 1, 1)), (653, (.aload_n 0, 1)), (654, (.iload 4, 2)), (656, (.iconst 1, 1)), (657, (.iadd, 1)), (658, (.iaload, 1)), (659, (.aload_n 3, 1)), (660, (.invokestatic 148, 3)), (663, (.istore 5, 2)), (665, (.aload_n 2, 1)), (666, (.aload_n 0, 1)), (667, (.iload 4, 2)), (669, (.iconst 1, 1)), (670, (.iadd, 1)), (671, (.iaload, 1)), (672, (.invokevirtual 150, 3)), (675, (.istore 6, 2)), (677, (.aload_n 2, 1)), (678, (.invokevirtual 124, 3)), (681, (.iload 5, 2)), (683, (.if_icmp .eq 5, 3)), (686, (.iconst 0, 1)), (687, (.ireturn, 1)), (688, (.iload 5, 2)), (690, (.ifCond .ne 15, 3)), (693, (.aload_n 3, 1)), (694, (.iconst 0, 1)), (695, (.laload, 1)), (696, (.iload 6, 2)), (698, (.i2l, 1)), (699, (.lcmp, 1)), (700, (.ifCond .eq 5, 3)), (703, (.iconst 0, 1)), (704, (.ireturn, 1)), (705, (.goto 1573, 3)), (708, (.aload_n 1, 1)), (709, (.aload_n 0, 1)), (710, (.iload 4, 2)), (712, (.iconst 1, 1)), (713, (.iadd, 1)), (714, (.iaload, 1)), (715, (.aload_n 0, 1)), (716, (.iload 4, 2)), (718, (.iconst 2, 1)), (719, (.iadd, 1)), (720, (.iaload, 1)), (721, (.aload_n 3, 1)), (722, (.invokestatic 151, 3)), (725, (.istore 5, 2)), (727, (.aload_n 2, 1)), (728, (.aload_n 0, 1)), (729, (.iload 4, 2)), (731, (.iconst 1, 1)), (732, (.iadd, 1)), (733, (.iaload, 1)), (734, (.aload_n 0, 1)), (735, (.iload 4, 2)), (737, (.iconst 2, 1)), (738, (.iadd, 1)), (739, (.iaload, 1))]
theorem tL_law_3 : pL_law_3.all (fun q => decide (decode cL_law q.1 = .ok q.2)) = true := by decide +kernel
def pL_law_4 : List (Nat × (Instr × Nat)) := [(740, (.invokevirtual 153, 3)), (743, (.istore 6, 2)), (745, (.aload_n 2, 1)), (746, (.invokevirtual 124, 3)), (749, (.iload 5, 2)), (751, (.if_icmp .eq 5, 3)), (754, (.iconst 0, 1)), (755, (.ireturn, 1)), (756, (.iload 5, 2)), (758, (.ifCond .ne 15, 3)), (761, (.aload_n 3, 1)), (762, (.iconst 0, 1)), (763, (.laload, 1)), (764, (.iload 6, 2)), (766, (.i2l, 1)), (767, (.lcmp, 1)), (768, (.ifCond .eq 5, 3)), (771, (.iconst 0, 1)), (772, (.ireturn, 1)), (773, (.goto 1505, 3)), (776, (.aload_n 1, 1)), (777, (.aload_n 0, 1)), (778, (.iload 4, 2)), (780, (.iconst 1, 1)), (781, (.iadd, 1)), (782, (.iaload, 1)), (783, (.aload_n 0, 1)), (784, (.iload 4, 2)), (786, (.iconst 2, 1)), (787, (.iadd, 1)), (788, (.iaload, 1)), (789, (.aload_n 0, 1)), (790, (.iload 4, 2)), (792, (.iconst 3, 1)), (793, (.iadd, 1)), (794, (.iaload, 1)), (795, (.aload_n 3, 1)), (796, (.invokestatic 154, 3)), (799, (.istore 5, 2)), (801, (.aload_n 2, 1)), (802, (.aload_n 0, 1)), (803, (.iload 4, 2)), (805, (.iconst 1, 1)), (806, (.iadd, 1)), (807, (.iaload, 1)), (808, (.aload_n 0, 1)), (809, (.iload 4, 2)), (811, (.iconst 2, 1)), (812, (.iadd, 1)), (813, (.iaload, 1)), (814, (.aload_n 0, 1)), (815, (.iload 4, 2)), (817, (.iconst 3, 1)), (818, (.iadd, 1)), (819, (.iaload, 1)), (820, (.invokevirtual 156, 3)), (823, (.istore 6, 2)), (825, (.aload_n 2, 1)), (826, (.invokevirtual 124, 3)), (829, (.iload 5, 2)), (831, (.if_icmp .eq 5, 3)), (834, (.iconst 0, 1)), (835, (.ireturn, 1)), (836, (.iload 5, 2)), (838, (.ifCond .ne 15, 3)), (841, (.aload_n 3, 1)), (842, (.iconst 0, 1)), (843, (.laload, 1)), (844, (.iload 6, 2)), (846, (.i2l, 1)), (847, (.lcmp, 1)), (848, (.ifCond .eq 5, 3)), (851, (.iconst 0, 1)), (852, (.ireturn, 1)), (853, (.goto 1425, 3)), (856, (.aload_n 1, 1)), (857, (.aload_n 0, 1)), (858, (.iload 4, 2)), (860, (.iconst 1, 1)), (861, (.iadd, 1)), (862, (.iaload, 1)), (863, (.aload_n 0, 1)), (864, (.iload 4, 2)), (866, (.iconst 2, 1)), (867, (.iadd, 1)), (868, (.iaload, 1)), (869, (.aload_n 0, 1)), (870, (.iload 4, 2)), (872, (.iconst 3, 1)), (873, (.iadd, 1)), (874, (.iaload, 1)), (875, (.aload_n 3, 1)), (876, (.invokestatic 157, 3)), (879, (.istore 5, 2)), (881, (.aload_n 2, 1)), (882, (.aload_n 0, 1)), (883, (.iload 4, 2)), (885, (.iconst 1, 1)), (886, (.iadd, 1)), (887, (.iaload, 1))]
theorem tL_law_4 : pL_law_4.all (fun q => decide (decode cL_law q.1 = .ok q.2)) = true := by decide +kernel
def pL_law_5 : List (Nat × (Instr × Nat)) := [(888, (.aload_n 0, 1)), (889, (.iload 4, 2)), (891, (.iconst 2, 1)), (892, (.iadd, 1)), (893, (.iaload, 1)), (894, (.aload_n 0, 1)), (895, (.iload 4, 2)), (897, (.iconst 3, 1)), (898, (.iadd, 1)), (899, (.iaload, 1)), (900, (.invokevirtual 159, 3)), (903, (.istore 6, 2)), (905, (.aload_n 2, 1)), (906, (.invokevirtual 124, 3)), (909, (.iload 5, 2)), (911, (.if_icmp .eq 5, 3)), (914, (.iconst 0, 1)), (915, (.ireturn, 1)), (916, (.iload 5, 2)), (918, (.ifCond .ne 15, 3)), (921, (.aload_n 3, 1)), (922, (.iconst 0, 1)), (923, (.laload, 1)), (924, (.iload 6, 2)), (926, (.i2l, 1)), (927, (.lcmp, 1)), (928, (.ifCond .eq 5, 3)), (931, (.iconst 0, 1)), (932, (.ireturn, 1)), (933, (.goto 1345, 3)), (936, (.aload_n 1, 1)), (937, (.aload_n 0, 1)), (938, (.iload 4, 2)), (940, (.iconst 1, 1)), (941, (.iadd, 1)), (942, (.iaload, 1)), (943, (.aload_n 0, 1)), (944, (.iload 4, 2)), (946, (.iconst 2, 1)), (947, (.iadd, 1)), (948, (.iaload, 1)), (949, (.ifCond .eq 7, 3)), (952, (.iconst 1, 1)), (953, (.goto 4, 3)), (956, (.iconst 0, 1)), (957, (.aload_n 3, 1)), (958, (.invokestatic 160, 3)), (961, (.istore 5, 2)), (963, (.aload_n 2, 1)), (964, (.aload_n 0, 1)), (965, (.iload 4, 2)), (967, (.iconst 1, 1)), (968, (.iadd, 1)), (969, (.iaload, 1)), (970, (.aload_n 0, 1)), (971, (.iload 4, 2)), (973, (.iconst 2, 1)), (974, (.iadd, 1)), (975, (.iaload, 1)), (976, (.ifCond .eq 7, 3)), (979, (.iconst 1, 1)), (980, (.goto 4, 3)), (983, (.iconst 0, 1)), (984, (.invokevirtual 163, 3)), (987, (.istore 6, 2)), (989, (.aload_n 2, 1)), (990, (.invokevirtual 124, 3)), (993, (.iload 5, 2)), (995, (.if_icmp .eq 5, 3)), (998, (.iconst 0, 1)), (999, (.ireturn, 1)), (1000, (.iload 5, 2)), (1002, (.ifCond .ne 15, 3)), (1005, (.aload_n 3, 1)), (1006, (.iconst 0, 1)), (1007, (.laload, 1)), (1008, (.iload 6, 2)), (1010, (.i2l, 1)), (1011, (.lcmp, 1)), (1012, (.ifCond .eq 5, 3)), (1015, (.iconst 0, 1)), (1016, (.ireturn, 1)), (1017, (.goto 1261, 3)), (1020, (.aload_n 1, 1)), (1021, (.aload_n 0, 1)), (1022, (.iload 4, 2)), (1024, (.iconst 1, 1)), (1025, (.iadd, 1)), (1026, (.iaload, 1)), (1027, (.aload_n 0, 1)), (1028, (.iload 4, 2)), (1030, (.iconst 2, 1)), (1031, (.iadd, 1)), (1032, (.iaload, 1)), (1033, (.aload_n 3, 1)), (1034, (.invokestatic 164, 3)), (1037, (.istore 5, 2)), (1039, (.aload_n 2, 1)), (1040, (.aload_n 0, 1)), (1041, (.iload 4, 2))]
theorem tL_law_5 : pL_law_5.all (fun q => decide (decode cL_law q.1 = .ok q.2)) = true := by decide +kernel
def pL_law_6 : List (Nat × (Instr × Nat)) := [(1043, (.iconst 1, 1)), (1044, (.iadd, 1)), (1045, (.iaload, 1)), (1046, (.aload_n 0, 1)), (1047, (.iload 4, 2)), (1049, (.iconst 2, 1)), (1050, (.iadd, 1)), (1051, (.iaload, 1)), (1052, (.invokevirtual 166, 3)), (1055, (.istore 6, 2)), (1057, (.aload_n 2, 1)), (1058, (.invokevirtual 124, 3)), (1061, (.iload 5, 2)), (1063, (.if_icmp .eq 5, 3)), (1066, (.iconst 0, 1)), (1067, (.ireturn, 1)), (1068, (.iload 5, 2)), (1070, (.ifCond .ne 15, 3)), (1073, (.aload_n 3, 1)), (1074, (.iconst 0, 1)), (1075, (.laload, 1)), (1076, (.iload 6, 2)), (1078, (.i2l, 1)), (1079, (.lcmp, 1)), (1080, (.ifCond .eq 5, 3)), (1083, (.iconst 0, 1)), (1084, (.ireturn, 1)), (1085, (.goto 1193, 3)), (1088, (.aload_n 1, 1)), (1089, (.aload_n 0, 1)), (1090, (.iload 4, 2)), (1092, (.iconst 1, 1)), (1093, (.iadd, 1)), (1094, (.iaload, 1)), (1095, (.aload_n 3, 1)), (1096, (.invokestatic 167, 3)), (1099, (.istore 5, 2)), (1101, (.aload_n 2, 1)), (1102, (.aload_n 0, 1)), (1103, (.iload 4, 2)), (1105, (.iconst 1, 1)), (1106, (.iadd, 1)), (1107, (.iaload, 1)), (1108, (.invokevirtual 169, 3)), (1111, (.istore 6, 2)), (1113, (.aload_n 2, 1)), (1114, (.invokevirtual 124, 3)), (1117, (.iload 5, 2)), (1119, (.if_icmp .eq 5, 3)), (1122, (.iconst 0, 1)), (1123, (.ireturn, 1)), (1124, (.iload 5, 2)), (1126, (.ifCond .ne 15, 3)), (1129, (.aload_n 3, 1)), (1130, (.iconst 0, 1)), (1131, (.laload, 1)), (1132, (.iload 6, 2)), (1134, (.i2l, 1)), (1135, (.lcmp, 1)), (1136, (.ifCond .eq 5, 3)), (1139, (.iconst 0, 1)), (1140, (.ireturn, 1)), (1141, (.goto 1137, 3)), (1144, (.aload_n 1, 1)), (1145, (.aload_n 0, 1)), (1146, (.iload 4, 2)), (1148, (.iconst 1, 1)), (1149, (.iadd, 1)), (1150, (.iaload, 1)), (1151, (.aload_n 3, 1)), (1152, (.invokestatic 170, 3)), (1155, (.istore 5, 2)), (1157, (.aload_n 2, 1)), (1158, (.aload_n 0, 1)), (1159, (.iload 4, 2)), (1161, (.iconst 1, 1)), (1162, (.iadd, 1)), (1163, (.iaload, 1)), (1164, (.invokevirtual 172, 3)), (1167, (.istore 6, 2)), (1169, (.aload_n 2, 1)), (1170, (.invokevirtual 124, 3)), (1173, (.iload 5, 2)), (1175, (.if_icmp .eq 5, 3)), (1178, (.iconst 0, 1)), (1179, (.ireturn, 1)), (1180, (.iload 5, 2)), (1182, (.ifCond .ne 22, 3)), (1185, (.aload_n 3, 1)), (1186, (.iconst 0, 1)), (1187, (.laload, 1)), (1188, (.iload 6, 2)), (1190, (.ifCond .eq 7, 3)), (1193, (.lconst 1, 1)), (1194, (.goto 4, 3)), (1197, (.lconst 0, 1)), (1198, (.lcmp, 1)), (1199, (.ifCond .eq 5, 3)), (1202, (.iconst 0, 1)), (1203, (.ireturn, 1))]
theorem tL_law_6 : pL_law_6.all (fun q => decide (decode cL_law q.1 = .ok q.2)) = true := by decide +kernel
def pL_law_7 : List (Nat × (Instr × Nat)) := [(1204, (.goto 1074, 3)), (1207, (.aload_n 1, 1)), (1208, (.aload_n 0, 1)), (1209, (.iload 4, 2)), (1211, (.iconst 1, 1)), (1212, (.iadd, 1)), (1213, (.iaload, 1)), (1214, (.aload_n 0, 1)), (1215, (.iload 4, 2)), (1217, (.iconst 2, 1)), (1218, (.iadd, 1)), (1219, (.iaload, 1)), (1220, (.aload_n 3, 1)), (1221, (.invokestatic 173, 3)), (1224, (.istore 5, 2)), (1226, (.aload_n 2, 1)), (1227, (.aload_n 0, 1)), (1228, (.iload 4, 2)), (1230, (.iconst 1, 1)), (1231, (.iadd, 1)), (1232, (.iaload, 1)), (1233, (.aload_n 0, 1)), (1234, (.iload 4, 2)), (1236, (.iconst 2, 1)), (1237, (.iadd, 1)), (1238, (.iaload, 1)), (1239, (.invokevirtual 175, 3)), (1242, (.istore 6, 2)), (1244, (.aload_n 2, 1)), (1245, (.invokevirtual 124, 3)), (1248, (.iload 5, 2)), (1250, (.if_icmp .eq 5, 3)), (1253, (.iconst 0, 1)), (1254, (.ireturn, 1)), (1255, (.iload 5, 2)), (1257, (.ifCond .ne 15, 3)), (1260, (.aload_n 3, 1)), (1261, (.iconst 0, 1)), (1262, (.laload, 1)), (1263, (.iload 6, 2)), (1265, (.i2l, 1)), (1266, (.lcmp, 1)), (1267, (.ifCond .eq 5, 3)), (1270, (.iconst 0, 1)), (1271, (.ireturn, 1)), (1272, (.goto 1006, 3)), (1275, (.aload_n 1, 1)), (1276, (.aload_n 0, 1)), (1277, (.iload 4, 2)), (1279, (.iconst 1, 1)), (1280, (.iadd, 1)), (1281, (.iaload, 1)), (1282, (.aload_n 0, 1)), (1283, (.iload 4, 2)), (1285, (.iconst 2, 1)), (1286, (.iadd, 1)), (1287, (.iaload, 1)), (1288, (.aload_n 3, 1)), (1289, (.invokestatic 176, 3)), (1292, (.istore 5, 2)), (1294, (.aload_n 2, 1)), (1295, (.aload_n 0, 1)), (1296, (.iload 4, 2)), (1298, (.iconst 1, 1)), (1299, (.iadd, 1)), (1300, (.iaload, 1)), (1301, (.aload_n 0, 1)), (1302, (.iload 4, 2)), (1304, (.iconst 2, 1)), (1305, (.iadd, 1)), (1306, (.iaload, 1)), (1307, (.invokevirtual 178, 3)), (1310, (.istore 6, 2)), (1312, (.aload_n 2, 1)), (1313, (.invokevirtual 124, 3)), (1316, (.iload 5, 2)), (1318, (.if_icmp .eq 5, 3)), (1321, (.iconst 0, 1)), (1322, (.ireturn, 1)), (1323, (.iload 5, 2)), (1325, (.ifCond .ne 15, 3)), (1328, (.aload_n 3, 1)), (1329, (.iconst 0, 1)), (1330, (.laload, 1)), (1331, (.iload 6, 2)), (1333, (.i2l, 1)), (1334, (.lcmp, 1)), (1335, (.ifCond .eq 5, 3)), (1338, (.iconst 0, 1)), (1339, (.ireturn, 1)), (1340, (.goto 938, 3)), (1343, (.aload_n 1, 1)), (1344, (.aload_n 0, 1)), (1345, (.iload 4, 2)), (1347, (.iconst 1, 1)), (1348, (.iadd, 1)), (1349, (.iaload, 1)), (1350, (.aload_n 0, 1)), (1351, (.iload 4, 2)), (1353, (.iconst 2, 1))]
theorem tL_law_7 : pL_law_7.all (fun q => decide (decode cL_law q.1 = .ok q.2)) = true := by decide +kernel
def pL_law_8 : List (Nat × (Instr × Nat)) := [(1354, (.iadd, 1)), (1355, (.iaload, 1)), (1356, (.aload_n 3, 1)), (1357, (.invokestatic 179, 3)), (1360, (.istore 5, 2)), (1362, (.aload_n 2, 1)), (1363, (.aload_n 0, 1)), (1364, (.iload 4, 2)), (1366, (.iconst 1, 1)), (1367, (.iadd, 1)), (1368, (.iaload, 1)), (1369, (.aload_n 0, 1)), (1370, (.iload 4, 2)), (1372, (.iconst 2, 1)), (1373, (.iadd, 1)), (1374, (.iaload, 1)), (1375, (.invokevirtual 181, 3)), (1378, (.istore 6, 2)), (1380, (.aload_n 2, 1)), (1381, (.invokevirtual 124, 3)), (1384, (.iload 5, 2)), (1386, (.if_icmp .eq 5, 3)), (1389, (.iconst 0, 1)), (1390, (.ireturn, 1)), (1391, (.iload 5, 2)), (1393, (.ifCond .ne 15, 3)), (1396, (.aload_n 3, 1)), (1397, (.iconst 0, 1)), (1398, (.laload, 1)), (1399, (.iload 6, 2)), (1401, (.i2l, 1)), (1402, (.lcmp, 1)), (1403, (.ifCond .eq 5, 3)), (1406, (.iconst 0, 1)), (1407, (.ireturn, 1)), (1408, (.goto 870, 3)), (1411, (.aload_n 1, 1)), (1412, (.aload_n 0, 1)), (1413, (.iload 4, 2)), (1415, (.iconst 1, 1)), (1416, (.iadd, 1)), (1417, (.iaload, 1)), (1418, (.aload_n 0, 1)), (1419, (.iload 4, 2)), (1421, (.iconst 2, 1)), (1422, (.iadd, 1)), (1423, (.iaload, 1)), (1424, (.aload_n 0, 1)), (1425, (.iload 4, 2)), (1427, (.iconst 3, 1)), (1428, (.iadd, 1)), (1429, (.iaload, 1)), (1430, (.aload_n 3, 1)), (1431, (.invokestatic 182, 3)), (1434, (.istore 5, 2)), (1436, (.aload_n 2, 1)), (1437, (.aload_n 0, 1)), (1438, (.iload 4, 2)), (1440, (.iconst 1, 1)), (1441, (.iadd, 1)), (1442, (.iaload, 1)), (1443, (.aload_n 0, 1)), (1444, (.iload 4, 2)), (1446, (.iconst 2, 1)), (1447, (.iadd, 1)), (1448, (.iaload, 1)), (1449, (.aload_n 0, 1)), (1450, (.iload 4, 2)), (1452, (.iconst 3, 1)), (1453, (.iadd, 1)), (1454, (.iaload, 1)), (1455, (.invokevirtual 184, 3)), (1458, (.istore 6, 2)), (1460, (.aload_n 2, 1)), (1461, (.invokevirtual 124, 3)), (1464, (.iload 5, 2)), (1466, (.if_icmp .eq 5, 3)), (1469, (.iconst 0, 1)), (1470, (.ireturn, 1)), (1471, (.iload 5, 2)), (1473, (.ifCond .ne 15, 3)), (1476, (.aload_n 3, 1)), (1477, (.iconst 0, 1)), (1478, (.laload, 1)), (1479, (.iload 6, 2)), (1481, (.i2l, 1)), (1482, (.lcmp, 1)), (1483, (.ifCond .eq 5, 3)), (1486, (.iconst 0, 1)), (1487, (.ireturn, 1)), (1488, (.goto 790, 3)), (1491, (.aload_n 1, 1)), (1492, (.aload_n 0, 1)), (1493, (.iload 4, 2)), (1495, (.iconst 1, 1)), (1496, (.iadd, 1)), (1497, (.iaload, 1)), (1498, (.aload_n 0, 1)), (1499, (.iload 4, 2)), (1501, (.iconst 2, 1))]
theorem tL_law_8 : pL_law_8.all (fun q => decide (decode cL_law q.1 = .ok q.2)) = true := by decide +kernel
def pL_law_9 : List (Nat × (Instr × Nat)) := [(1502, (.iadd, 1)), (1503, (.iaload, 1)), (1504, (.aload_n 3, 1)), (1505, (.invokestatic 185, 3)), (1508, (.istore 5, 2)), (1510, (.aload_n 2, 1)), (1511, (.aload_n 0, 1)), (1512, (.iload 4, 2)), (1514, (.iconst 1, 1)), (1515, (.iadd, 1)), (1516, (.iaload, 1)), (1517, (.aload_n 0, 1)), (1518, (.iload 4, 2)), (1520, (.iconst 2, 1)), (1521, (.iadd, 1)), (1522, (.iaload, 1)), (1523, (.invokevirtual 187, 3)), (1526, (.istore 6, 2)), (1528, (.aload_n 2, 1)), (1529, (.invokevirtual 124, 3)), (1532, (.iload 5, 2)), (1534, (.if_icmp .eq 5, 3)), (1537, (.iconst 0, 1)), (1538, (.ireturn, 1)), (1539, (.iload 5, 2)), (1541, (.ifCond .ne 15, 3)), (1544, (.aload_n 3, 1)), (1545, (.iconst 0, 1)), (1546, (.laload, 1)), (1547, (.iload 6, 2)), (1549, (.i2l, 1)), (1550, (.lcmp, 1)), (1551, (.ifCond .eq 5, 3)), (1554, (.iconst 0, 1)), (1555, (.ireturn, 1)), (1556, (.goto 722, 3)), (1559, (.aload_n 1, 1)), (1560, (.aload_n 0, 1)), (1561, (.iload 4, 2)), (1563, (.iconst 1, 1)), (1564, (.iadd, 1)), (1565, (.iaload, 1)), (1566, (.aload_n 0, 1)), (1567, (.iload 4, 2)), (1569, (.iconst 2, 1)), (1570, (.iadd, 1)), (1571, (.iaload, 1)), (1572, (.aload_n 3, 1)), (1573, (.invokestatic 188, 3)), (1576, (.istore 5, 2)), (1578, (.aload_n 2, 1)), (1579, (.aload_n 0, 1)), (1580, (.iload 4, 2)), (1582, (.iconst 1, 1)), (1583, (.iadd, 1)), (1584, (.iaload, 1)), (1585, (.aload_n 0, 1)), (1586, (.iload 4, 2)), (1588, (.iconst 2, 1)), (1589, (.iadd, 1)), (1590, (.iaload, 1)), (1591, (.invokevirtual 190, 3)), (1594, (.istore 6, 2)), (1596, (.aload_n 2, 1)), (1597, (.invokevirtual 124, 3)), (1600, (.iload 5, 2)), (1602, (.if_icmp .eq 5, 3)), (1605, (.iconst 0, 1)), (1606, (.ireturn, 1)), (1607, (.iload 5, 2)), (1609, (.ifCond .ne 15, 3)), (1612, (.aload_n 3, 1)), (1613, (.iconst 0, 1)), (1614, (.laload, 1)), (1615, (.iload 6, 2)), (1617, (.i2l, 1)), (1618, (.lcmp, 1)), (1619, (.ifCond .eq 5, 3)), (1622, (.iconst 0, 1)), (1623, (.ireturn, 1)), (1624, (.goto 654, 3)), (1627, (.aload_n 1, 1)), (1628, (.aload_n 0, 1)), (1629, (.iload 4, 2)), (1631, (.iconst 1, 1)), (1632, (.iadd, 1)), (1633, (.iaload, 1)), (1634, (.aload_n 0, 1)), (1635, (.iload 4, 2)), (1637, (.iconst 2, 1)), (1638, (.iadd, 1)), (1639, (.iaload, 1)), (1640, (.aload_n 3, 1)), (1641, (.invokestatic 191, 3)), (1644, (.istore 5, 2)), (1646, (.aload_n 2, 1)), (1647, (.aload_n 0, 1)), (1648, (.iload 4, 2)), (1650, (.iconst 1, 1)), (1651, (.iadd, 1))]
theorem tL_law_9 : pL_law_9.all (fun q => decide (decode cL_law q.1 = .ok q.2)) = true := by decide +kernel
def pL_law_10 : List (Nat × (Instr × Nat)) := [(1652, (.iaload, 1)), (1653, (.aload_n 0, 1)), (1654, (.iload 4, 2)), (1656, (.iconst 2, 1)), (1657, (.iadd, 1)), (1658, (.iaload, 1)), (1659, (.invokevirtual 193, 3)), (1662, (.istore 6, 2)), (1664, (.aload_n 2, 1)), (1665, (.invokevirtual 124, 3)), (1668, (.iload 5, 2)), (1670, (.if_icmp .eq 5, 3)), (1673, (.iconst 0, 1)), (1674, (.ireturn, 1)), (1675, (.iload 5, 2)), (1677, (.ifCond .ne 22, 3)), (1680, (.aload_n 3, 1)), (1681, (.iconst 0, 1)), (1682, (.laload, 1)), (1683, (.iload 6, 2)), (1685, (.ifCond .eq 7, 3)), (1688, (.lconst 1, 1)), (1689, (.goto 4, 3)), (1692, (.lconst 0, 1)), (1693, (.lcmp, 1)), (1694, (.ifCond .eq 5, 3)), (1697, (.iconst 0, 1)), (1698, (.ireturn, 1)), (1699, (.goto 579, 3)), (1702, (.aload_n 1, 1)), (1703, (.aload_n 0, 1)), (1704, (.iload 4, 2)), (1706, (.iconst 1, 1)), (1707, (.iadd, 1)), (1708, (.iaload, 1)), (1709, (.aload_n 0, 1)), (1710, (.iload 4, 2)), (1712, (.iconst 2, 1)), (1713, (.iadd, 1)), (1714, (.iaload, 1)), (1715, (.aload_n 3, 1)), (1716, (.invokestatic 194, 3)), (1719, (.istore 5, 2)), (1721, (.aload_n 2, 1)), (1722, (.aload_n 0, 1)), (1723, (.iload 4, 2)), (1725, (.iconst 1, 1)), (1726, (.iadd, 1)), (1727, (.iaload, 1)), (1728, (.aload_n 0, 1)), (1729, (.iload 4, 2)), (1731, (.iconst 2, 1)), (1732, (.iadd, 1)), (1733, (.iaload, 1)), (1734, (.invokevirtual 196, 3)), (1737, (.istore 6, 2)), (1739, (.aload_n 2, 1)), (1740, (.invokevirtual 124, 3)), (1743, (.iload 5, 2)), (1745, (.if_icmp .eq 5, 3)), (1748, (.iconst 0, 1)), (1749, (.ireturn, 1)), (1750, (.iload 5, 2)), (1752, (.ifCond .ne 15, 3)), (1755, (.aload_n 3, 1)), (1756, (.iconst 0, 1)), (1757, (.laload, 1)), (1758, (.iload 6, 2)), (1760, (.i2l, 1)), (1761, (.lcmp, 1)), (1762, (.ifCond .eq 5, 3)), (1765, (.iconst 0, 1)), (1766, (.ireturn, 1)), (1767, (.goto 511, 3)), (1770, (.aload_n 1, 1)), (1771, (.aload_n 0, 1)), (1772, (.iload 4, 2)), (1774, (.iconst 1, 1)), (1775, (.iadd, 1)), (1776, (.iaload, 1)), (1777, (.aload_n 0, 1)), (1778, (.iload 4, 2)), (1780, (.iconst 2, 1)), (1781, (.iadd, 1)), (1782, (.iaload, 1)), (1783, (.aload_n 0, 1)), (1784, (.iload 4, 2)), (1786, (.iconst 3, 1)), (1787, (.iadd, 1)), (1788, (.iaload, 1)), (1789, (.aload_n 3, 1)), (1790, (.invokestatic 197, 3)), (1793, (.istore 5, 2)), (1795, (.aload_n 2, 1)), (1796, (.aload_n 0, 1)), (1797, (.iload 4, 2)), (1799, (.iconst 1, 1)), (1800, (.iadd, 1)), (1801, (.iaload, 1)), (1802, (.aload_n 0, 1))]
theorem tL_law_10 : pL_law_10.all (fun q => decide (decode cL_law q.1 = .ok q.2)) = true := by decide +kernel
def pL_law_11 : List (Nat × (Instr × Nat)) := [(1803, (.iload 4, 2)), (1805, (.iconst 2, 1)), (1806, (.iadd, 1)), (1807, (.iaload, 1)), (1808, (.aload_n 0, 1)), (1809, (.iload 4, 2)), (1811, (.iconst 3, 1)), (1812, (.iadd, 1)), (1813, (.iaload, 1)), (1814, (.invokevirtual 199, 3)), (1817, (.istore 6, 2)), (1819, (.aload_n 2, 1)), (1820, (.invokevirtual 124, 3)), (1823, (.iload 5, 2)), (1825, (.if_icmp .eq 5, 3)), (1828, (.iconst 0, 1)), (1829, (.ireturn, 1)), (1830, (.iload 5, 2)), (1832, (.ifCond .ne 15, 3)), (1835, (.aload_n 3, 1)), (1836, (.iconst 0, 1)), (1837, (.laload, 1)), (1838, (.iload 6, 2)), (1840, (.i2l, 1)), (1841, (.lcmp, 1)), (1842, (.ifCond .eq 5, 3)), (1845, (.iconst 0, 1)), (1846, (.ireturn, 1)), (1847, (.goto 431, 3)), (1850, (.aload_n 1, 1)), (1851, (.aload_n 0, 1)), (1852, (.iload 4, 2)), (1854, (.iconst 1, 1)), (1855, (.iadd, 1)), (1856, (.iaload, 1)), (1857, (.aload_n 3, 1)), (1858, (.invokestatic 200, 3)), (1861, (.istore 5, 2)), (1863, (.aload_n 2, 1)), (1864, (.aload_n 0, 1)), (1865, (.iload 4, 2)), (1867, (.iconst 1, 1)), (1868, (.iadd, 1)), (1869, (.iaload, 1)), (1870, (.invokevirtual 202, 3)), (1873, (.istore 6, 2)), (1875, (.aload_n 2, 1)), (1876, (.invokevirtual 124, 3)), (1879, (.iload 5, 2)), (1881, (.if_icmp .eq 5, 3)), (1884, (.iconst 0, 1)), (1885, (.ireturn, 1)), (1886, (.iload 5, 2)), (1888, (.ifCond .ne 15, 3)), (1891, (.aload_n 3, 1)), (1892, (.iconst 0, 1)), (1893, (.laload, 1)), (1894, (.iload 6, 2)), (1896, (.i2l, 1)), (1897, (.lcmp, 1)), (1898, (.ifCond .eq 5, 3)), (1901, (.iconst 0, 1)), (1902, (.ireturn, 1)), (1903, (.goto 375, 3)), (1906, (.aload_n 1, 1)), (1907, (.aload_n 0, 1)), (1908, (.iload 4, 2)), (1910, (.iconst 1, 1)), (1911, (.iadd, 1)), (1912, (.iaload, 1)), (1913, (.aload_n 3, 1)), (1914, (.invokestatic 203, 3)), (1917, (.istore 5, 2)), (1919, (.aload_n 2, 1)), (1920, (.aload_n 0, 1)), (1921, (.iload 4, 2)), (1923, (.iconst 1, 1)), (1924, (.iadd, 1)), (1925, (.iaload, 1)), (1926, (.invokevirtual 205, 3)), (1929, (.istore 6, 2)), (1931, (.aload_n 2, 1)), (1932, (.invokevirtual 124, 3)), (1935, (.iload 5, 2)), (1937, (.if_icmp .eq 5, 3)), (1940, (.iconst 0, 1)), (1941, (.ireturn, 1)), (1942, (.iload 5, 2)), (1944, (.ifCond .ne 15, 3)), (1947, (.aload_n 3, 1)), (1948, (.iconst 0, 1)), (1949, (.laload, 1)), (1950, (.iload 6, 2)), (1952, (.i2l, 1)), (1953, (.lcmp, 1)), (1954, (.ifCond .eq 5, 3)), (1957, (.iconst 0, 1)), (1958, (.ireturn, 1)), (1959, (.goto 319, 3)), (1962, (.aload_n 1, 1))]
theorem tL_law_11 : pL_law_11.all (fun q => decide (decode cL_law q.1 = .ok q.2)) = true := by decide +kernel
def pL_law_12 : List (Nat × (Instr × Nat)) := [(1963, (.aload_n 0, 1)), (1964, (.iload 4, 2)), (1966, (.iconst 1, 1)), (1967, (.iadd, 1)), (1968, (.iaload, 1)), (1969, (.aload_n 0, 1)), (1970, (.iload 4, 2)), (1972, (.iconst 2, 1)), (1973, (.iadd, 1)), (1974, (.iaload, 1)), (1975, (.aload_n 3, 1)), (1976, (.invokestatic 206, 3)), (1979, (.istore 5, 2)), (1981, (.aload_n 2, 1)), (1982, (.aload_n 0, 1)), (1983, (.iload 4, 2)), (1985, (.iconst 1, 1)), (1986, (.iadd, 1)), (1987, (.iaload, 1)), (1988, (.aload_n 0, 1)), (1989, (.iload 4, 2)), (1991, (.iconst 2, 1)), (1992, (.iadd, 1)), (1993, (.iaload, 1)), (1994, (.invokevirtual 208, 3)), (1997, (.istore 6, 2)), (1999, (.aload_n 2, 1)), (2000, (.invokevirtual 124, 3)), (2003, (.iload 5, 2)), (2005, (.if_icmp .eq 5, 3)), (2008, (.iconst 0, 1)), (2009, (.ireturn, 1)), (2010, (.iload 5, 2)), (2012, (.ifCond .ne 15, 3)), (2015, (.aload_n 3, 1)), (2016, (.iconst 0, 1)), (2017, (.laload, 1)), (2018, (.iload 6, 2)), (2020, (.i2l, 1)), (2021, (.lcmp, 1)), (2022, (.ifCond .eq 5, 3)), (2025, (.iconst 0, 1)), (2026, (.ireturn, 1)), (2027, (.goto 251, 3)), (2030, (.aload_n 1, 1)), (2031, (.aload_n 0, 1)), (2032, (.iload 4, 2)), (2034, (.iconst 1, 1)), (2035, (.iadd, 1)), (2036, (.iaload, 1)), (2037, (.aload_n 0, 1)), (2038, (.iload 4, 2)), (2040, (.iconst 2, 1)), (2041, (.iadd, 1)), (2042, (.iaload, 1)), (2043, (.aload_n 3, 1)), (2044, (.invokestatic 209, 3)), (2047, (.istore 5, 2)), (2049, (.aload_n 2, 1)), (2050, (.aload_n 0, 1)), (2051, (.iload 4, 2)), (2053, (.iconst 1, 1)), (2054, (.iadd, 1)), (2055, (.iaload, 1)), (2056, (.aload_n 0, 1)), (2057, (.iload 4, 2)), (2059, (.iconst 2, 1)), (2060, (.iadd, 1)), (2061, (.iaload, 1)), (2062, (.invokevirtual 211, 3)), (2065, (.istore 6, 2)), (2067, (.aload_n 2, 1)), (2068, (.invokevirtual 124, 3)), (2071, (.iload 5, 2)), (2073, (.if_icmp .eq 5, 3)), (2076, (.iconst 0, 1)), (2077, (.ireturn, 1)), (2078, (.iload 5, 2)), (2080, (.ifCond .ne 15, 3)), (2083, (.aload_n 3, 1)), (2084, (.iconst 0, 1)), (2085, (.laload, 1)), (2086, (.iload 6, 2)), (2088, (.i2l, 1)), (2089, (.lcmp, 1)), (2090, (.ifCond .eq 5, 3)), (2093, (.iconst 0, 1)), (2094, (.ireturn, 1)), (2095, (.goto 183, 3)), (2098, (.aload_n 1, 1)), (2099, (.aload_n 0, 1)), (2100, (.iload 4, 2)), (2102, (.iconst 1, 1)), (2103, (.iadd, 1)), (2104, (.iaload, 1)), (2105, (.aload_n 0, 1)), (2106, (.iload 4, 2)), (2108, (.iconst 2, 1)), (2109, (.iadd, 1)), (2110, (.iaload, 1))]
theorem tL_law_12 : pL_law_12.all (fun q => decide (decode cL_law q.1 = .ok q.2)) = true := by decide +kernel
def pL_law_13 : List (Nat × (Instr × Nat)) := [(2111, (.aload_n 3, 1)), (2112, (.invokestatic 212, 3)), (2115, (.istore 5, 2)), (2117, (.aload_n 2, 1)), (2118, (.aload_n 0, 1)), (2119, (.iload 4, 2)), (2121, (.iconst 1, 1)), (2122, (.iadd, 1)), (2123, (.iaload, 1)), (2124, (.aload_n 0, 1)), (2125, (.iload 4, 2)), (2127, (.iconst 2, 1)), (2128, (.iadd, 1)), (2129, (.iaload, 1)), (2130, (.invokevirtual 214, 3)), (2133, (.istore 6, 2)), (2135, (.aload_n 2, 1)), (2136, (.invokevirtual 124, 3)), (2139, (.iload 5, 2)), (2141, (.if_icmp .eq 5, 3)), (2144, (.iconst 0, 1)), (2145, (.ireturn, 1)), (2146, (.iload 5, 2)), (2148, (.ifCond .ne 15, 3)), (2151, (.aload_n 3, 1)), (2152, (.iconst 0, 1)), (2153, (.laload, 1)), (2154, (.iload 6, 2)), (2156, (.i2l, 1)), (2157, (.lcmp, 1)), (2158, (.ifCond .eq 5, 3)), (2161, (.iconst 0, 1)), (2162, (.ireturn, 1)), (2163, (.goto 115, 3)), (2166, (.aload_n 1, 1)), (2167, (.aload_n 0, 1)), (2168, (.iload 4, 2)), (2170, (.iconst 1, 1)), (2171, (.iadd, 1)), (2172, (.iaload, 1)), (2173, (.aload_n 3, 1)), (2174, (.invokestatic 215, 3)), (2177, (.istore 5, 2)), (2179, (.aload_n 2, 1)), (2180, (.aload_n 0, 1)), (2181, (.iload 4, 2)), (2183, (.iconst 1, 1)), (2184, (.iadd, 1)), (2185, (.iaload, 1)), (2186, (.invokevirtual 217, 3)), (2189, (.istore 6, 2)), (2191, (.aload_n 2, 1)), (2192, (.invokevirtual 124, 3)), (2195, (.iload 5, 2)), (2197, (.if_icmp .eq 5, 3)), (2200, (.iconst 0, 1)), (2201, (.ireturn, 1)), (2202, (.iload 5, 2)), (2204, (.ifCond .ne 15, 3)), (2207, (.aload_n 3, 1)), (2208, (.iconst 0, 1)), (2209, (.laload, 1)), (2210, (.iload 6, 2)), (2212, (.i2l, 1)), (2213, (.lcmp, 1)), (2214, (.ifCond .eq 5, 3)), (2217, (.iconst 0, 1)), (2218, (.ireturn, 1)), (2219, (.goto 59, 3)), (2222, (.aload_n 1, 1)), (2223, (.aload_n 0, 1)), (2224, (.iload 4, 2)), (2226, (.iconst 1, 1)), (2227, (.iadd, 1)), (2228, (.iaload, 1)), (2229, (.aload_n 3, 1)), (2230, (.invokestatic 218, 3)), (2233, (.istore 5, 2)), (2235, (.aload_n 2, 1)), (2236, (.aload_n 0, 1)), (2237, (.iload 4, 2)), (2239, (.iconst 1, 1)), (2240, (.iadd, 1)), (2241, (.iaload, 1)), (2242, (.invokevirtual 220, 3)), (2245, (.istore 6, 2)), (2247, (.aload_n 2, 1)), (2248, (.invokevirtual 124, 3)), (2251, (.iload 5, 2)), (2253, (.if_icmp .eq 5, 3)), (2256, (.iconst 0, 1)), (2257, (.ireturn, 1)), (2258, (.iload 5, 2)), (2260, (.ifCond .ne 15, 3)), (2263, (.aload_n 3, 1)), (2264, (.iconst 0, 1)), (2265, (.laload, 1)), (2266, (.iload 6, 2)), (2268, (.i2l, 1)), (2269, (.lcmp, 1))]
theorem tL_law_13 : pL_law_13.all (fun q => decide (decode cL_law q.1 = .ok q.2)) = true := by decide +kernel
def pL_law_14 : List (Nat × (Instr × Nat)) := [(2270, (.ifCond .eq 5, 3)), (2273, (.iconst 0, 1)), (2274, (.ireturn, 1)), (2275, (.goto 3, 3)), (2278, (.iinc 4 4, 3)), (2281, (.goto (-2258), 3)), (2284, (.iconst 1, 1)), (2285, (.ireturn, 1))]
theorem tL_law_14 : pL_law_14.all (fun q => decide (decode cL_law q.1 = .ok q.2)) = true := by decide +kernel
end
section
def Gw : List Cond := lw_tbl.filter goodWord
theorem gw {w : Cond} {i : Nat} (h : lw_tbl[i]? = some w) (g : goodWord w = true) : w ∈ Gw := List.mem_filter.mpr ⟨List.mem_of_getElem? h, g⟩
theorem gwc {c : List Cond} (h : ∀ w ∈ c, w ∈ lw_tbl) {w : Cond} {i : Nat} (hi : c[i]? = some w) (g : goodWord w = true) : w ∈ Gw := List.mem_filter.mpr ⟨h w (List.mem_of_getElem? hi), g⟩
theorem gw_good {w : Cond} (h : w ∈ Gw) : (w.onTables && w.keeps) = true ∨ ∃ ty, w = .arrayClass ty := good_of_word (List.mem_filter.mp h).2
theorem gw_r (ws : List Cond) (ps : List Nat) (hp : ws = ps.filterMap (fun i => lw_tbl[i]?)) (h : ws.all goodWord = true) : ∀ w ∈ ws, w ∈ Gw := by
  intro w hw
  have h1 := List.all_eq_true.mp h w hw
  rw [hp] at hw
  obtain ⟨i, -, hi⟩ := List.mem_filterMap.mp hw
  exact gw hi h1
def gc_0_0 : List Cond := [Cond.initialized RL, Cond.initialized RX9, Cond.initialized RX0, Cond.initialized RX2, Cond.initialized RJ7, Cond.initialized RX8, Cond.initialized RX4, Cond.initialized RX1, Cond.initialized RX5, Cond.initialized RX7, Cond.initialized RX3, Cond.initialized RX6, Cond.initialized RX10, Cond.initialized "java/lang/Throwable", Cond.initialized "java/lang/Exception", Cond.initialized "java/lang/RuntimeException", Cond.initialized "java/lang/IndexOutOfBoundsException", Cond.initialized "java/lang/IllegalArgumentException", Cond.initialized "java/lang/IllegalStateException", Cond.initialized "java/lang/Math", Cond.initialized RJ6, Cond.initialized "java/lang/System", Cond.classLink RL 8 RX9, Cond.instantiable RX9 6, Cond.methodLink RL 114 yX9_init, Cond.instanceMethod yX9_init, Cond.code yX9_init cX9_init 1 none, Cond.methodLink RX9 3 objectInit, Cond.instanceMethod objectInit, Cond.code objectInit ⟨#[0xb1]⟩ 1 none, Cond.classLink RX9 9 RX0, Cond.instantiable RX0 9, Cond.methodLink RX9 11 yX0_init, Cond.instanceMethod yX0_init, Cond.code yX0_init cX0_init 1 none, Cond.methodLink RX0 3 objectInit, Cond.classLink RX0 9 RX2, Cond.instantiable RX2 8, Cond.methodLink RX0 11 yX2_init, Cond.instanceMethod yX2_init]
def gc_0_1 : List Cond := [Cond.code yX2_init cX2_init 1 none, Cond.methodLink RX2 3 objectInit, Cond.methodLink RX2 18 yJ7_fill_53178, Cond.static yJ7_fill_53178, Cond.code yJ7_fill_53178 cJ7_fill_53178 4 none, Cond.fieldLink RX2 9 RX2 "kind" "[I", Cond.fieldLink RX9 93 RX2 "kind" "[I", Cond.fieldLink RX2 15 RX2 "depth" "[I", Cond.fieldLink RX7 21 RX2 "depth" "[I", Cond.fieldLink RX9 106 RX2 "depth" "[I", Cond.fieldLink RX2 24 RX2 "fresh" "[I", Cond.fieldLink RX7 27 RX2 "fresh" "[I", Cond.fieldLink RX5 74 RX2 "fresh" "[I", Cond.fieldLink RX0 98 RX2 "fresh" "[I", Cond.fieldLink RX9 143 RX2 "fresh" "[I", Cond.fieldLink RX2 27 RX2 "thick" "[I", Cond.fieldLink RX7 34 RX2 "thick" "[I", Cond.fieldLink RX5 81 RX2 "thick" "[I", Cond.fieldLink RX0 111 RX2 "thick" "[I", Cond.fieldLink RX9 146 RX2 "thick" "[I", Cond.fieldLink RX2 30 RX2 "stranded" "[I", Cond.fieldLink RX5 130 RX2 "stranded" "[I", Cond.fieldLink RX9 149 RX2 "stranded" "[I", Cond.fieldLink RX0 158 RX2 "stranded" "[I", Cond.fieldLink RX2 33 RX2 "birds" "[I", Cond.fieldLink RX9 152 RX2 "birds" "[I", Cond.fieldLink RX2 36 RX2 "oiled" "[I", Cond.fieldLink RX9 155 RX2 "oiled" "[I", Cond.fieldLink RX2 39 RX2 "signatures" "[I", Cond.fieldLink RX9 158 RX2 "signatures" "[I", Cond.fieldLink RX0 185 RX2 "signatures" "[I", (Jvm.Cond.laysFinal "Slickboom$Cells" "Slickboom$Cells" "kind" "[I"), (Jvm.Cond.soleField "Slickboom$Cells" "kind"), (Jvm.Cond.laysFinal "Slickboom$Cells" "Slickboom$Cells" "depth" "[I"), (Jvm.Cond.soleField "Slickboom$Cells" "depth"), (Jvm.Cond.laysFinal "Slickboom$Cells" "Slickboom$Cells" "fresh" "[I"), (Jvm.Cond.soleField "Slickboom$Cells" "fresh"), (Jvm.Cond.laysFinal "Slickboom$Cells" "Slickboom$Cells" "thick" "[I"), (Jvm.Cond.soleField "Slickboom$Cells" "thick"), (Jvm.Cond.laysFinal "Slickboom$Cells" "Slickboom$Cells" "stranded" "[I")]
def gc_0_2 : List Cond := [(Jvm.Cond.soleField "Slickboom$Cells" "stranded"), (Jvm.Cond.laysFinal "Slickboom$Cells" "Slickboom$Cells" "birds" "[I"), (Jvm.Cond.soleField "Slickboom$Cells" "birds"), (Jvm.Cond.laysFinal "Slickboom$Cells" "Slickboom$Cells" "oiled" "[I"), (Jvm.Cond.soleField "Slickboom$Cells" "oiled"), (Jvm.Cond.laysFinal "Slickboom$Cells" "Slickboom$Cells" "signatures" "[I"), (Jvm.Cond.soleField "Slickboom$Cells" "signatures"), (Jvm.Cond.superclass "Slickboom$Cells" "java/lang/Object"), Cond.arrayClass .int, Cond.classLink RX0 18 RX8, Cond.instantiable RX8 4, Cond.methodLink RX0 20 yX8_init, Cond.instanceMethod yX8_init, Cond.code yX8_init cX8_init 1 none, Cond.methodLink RX8 3 objectInit, Cond.fieldLink RX8 21 RX8 "count" "I", Cond.fieldLink RX0 88 RX8 "count" "I", Cond.fieldLink RX9 116 RX8 "count" "I", Cond.fieldLink RX5 112 RX8 "count" "I", Cond.fieldLink RX8 9 RX8 "cell" "[I", Cond.fieldLink RX0 101 RX8 "cell" "[I", Cond.fieldLink RX5 117 RX8 "cell" "[I", Cond.fieldLink RX8 15 RX8 "litres" "[I", Cond.fieldLink RX0 95 RX8 "litres" "[I", Cond.fieldLink RX9 133 RX8 "litres" "[I", Cond.fieldLink RX8 18 RX8 "rate" "[I", Cond.fieldLink RX9 125 RX8 "rate" "[I", (Jvm.Cond.lays "Slickboom$Ships" "Slickboom$Ships" "count" "I"), (Jvm.Cond.soleField "Slickboom$Ships" "count"), (Jvm.Cond.laysFinal "Slickboom$Ships" "Slickboom$Ships" "cell" "[I"), (Jvm.Cond.soleField "Slickboom$Ships" "cell"), (Jvm.Cond.laysFinal "Slickboom$Ships" "Slickboom$Ships" "litres" "[I"), (Jvm.Cond.soleField "Slickboom$Ships" "litres"), (Jvm.Cond.laysFinal "Slickboom$Ships" "Slickboom$Ships" "rate" "[I"), (Jvm.Cond.soleField "Slickboom$Ships" "rate"), (Jvm.Cond.superclass "Slickboom$Ships" "java/lang/Object"), Cond.classLink RX0 25 RX4, Cond.instantiable RX4 9, Cond.methodLink RX0 27 yX4_init, Cond.instanceMethod yX4_init]
def gc_0_3 : List Cond := [Cond.code yX4_init cX4_init 1 none, Cond.methodLink RX4 3 objectInit, Cond.fieldLink RX4 37 RX4 "count" "I", Cond.fieldLink RX5 133 RX4 "count" "I", Cond.fieldLink RX0 167 RX4 "count" "I", Cond.fieldLink RX9 185 RX4 "count" "I", Cond.fieldLink RX4 9 RX4 "sort" "[I", Cond.fieldLink RX0 168 RX4 "sort" "[I", Cond.fieldLink RX9 218 RX4 "sort" "[I", Cond.fieldLink RX4 15 RX4 "cell" "[I", Cond.fieldLink RX0 171 RX4 "cell" "[I", Cond.fieldLink RX9 189 RX4 "cell" "[I", Cond.fieldLink RX4 18 RX4 "way" "[I", Cond.fieldLink RX9 175 RX4 "way" "[I", Cond.fieldLink RX4 21 RX4 "power" "[I", Cond.fieldLink RX5 96 RX4 "power" "[I", Cond.fieldLink RX0 136 RX4 "power" "[I", Cond.fieldLink RX9 210 RX4 "power" "[I", Cond.fieldLink RX4 24 RX4 "store" "[I", Cond.fieldLink RX9 178 RX4 "store" "[I", Cond.fieldLink RX4 27 RX4 "tally" "[I", Cond.fieldLink RX0 139 RX4 "tally" "[I", Cond.fieldLink RX9 192 RX4 "tally" "[I", Cond.fieldLink RX4 30 RX4 "taught" "[Z", Cond.fieldLink RX9 181 RX4 "taught" "[Z", Cond.fieldLink RX4 34 RX4 "lastWork" "[I", (Jvm.Cond.lays "Slickboom$Means" "Slickboom$Means" "count" "I"), (Jvm.Cond.soleField "Slickboom$Means" "count"), (Jvm.Cond.laysFinal "Slickboom$Means" "Slickboom$Means" "sort" "[I"), (Jvm.Cond.soleField "Slickboom$Means" "sort"), (Jvm.Cond.laysFinal "Slickboom$Means" "Slickboom$Means" "cell" "[I"), (Jvm.Cond.soleField "Slickboom$Means" "cell"), (Jvm.Cond.laysFinal "Slickboom$Means" "Slickboom$Means" "way" "[I"), (Jvm.Cond.soleField "Slickboom$Means" "way"), (Jvm.Cond.laysFinal "Slickboom$Means" "Slickboom$Means" "power" "[I"), (Jvm.Cond.soleField "Slickboom$Means" "power"), (Jvm.Cond.laysFinal "Slickboom$Means" "Slickboom$Means" "store" "[I"), (Jvm.Cond.soleField "Slickboom$Means" "store"), (Jvm.Cond.laysFinal "Slickboom$Means" "Slickboom$Means" "tally" "[I"), (Jvm.Cond.soleField "Slickboom$Means" "tally")]
def gc_0_4 : List Cond := [(Jvm.Cond.laysFinal "Slickboom$Means" "Slickboom$Means" "taught" "[Z"), (Jvm.Cond.soleField "Slickboom$Means" "taught"), (Jvm.Cond.laysFinal "Slickboom$Means" "Slickboom$Means" "lastWork" "[I"), (Jvm.Cond.soleField "Slickboom$Means" "lastWork"), (Jvm.Cond.superclass "Slickboom$Means" "java/lang/Object"), Cond.arrayClass .boolean, Cond.classLink RX0 32 RX1, Cond.instantiable RX1 7, Cond.methodLink RX0 34 yX1_init, Cond.instanceMethod yX1_init, Cond.code yX1_init cX1_init 1 none, Cond.methodLink RX1 3 objectInit, Cond.fieldLink RX1 15 RX1 "leaked" "I", Cond.fieldLink RX9 304 RX1 "leaked" "I", Cond.fieldLink RX1 9 RX1 "firstLeak" "I", Cond.fieldLink RX0 194 RX1 "firstLeak" "I", Cond.fieldLink RX0 108 RX1 "air" "I", Cond.fieldLink RX9 316 RX1 "air" "I", Cond.fieldLink RX0 114 RX1 "sunk" "I", Cond.fieldLink RX9 319 RX1 "sunk" "I", Cond.fieldLink RX0 155 RX1 "out" "I", Cond.fieldLink RX9 322 RX1 "out" "I", Cond.fieldLink RX0 188 RX1 "deep" "I", Cond.fieldLink RX9 331 RX1 "deep" "I", Cond.fieldLink RX0 191 RX1 "burnt" "I", Cond.fieldLink RX9 334 RX1 "burnt" "I", (Jvm.Cond.lays "Slickboom$Books" "Slickboom$Books" "leaked" "I"), (Jvm.Cond.soleField "Slickboom$Books" "leaked"), (Jvm.Cond.lays "Slickboom$Books" "Slickboom$Books" "firstLeak" "I"), (Jvm.Cond.soleField "Slickboom$Books" "firstLeak"), (Jvm.Cond.lays "Slickboom$Books" "Slickboom$Books" "air" "I"), (Jvm.Cond.soleField "Slickboom$Books" "air"), (Jvm.Cond.lays "Slickboom$Books" "Slickboom$Books" "sunk" "I"), (Jvm.Cond.soleField "Slickboom$Books" "sunk"), (Jvm.Cond.lays "Slickboom$Books" "Slickboom$Books" "out" "I"), (Jvm.Cond.soleField "Slickboom$Books" "out"), (Jvm.Cond.lays "Slickboom$Books" "Slickboom$Books" "deep" "I"), (Jvm.Cond.soleField "Slickboom$Books" "deep"), (Jvm.Cond.lays "Slickboom$Books" "Slickboom$Books" "burnt" "I"), (Jvm.Cond.soleField "Slickboom$Books" "burnt")]
def gc_0_5 : List Cond := [(Jvm.Cond.superclass "Slickboom$Books" "java/lang/Object"), Cond.fieldLink RX0 12 RX0 "cells" "LSlickboom$Cells;", Cond.fieldLink RX7 15 RX0 "cells" "LSlickboom$Cells;", Cond.fieldLink RX9 89 RX0 "cells" "LSlickboom$Cells;", Cond.fieldLink RX5 56 RX0 "cells" "LSlickboom$Cells;", Cond.fieldLink RX0 21 RX0 "ships" "LSlickboom$Ships;", Cond.fieldLink RX9 68 RX0 "ships" "LSlickboom$Ships;", Cond.fieldLink RX5 108 RX0 "ships" "LSlickboom$Ships;", Cond.fieldLink RX0 28 RX0 "means" "LSlickboom$Means;", Cond.fieldLink RX9 78 RX0 "means" "LSlickboom$Means;", Cond.fieldLink RX5 84 RX0 "means" "LSlickboom$Means;", Cond.fieldLink RX0 35 RX0 "books" "LSlickboom$Books;", Cond.fieldLink RX9 300 RX0 "books" "LSlickboom$Books;", Cond.fieldLink RX9 57 RX0 "hour" "I", Cond.fieldLink RX0 60 RX0 "hour" "I", Cond.fieldLink RX5 68 RX0 "hour" "I", Cond.fieldLink RX0 39 RX0 "windWay" "I", Cond.fieldLink RX9 109 RX0 "windWay" "I", Cond.fieldLink RX5 88 RX0 "windWay" "I", Cond.fieldLink RX0 63 RX0 "windStrength" "I", Cond.fieldLink RX7 37 RX0 "windStrength" "I", Cond.fieldLink RX9 112 RX0 "windStrength" "I", Cond.fieldLink RX5 99 RX0 "windStrength" "I", Cond.fieldLink RX0 43 RX0 "freshGoes" "[I", Cond.fieldLink RX0 47 RX0 "thickGoes" "[I", (Jvm.Cond.laysFinal "Slickboom$Bay" "Slickboom$Bay" "cells" "LSlickboom$Cells;"), (Jvm.Cond.soleField "Slickboom$Bay" "cells"), (Jvm.Cond.laysFinal "Slickboom$Bay" "Slickboom$Bay" "ships" "LSlickboom$Ships;"), (Jvm.Cond.soleField "Slickboom$Bay" "ships"), (Jvm.Cond.laysFinal "Slickboom$Bay" "Slickboom$Bay" "means" "LSlickboom$Means;"), (Jvm.Cond.soleField "Slickboom$Bay" "means"), (Jvm.Cond.laysFinal "Slickboom$Bay" "Slickboom$Bay" "books" "LSlickboom$Books;"), (Jvm.Cond.soleField "Slickboom$Bay" "books"), (Jvm.Cond.lays "Slickboom$Bay" "Slickboom$Bay" "hour" "I"), (Jvm.Cond.soleField "Slickboom$Bay" "hour"), (Jvm.Cond.lays "Slickboom$Bay" "Slickboom$Bay" "windWay" "I"), (Jvm.Cond.soleField "Slickboom$Bay" "windWay"), (Jvm.Cond.lays "Slickboom$Bay" "Slickboom$Bay" "windStrength" "I"), (Jvm.Cond.soleField "Slickboom$Bay" "windStrength"), (Jvm.Cond.laysFinal "Slickboom$Bay" "Slickboom$Bay" "freshGoes" "[I")]
set_option maxRecDepth 100000 in
theorem tb_0 : tables_1_1 = gc_0_0 ++ (gc_0_1 ++ (gc_0_2 ++ (gc_0_3 ++ (gc_0_4 ++ (gc_0_5))))) := rfl
theorem in_0_0 : ∀ w ∈ gc_0_0, w ∈ lw_tbl := fun w h => List.mem_append_right _ (show w ∈ tables_1 from List.mem_append_left _ (show w ∈ tables_1_1 by rw [tb_0]; exact List.mem_append_left _ h))
theorem in_0_1 : ∀ w ∈ gc_0_1, w ∈ lw_tbl := fun w h => List.mem_append_right _ (show w ∈ tables_1 from List.mem_append_left _ (show w ∈ tables_1_1 by rw [tb_0]; exact List.mem_append_right _ (List.mem_append_left _ h)))
theorem in_0_2 : ∀ w ∈ gc_0_2, w ∈ lw_tbl := fun w h => List.mem_append_right _ (show w ∈ tables_1 from List.mem_append_left _ (show w ∈ tables_1_1 by rw [tb_0]; exact List.mem_append_right _ (List.mem_append_right _ (List.mem_append_left _ h))))
theorem in_0_3 : ∀ w ∈ gc_0_3, w ∈ lw_tbl := fun w h => List.mem_append_right _ (show w ∈ tables_1 from List.mem_append_left _ (show w ∈ tables_1_1 by rw [tb_0]; exact List.mem_append_right _ (List.mem_append_right _ (List.mem_append_right _ (List.mem_append_left _ h)))))
theorem in_0_4 : ∀ w ∈ gc_0_4, w ∈ lw_tbl := fun w h => List.mem_append_right _ (show w ∈ tables_1 from List.mem_append_left _ (show w ∈ tables_1_1 by rw [tb_0]; exact List.mem_append_right _ (List.mem_append_right _ (List.mem_append_right _ (List.mem_append_right _ (List.mem_append_left _ h))))))
theorem in_0_5 : ∀ w ∈ gc_0_5, w ∈ lw_tbl := fun w h => List.mem_append_right _ (show w ∈ tables_1 from List.mem_append_left _ (show w ∈ tables_1_1 by rw [tb_0]; exact List.mem_append_right _ (List.mem_append_right _ (List.mem_append_right _ (List.mem_append_right _ (List.mem_append_right _ (h)))))))
def gc_1_0 : List Cond := [(Jvm.Cond.soleField "Slickboom$Bay" "freshGoes"), (Jvm.Cond.laysFinal "Slickboom$Bay" "Slickboom$Bay" "thickGoes" "[I"), (Jvm.Cond.soleField "Slickboom$Bay" "thickGoes"), (Jvm.Cond.superclass "Slickboom$Bay" "java/lang/Object"), Cond.classLink RX9 19 RX5, Cond.instantiable RX5 5, Cond.methodLink RX9 21 yX5_init, Cond.instanceMethod yX5_init, Cond.code yX5_init cX5_init 2 none, Cond.methodLink RX5 3 objectInit, Cond.fieldLink RX5 9 RX5 "bay" "LSlickboom$Bay;", Cond.fieldLink RX5 19 RX5 "freshHas" "I", Cond.fieldLink RX5 26 RX5 "thickHas" "I", Cond.fieldLink RX5 23 RX5 "freshGoes" "I", Cond.fieldLink RX5 29 RX5 "thickGoes" "I", (Jvm.Cond.laysFinal "Slickboom$NextHour" "Slickboom$NextHour" "bay" "LSlickboom$Bay;"), (Jvm.Cond.soleField "Slickboom$NextHour" "bay"), (Jvm.Cond.lays "Slickboom$NextHour" "Slickboom$NextHour" "freshHas" "I"), (Jvm.Cond.soleField "Slickboom$NextHour" "freshHas"), (Jvm.Cond.lays "Slickboom$NextHour" "Slickboom$NextHour" "thickHas" "I"), (Jvm.Cond.soleField "Slickboom$NextHour" "thickHas"), (Jvm.Cond.lays "Slickboom$NextHour" "Slickboom$NextHour" "freshGoes" "I"), (Jvm.Cond.soleField "Slickboom$NextHour" "freshGoes"), (Jvm.Cond.lays "Slickboom$NextHour" "Slickboom$NextHour" "thickGoes" "I"), (Jvm.Cond.soleField "Slickboom$NextHour" "thickGoes"), (Jvm.Cond.superclass "Slickboom$NextHour" "java/lang/Object"), Cond.classLink RX9 28 RX7, Cond.instantiable RX7 1, Cond.methodLink RX9 30 yX7_init, Cond.instanceMethod yX7_init, Cond.code yX7_init cX7_init 2 none, Cond.methodLink RX7 3 objectInit, Cond.fieldLink RX7 9 RX7 "bay" "LSlickboom$Bay;", (Jvm.Cond.laysFinal "Slickboom$Rules" "Slickboom$Rules" "bay" "LSlickboom$Bay;"), (Jvm.Cond.soleField "Slickboom$Rules" "bay"), (Jvm.Cond.superclass "Slickboom$Rules" "java/lang/Object"), Cond.classLink RX9 35 RX3, Cond.instantiable RX3 4, Cond.methodLink RX9 37 yX3_init, Cond.instanceMethod yX3_init]
def gc_1_1 : List Cond := [Cond.code yX3_init cX3_init 1 none, Cond.methodLink RX3 3 objectInit, Cond.fieldLink RX3 18 RX3 "sites" "I", Cond.fieldLink RX9 248 RX3 "sites" "I", Cond.fieldLink RX3 9 RX3 "waste" "[I", Cond.fieldLink RX9 195 RX3 "waste" "[I", Cond.fieldLink RX3 15 RX3 "room" "[I", Cond.fieldLink RX3 22 RX3 "delivered" "I", (Jvm.Cond.lays "Slickboom$Dump" "Slickboom$Dump" "sites" "I"), (Jvm.Cond.soleField "Slickboom$Dump" "sites"), (Jvm.Cond.laysFinal "Slickboom$Dump" "Slickboom$Dump" "waste" "[I"), (Jvm.Cond.soleField "Slickboom$Dump" "waste"), (Jvm.Cond.laysFinal "Slickboom$Dump" "Slickboom$Dump" "room" "[I"), (Jvm.Cond.soleField "Slickboom$Dump" "room"), (Jvm.Cond.lays "Slickboom$Dump" "Slickboom$Dump" "delivered" "I"), (Jvm.Cond.soleField "Slickboom$Dump" "delivered"), (Jvm.Cond.superclass "Slickboom$Dump" "java/lang/Object"), Cond.classLink RX9 42 RX6, Cond.instantiable RX6 5, Cond.methodLink RX9 44 yX6_init, Cond.instanceMethod yX6_init, Cond.code yX6_init cX6_init 1 none, Cond.methodLink RX6 3 objectInit, Cond.fieldLink RX6 15 RX6 "count" "I", Cond.fieldLink RX9 265 RX6 "count" "I", Cond.fieldLink RX6 23 RX6 "owner" "I", Cond.fieldLink RX9 271 RX6 "owner" "I", Cond.fieldLink RX6 26 RX6 "fund" "I", Cond.fieldLink RX9 274 RX6 "fund" "I", Cond.fieldLink RX6 19 RX6 "all" "J", Cond.fieldLink RX6 9 RX6 "cents" "[I", (Jvm.Cond.lays "Slickboom$Payers" "Slickboom$Payers" "count" "I"), (Jvm.Cond.soleField "Slickboom$Payers" "count"), (Jvm.Cond.lays "Slickboom$Payers" "Slickboom$Payers" "owner" "I"), (Jvm.Cond.soleField "Slickboom$Payers" "owner"), (Jvm.Cond.lays "Slickboom$Payers" "Slickboom$Payers" "fund" "I"), (Jvm.Cond.soleField "Slickboom$Payers" "fund"), (Jvm.Cond.lays "Slickboom$Payers" "Slickboom$Payers" "all" "J"), (Jvm.Cond.soleField "Slickboom$Payers" "all"), (Jvm.Cond.laysFinal "Slickboom$Payers" "Slickboom$Payers" "cents" "[I")]
def gc_1_2 : List Cond := [(Jvm.Cond.soleField "Slickboom$Payers" "cents"), (Jvm.Cond.superclass "Slickboom$Payers" "java/lang/Object"), Cond.fieldLink RX9 12 RX9 "bay" "LSlickboom$Bay;", Cond.fieldLink RX9 16 RX9 "trial" "LSlickboom$Bay;", Cond.fieldLink RX9 24 RX9 "nextHour" "LSlickboom$NextHour;", Cond.fieldLink RX9 31 RX9 "rules" "LSlickboom$Rules;", Cond.fieldLink RX9 38 RX9 "dump" "LSlickboom$Dump;", Cond.fieldLink RX9 45 RX9 "payers" "LSlickboom$Payers;", (Jvm.Cond.laysFinal "Slickboom" "Slickboom" "bay" "LSlickboom$Bay;"), (Jvm.Cond.soleField "Slickboom" "bay"), (Jvm.Cond.laysFinal "Slickboom" "Slickboom" "trial" "LSlickboom$Bay;"), (Jvm.Cond.soleField "Slickboom" "trial"), (Jvm.Cond.laysFinal "Slickboom" "Slickboom" "nextHour" "LSlickboom$NextHour;"), (Jvm.Cond.soleField "Slickboom" "nextHour"), (Jvm.Cond.laysFinal "Slickboom" "Slickboom" "rules" "LSlickboom$Rules;"), (Jvm.Cond.soleField "Slickboom" "rules"), (Jvm.Cond.laysFinal "Slickboom" "Slickboom" "dump" "LSlickboom$Dump;"), (Jvm.Cond.soleField "Slickboom" "dump"), (Jvm.Cond.laysFinal "Slickboom" "Slickboom" "payers" "LSlickboom$Payers;"), (Jvm.Cond.soleField "Slickboom" "payers"), (Jvm.Cond.superclass "Slickboom" "java/lang/Object"), Cond.methodLink RL 118 yL_shore, Cond.static yL_shore, (Jvm.Cond.codeWith ({ cls := "SlickboomLaw", name := "shore", desc := "(LSlickboom;II[J)I" } : Jvm.MethodName) method_3_code (5 : Nat) (Option.some Jvm.ClassFile.FieldType.int) [((0 : Nat), (10 : Nat), (13 : Nat), (13 : Nat)), ((0 : Nat), (10 : Nat), (17 : Nat), (15 : Nat)), ((0 : Nat), (10 : Nat), (21 : Nat), (17 : Nat))]), Cond.classLink RL 13 "java/lang/IndexOutOfBoundsException", Cond.classLink RL 15 "java/lang/IllegalArgumentException", Cond.classLink RL 17 "java/lang/IllegalStateException", Cond.methodLink RL 7 yX9_shore, Cond.instanceMethod yX9_shore, Cond.selects RX9 yX9_shore yX9_shore, Cond.code yX9_shore cX9_shore 4 (some .int), Cond.methodLink RX9 49 yX9_needNumber, Cond.static yX9_needNumber, Cond.code yX9_needNumber cX9_needNumber 2 none, Cond.classLink RX9 340 "java/lang/IndexOutOfBoundsException", Cond.instantiable "java/lang/IndexOutOfBoundsException" 6, (Jvm.Cond.castable "java/lang/IndexOutOfBoundsException" "java/lang/IndexOutOfBoundsException"), (Jvm.Cond.declares ({ cls := "java/lang/RuntimeException", name := "<init>", desc := "()V" } : Jvm.MethodName)), (Jvm.Cond.declares ({ cls := "java/lang/RuntimeException", name := "<init>", desc := "(Ljava/lang/String;)V" } : Jvm.MethodName)), (Jvm.Cond.declares ({ cls := "java/lang/Exception", name := "<init>", desc := "()V" } : Jvm.MethodName))]
def gc_1_3 : List Cond := [(Jvm.Cond.declares ({ cls := "java/lang/Exception", name := "<init>", desc := "(Ljava/lang/String;)V" } : Jvm.MethodName)), (Jvm.Cond.declares ({ cls := "java/lang/Throwable", name := "<init>", desc := "()V" } : Jvm.MethodName)), (Jvm.Cond.declares ({ cls := "java/lang/Throwable", name := "<init>", desc := "(Ljava/lang/String;)V" } : Jvm.MethodName)), (Jvm.Cond.selects "java/lang/IndexOutOfBoundsException" ({ cls := "java/lang/Throwable", name := "fillInStackTrace", desc := "(I)Ljava/lang/Throwable;" } : Jvm.MethodName) ({ cls := "java/lang/Throwable", name := "fillInStackTrace", desc := "(I)Ljava/lang/Throwable;" } : Jvm.MethodName)), (Jvm.Cond.selects "java/lang/IndexOutOfBoundsException" ({ cls := "java/lang/Throwable", name := "fillInStackTrace", desc := "()Ljava/lang/Throwable;" } : Jvm.MethodName) ({ cls := "java/lang/Throwable", name := "fillInStackTrace", desc := "()Ljava/lang/Throwable;" } : Jvm.MethodName)), (Jvm.Cond.lays "java/lang/IndexOutOfBoundsException" "java/lang/Throwable" "cause" "Ljava/lang/Throwable;"), (Jvm.Cond.lays "java/lang/Throwable" "java/lang/Throwable" "cause" "Ljava/lang/Throwable;"), (Jvm.Cond.lays "java/lang/IndexOutOfBoundsException" "java/lang/Throwable" "stackTrace" "[Ljava/lang/StackTraceElement;"), (Jvm.Cond.lays "java/lang/Throwable" "java/lang/Throwable" "stackTrace" "[Ljava/lang/StackTraceElement;"), (Jvm.Cond.lays "java/lang/IndexOutOfBoundsException" "java/lang/Throwable" "suppressedExceptions" "Ljava/util/List;"), (Jvm.Cond.lays "java/lang/Throwable" "java/lang/Throwable" "suppressedExceptions" "Ljava/util/List;"), (Jvm.Cond.lays "java/lang/IndexOutOfBoundsException" "java/lang/Throwable" "detailMessage" "Ljava/lang/String;"), (Jvm.Cond.lays "java/lang/Throwable" "java/lang/Throwable" "detailMessage" "Ljava/lang/String;"), (Jvm.Cond.lays "java/lang/IndexOutOfBoundsException" "java/lang/Throwable" "backtrace" "Ljava/lang/Object;"), (Jvm.Cond.lays "java/lang/Throwable" "java/lang/Throwable" "backtrace" "Ljava/lang/Object;"), Cond.fieldLink "java/lang/Throwable" 198 "java/lang/Throwable" "backtrace" "Ljava/lang/Object;", (Jvm.Cond.superclass "java/lang/Throwable" "java/lang/Object"), Cond.instanceMethod ⟨"java/lang/Throwable", "<init>", "()V"⟩, (Jvm.Cond.code ({ cls := "java/lang/Throwable", name := "<init>", desc := "()V" } : Jvm.MethodName) prog_22_method_1_code (1 : Nat) (Option.none : Option Jvm.ClassFile.FieldType)), Cond.methodLink "java/lang/Throwable" 1 objectInit, Cond.fieldLink "java/lang/Throwable" 13 "java/lang/Throwable" "UNASSIGNED_STACK" "[Ljava/lang/StackTraceElement;", (Jvm.Cond.laysStatic "java/lang/Throwable" "UNASSIGNED_STACK" "[Ljava/lang/StackTraceElement;"), Cond.fieldLink "java/lang/Throwable" 20 "java/lang/Throwable" "SUPPRESSED_SENTINEL" "Ljava/util/List;", (Jvm.Cond.laysStatic "java/lang/Throwable" "SUPPRESSED_SENTINEL" "Ljava/util/List;"), Cond.methodLink "java/lang/Throwable" 27 ⟨"java/lang/Throwable", "fillInStackTrace", "()Ljava/lang/Throwable;"⟩, Cond.instanceMethod ⟨"java/lang/Throwable", "fillInStackTrace", "()Ljava/lang/Throwable;"⟩, (Jvm.Cond.sameMethod "java/lang/Throwable" "java/lang/Throwable" "fillInStackTrace" "()Ljava/lang/Throwable;"), (Jvm.Cond.selects "java/lang/IllegalArgumentException" ({ cls := "java/lang/Throwable", name := "fillInStackTrace", desc := "()Ljava/lang/Throwable;" } : Jvm.MethodName) ({ cls := "java/lang/Throwable", name := "fillInStackTrace", desc := "()Ljava/lang/Throwable;" } : Jvm.MethodName)), (Jvm.Cond.selects "java/lang/IllegalStateException" ({ cls := "java/lang/Throwable", name := "fillInStackTrace", desc := "()Ljava/lang/Throwable;" } : Jvm.MethodName) ({ cls := "java/lang/Throwable", name := "fillInStackTrace", desc := "()Ljava/lang/Throwable;" } : Jvm.MethodName)), (Jvm.Cond.codeSync ({ cls := "java/lang/Throwable", name := "fillInStackTrace", desc := "()Ljava/lang/Throwable;" } : Jvm.MethodName) prog_22_method_18_code (1 : Nat) (Option.some (Jvm.ClassFile.FieldType.object "java/lang/Throwable"))), Cond.methodLink "java/lang/Throwable" 202 ⟨"java/lang/Throwable", "fillInStackTrace", "(I)Ljava/lang/Throwable;"⟩, (Jvm.Cond.privateMethod ({ cls := "java/lang/Throwable", name := "fillInStackTrace", desc := "(I)Ljava/lang/Throwable;" } : Jvm.MethodName)), Cond.instanceMethod ⟨"java/lang/Throwable", "fillInStackTrace", "(I)Ljava/lang/Throwable;"⟩, Cond.instantiable "java/lang/Throwable" 6, Cond.native ⟨"java/lang/Throwable", "fillInStackTrace", "(I)Ljava/lang/Throwable;"⟩, (Jvm.Cond.stringRef "Slickboom" (342 : Nat) "there is none with such a number"), Cond.methodLink RX9 344 ⟨"java/lang/IndexOutOfBoundsException", "<init>", "(Ljava/lang/String;)V"⟩, Cond.instanceMethod ⟨"java/lang/IndexOutOfBoundsException", "<init>", "(Ljava/lang/String;)V"⟩, (Jvm.Cond.code ({ cls := "java/lang/IndexOutOfBoundsException", name := "<init>", desc := "(Ljava/lang/String;)V" } : Jvm.MethodName) prog_16_method_2_code (2 : Nat) (Option.none : Option Jvm.ClassFile.FieldType)), Cond.methodLink "java/lang/IndexOutOfBoundsException" 7 ⟨"java/lang/RuntimeException", "<init>", "(Ljava/lang/String;)V"⟩]
def gc_1_4 : List Cond := [Cond.instanceMethod ⟨"java/lang/RuntimeException", "<init>", "(Ljava/lang/String;)V"⟩, (Jvm.Cond.code ({ cls := "java/lang/RuntimeException", name := "<init>", desc := "(Ljava/lang/String;)V" } : Jvm.MethodName) prog_19_method_2_code (2 : Nat) (Option.none : Option Jvm.ClassFile.FieldType)), Cond.methodLink "java/lang/RuntimeException" 7 ⟨"java/lang/Exception", "<init>", "(Ljava/lang/String;)V"⟩, Cond.instanceMethod ⟨"java/lang/Exception", "<init>", "(Ljava/lang/String;)V"⟩, (Jvm.Cond.code ({ cls := "java/lang/Exception", name := "<init>", desc := "(Ljava/lang/String;)V" } : Jvm.MethodName) prog_13_method_2_code (2 : Nat) (Option.none : Option Jvm.ClassFile.FieldType)), Cond.methodLink "java/lang/Exception" 7 ⟨"java/lang/Throwable", "<init>", "(Ljava/lang/String;)V"⟩, Cond.instanceMethod ⟨"java/lang/Throwable", "<init>", "(Ljava/lang/String;)V"⟩, (Jvm.Cond.code ({ cls := "java/lang/Throwable", name := "<init>", desc := "(Ljava/lang/String;)V" } : Jvm.MethodName) prog_22_method_2_code (2 : Nat) (Option.none : Option Jvm.ClassFile.FieldType)), (Jvm.Cond.fieldLink "java/lang/Throwable" (198 : Nat) "java/lang/Throwable" "backtrace" "Ljava/lang/Object;"), Cond.fieldLink "java/lang/Throwable" 31 "java/lang/Throwable" "detailMessage" "Ljava/lang/String;", Cond.fieldLink "java/lang/Throwable" 7 "java/lang/Throwable" "cause" "Ljava/lang/Throwable;", Cond.fieldLink "java/lang/Throwable" 17 "java/lang/Throwable" "stackTrace" "[Ljava/lang/StackTraceElement;", Cond.fieldLink "java/lang/Throwable" 24 "java/lang/Throwable" "suppressedExceptions" "Ljava/util/List;", (Jvm.Cond.soleField "java/lang/Throwable" "backtrace"), (Jvm.Cond.soleField "java/lang/Throwable" "detailMessage"), (Jvm.Cond.soleField "java/lang/Throwable" "cause"), (Jvm.Cond.soleField "java/lang/Throwable" "stackTrace"), (Jvm.Cond.lays "java/lang/IndexOutOfBoundsException" "java/lang/Throwable" "depth" "I"), (Jvm.Cond.soleField "java/lang/Throwable" "depth"), (Jvm.Cond.soleField "java/lang/Throwable" "suppressedExceptions"), (Jvm.Cond.superclass "java/lang/IndexOutOfBoundsException" "java/lang/RuntimeException"), Cond.arrayClass .byte, Cond.methodLink RX9 53 yX9_needRange, Cond.static yX9_needRange, Cond.code yX9_needRange cX9_needRange 3 none, Cond.classLink RX9 128 "java/lang/IllegalArgumentException", Cond.instantiable "java/lang/IllegalArgumentException" 6, (Jvm.Cond.castable "java/lang/IllegalArgumentException" "java/lang/IllegalArgumentException"), (Jvm.Cond.selects "java/lang/IllegalArgumentException" ({ cls := "java/lang/Throwable", name := "fillInStackTrace", desc := "(I)Ljava/lang/Throwable;" } : Jvm.MethodName) ({ cls := "java/lang/Throwable", name := "fillInStackTrace", desc := "(I)Ljava/lang/Throwable;" } : Jvm.MethodName)), (Jvm.Cond.lays "java/lang/IllegalArgumentException" "java/lang/Throwable" "cause" "Ljava/lang/Throwable;"), (Jvm.Cond.lays "java/lang/IllegalArgumentException" "java/lang/Throwable" "stackTrace" "[Ljava/lang/StackTraceElement;"), (Jvm.Cond.lays "java/lang/IllegalArgumentException" "java/lang/Throwable" "suppressedExceptions" "Ljava/util/List;"), (Jvm.Cond.lays "java/lang/IllegalArgumentException" "java/lang/Throwable" "detailMessage" "Ljava/lang/String;"), (Jvm.Cond.lays "java/lang/IllegalArgumentException" "java/lang/Throwable" "backtrace" "Ljava/lang/Object;"), (Jvm.Cond.stringRef "Slickboom" (345 : Nat) "an argument is out of range"), Cond.methodLink RX9 132 ⟨"java/lang/IllegalArgumentException", "<init>", "(Ljava/lang/String;)V"⟩, Cond.instanceMethod ⟨"java/lang/IllegalArgumentException", "<init>", "(Ljava/lang/String;)V"⟩, (Jvm.Cond.code ({ cls := "java/lang/IllegalArgumentException", name := "<init>", desc := "(Ljava/lang/String;)V" } : Jvm.MethodName) prog_14_method_2_code (2 : Nat) (Option.none : Option Jvm.ClassFile.FieldType)), Cond.methodLink "java/lang/IllegalArgumentException" 7 ⟨"java/lang/RuntimeException", "<init>", "(Ljava/lang/String;)V"⟩, (Jvm.Cond.lays "java/lang/IllegalArgumentException" "java/lang/Throwable" "depth" "I")]
def gc_1_5 : List Cond := [(Jvm.Cond.superclass "java/lang/IllegalArgumentException" "java/lang/RuntimeException"), Cond.classLink RX9 61 "java/lang/IllegalStateException", Cond.instantiable "java/lang/IllegalStateException" 6, (Jvm.Cond.castable "java/lang/IllegalStateException" "java/lang/IllegalStateException"), (Jvm.Cond.selects "java/lang/IllegalStateException" ({ cls := "java/lang/Throwable", name := "fillInStackTrace", desc := "(I)Ljava/lang/Throwable;" } : Jvm.MethodName) ({ cls := "java/lang/Throwable", name := "fillInStackTrace", desc := "(I)Ljava/lang/Throwable;" } : Jvm.MethodName)), (Jvm.Cond.lays "java/lang/IllegalStateException" "java/lang/Throwable" "cause" "Ljava/lang/Throwable;"), (Jvm.Cond.lays "java/lang/IllegalStateException" "java/lang/Throwable" "stackTrace" "[Ljava/lang/StackTraceElement;"), (Jvm.Cond.lays "java/lang/IllegalStateException" "java/lang/Throwable" "suppressedExceptions" "Ljava/util/List;"), (Jvm.Cond.lays "java/lang/IllegalStateException" "java/lang/Throwable" "detailMessage" "Ljava/lang/String;"), (Jvm.Cond.lays "java/lang/IllegalStateException" "java/lang/Throwable" "backtrace" "Ljava/lang/Object;"), (Jvm.Cond.stringRef "Slickboom" (63 : Nat) "the HOUR is not 0"), Cond.methodLink RX9 65 ⟨"java/lang/IllegalStateException", "<init>", "(Ljava/lang/String;)V"⟩, Cond.instanceMethod ⟨"java/lang/IllegalStateException", "<init>", "(Ljava/lang/String;)V"⟩, (Jvm.Cond.code ({ cls := "java/lang/IllegalStateException", name := "<init>", desc := "(Ljava/lang/String;)V" } : Jvm.MethodName) prog_15_method_2_code (2 : Nat) (Option.none : Option Jvm.ClassFile.FieldType)), Cond.methodLink "java/lang/IllegalStateException" 7 ⟨"java/lang/RuntimeException", "<init>", "(Ljava/lang/String;)V"⟩, (Jvm.Cond.lays "java/lang/IllegalStateException" "java/lang/Throwable" "depth" "I"), (Jvm.Cond.superclass "java/lang/IllegalStateException" "java/lang/RuntimeException"), Cond.methodLink RX9 72 yX8_isAnyAt, Cond.instanceMethod yX8_isAnyAt, Cond.selects RX8 yX8_isAnyAt yX8_isAnyAt, Cond.code yX8_isAnyAt cX8_isAnyAt 3 (some .boolean), Cond.methodLink RX9 82 yX4_isSkimmerAt, Cond.instanceMethod yX4_isSkimmerAt, Cond.selects RX4 yX4_isSkimmerAt yX4_isSkimmerAt, Cond.code yX4_isSkimmerAt cX4_isSkimmerAt 3 (some .boolean), Cond.methodLink RX4 41 yX4_isSkimmer, Cond.instanceMethod yX4_isSkimmer, Cond.selects RX4 yX4_isSkimmer yX4_isSkimmer, Cond.code yX4_isSkimmer cX4_isSkimmer 3 (some .boolean), (Jvm.Cond.stringRef "Slickboom" (87 : Nat) "a SHIP or a SKIMMER is there"), Cond.methodLink RX9 99 yX2_become, Cond.instanceMethod yX2_become, Cond.selects RX2 yX2_become yX2_become, Cond.code yX2_become cX2_become 3 none, Cond.methodLink RL 128 yL_depth, Cond.static yL_depth, (Jvm.Cond.codeWith ({ cls := "SlickboomLaw", name := "depth", desc := "(LSlickboom;II[J)I" } : Jvm.MethodName) method_4_code (5 : Nat) (Option.some Jvm.ClassFile.FieldType.int) [((0 : Nat), (10 : Nat), (13 : Nat), (13 : Nat)), ((0 : Nat), (10 : Nat), (17 : Nat), (15 : Nat)), ((0 : Nat), (10 : Nat), (21 : Nat), (17 : Nat))]), Cond.methodLink RL 19 yX9_depth, Cond.instanceMethod yX9_depth, Cond.selects RX9 yX9_depth yX9_depth]
set_option maxRecDepth 100000 in
theorem tb_1 : tables_1_2 = gc_1_0 ++ (gc_1_1 ++ (gc_1_2 ++ (gc_1_3 ++ (gc_1_4 ++ (gc_1_5))))) := rfl
theorem in_1_0 : ∀ w ∈ gc_1_0, w ∈ lw_tbl := fun w h => List.mem_append_right _ (show w ∈ tables_1 from List.mem_append_right _ (List.mem_append_left _ (show w ∈ tables_1_2 by rw [tb_1]; exact List.mem_append_left _ h)))
theorem in_1_1 : ∀ w ∈ gc_1_1, w ∈ lw_tbl := fun w h => List.mem_append_right _ (show w ∈ tables_1 from List.mem_append_right _ (List.mem_append_left _ (show w ∈ tables_1_2 by rw [tb_1]; exact List.mem_append_right _ (List.mem_append_left _ h))))
theorem in_1_2 : ∀ w ∈ gc_1_2, w ∈ lw_tbl := fun w h => List.mem_append_right _ (show w ∈ tables_1 from List.mem_append_right _ (List.mem_append_left _ (show w ∈ tables_1_2 by rw [tb_1]; exact List.mem_append_right _ (List.mem_append_right _ (List.mem_append_left _ h)))))
theorem in_1_3 : ∀ w ∈ gc_1_3, w ∈ lw_tbl := fun w h => List.mem_append_right _ (show w ∈ tables_1 from List.mem_append_right _ (List.mem_append_left _ (show w ∈ tables_1_2 by rw [tb_1]; exact List.mem_append_right _ (List.mem_append_right _ (List.mem_append_right _ (List.mem_append_left _ h))))))
theorem in_1_4 : ∀ w ∈ gc_1_4, w ∈ lw_tbl := fun w h => List.mem_append_right _ (show w ∈ tables_1 from List.mem_append_right _ (List.mem_append_left _ (show w ∈ tables_1_2 by rw [tb_1]; exact List.mem_append_right _ (List.mem_append_right _ (List.mem_append_right _ (List.mem_append_right _ (List.mem_append_left _ h)))))))
theorem in_1_5 : ∀ w ∈ gc_1_5, w ∈ lw_tbl := fun w h => List.mem_append_right _ (show w ∈ tables_1 from List.mem_append_right _ (List.mem_append_left _ (show w ∈ tables_1_2 by rw [tb_1]; exact List.mem_append_right _ (List.mem_append_right _ (List.mem_append_right _ (List.mem_append_right _ (List.mem_append_right _ (h))))))))
def gc_2_0 : List Cond := [Cond.code yX9_depth cX9_depth 4 (some .int), Cond.methodLink RX9 102 yX9_needWater, (Jvm.Cond.privateMethod ({ cls := "Slickboom", name := "needWater", desc := "(I)V" } : Jvm.MethodName)), Cond.instanceMethod yX9_needWater, Cond.code yX9_needWater cX9_needWater 2 none, Cond.methodLink RX9 291 yX2_isWater, Cond.instanceMethod yX2_isWater, Cond.selects RX2 yX2_isWater yX2_isWater, Cond.code yX2_isWater cX2_isWater 2 (some .boolean), (Jvm.Cond.stringRef "Slickboom" (347 : Nat) "the CELL is a SHORE"), Cond.methodLink RL 131 yL_wind, Cond.static yL_wind, (Jvm.Cond.codeWith ({ cls := "SlickboomLaw", name := "wind", desc := "(LSlickboom;II[J)I" } : Jvm.MethodName) method_5_code (5 : Nat) (Option.some Jvm.ClassFile.FieldType.int) [((0 : Nat), (10 : Nat), (13 : Nat), (15 : Nat))]), Cond.methodLink RL 22 yX9_wind, Cond.instanceMethod yX9_wind, Cond.selects RX9 yX9_wind yX9_wind, Cond.code yX9_wind cX9_wind 4 (some .int), Cond.methodLink RL 134 yL_ship, Cond.static yL_ship, (Jvm.Cond.codeWith ({ cls := "SlickboomLaw", name := "ship", desc := "(LSlickboom;II[J)I" } : Jvm.MethodName) method_6_code (5 : Nat) (Option.some Jvm.ClassFile.FieldType.int) [((0 : Nat), (10 : Nat), (13 : Nat), (13 : Nat)), ((0 : Nat), (10 : Nat), (17 : Nat), (15 : Nat)), ((0 : Nat), (10 : Nat), (21 : Nat), (17 : Nat))]), Cond.methodLink RL 25 yX9_ship, Cond.instanceMethod yX9_ship, Cond.selects RX9 yX9_ship yX9_ship, Cond.code yX9_ship cX9_ship 3 (some .int), Cond.constant RX9 115 100000, (Jvm.Cond.stringRef "Slickboom" (119 : Nat) "there are 4 SHIPS"), Cond.methodLink RX9 121 yX8_add, Cond.instanceMethod yX8_add, Cond.selects RX8 yX8_add yX8_add, Cond.code yX8_add cX8_add 4 (some .int), Cond.methodLink RL 137 yL_hole, Cond.static yL_hole, (Jvm.Cond.codeWith ({ cls := "SlickboomLaw", name := "hole", desc := "(LSlickboom;II[J)I" } : Jvm.MethodName) method_7_code (5 : Nat) (Option.some Jvm.ClassFile.FieldType.int) [((0 : Nat), (10 : Nat), (13 : Nat), (13 : Nat)), ((0 : Nat), (10 : Nat), (17 : Nat), (15 : Nat))]), Cond.methodLink RL 28 yX9_hole, Cond.instanceMethod yX9_hole, Cond.selects RX9 yX9_hole yX9_hole, Cond.code yX9_hole cX9_hole 4 (some .int), Cond.methodLink RL 140 yL_pump, Cond.static yL_pump, (Jvm.Cond.codeWith ({ cls := "SlickboomLaw", name := "pump", desc := "(LSlickboom;III[J)I" } : Jvm.MethodName) method_8_code (6 : Nat) (Option.some Jvm.ClassFile.FieldType.int) [((0 : Nat), (12 : Nat), (15 : Nat), (13 : Nat)), ((0 : Nat), (12 : Nat), (19 : Nat), (15 : Nat)), ((0 : Nat), (12 : Nat), (23 : Nat), (17 : Nat))])]
def gc_2_1 : List Cond := [Cond.methodLink RL 31 yX9_pump, Cond.instanceMethod yX9_pump, Cond.selects RX9 yX9_pump yX9_pump, Cond.code yX9_pump cX9_pump 5 (some .int), (Jvm.Cond.stringRef "Slickboom" (130 : Nat) "both SHIPS are the same"), (Jvm.Cond.stringRef "Slickboom" (136 : Nat) "the SHIP has fewer, or the other one no room"), Cond.methodLink RL 144 yL_shipHas, Cond.static yL_shipHas, (Jvm.Cond.codeWith ({ cls := "SlickboomLaw", name := "shipHas", desc := "(LSlickboom;I[J)I" } : Jvm.MethodName) method_9_code (4 : Nat) (Option.some Jvm.ClassFile.FieldType.int) [((0 : Nat), (9 : Nat), (12 : Nat), (13 : Nat))]), Cond.methodLink RL 35 yX9_shipHas, Cond.instanceMethod yX9_shipHas, Cond.selects RX9 yX9_shipHas yX9_shipHas, Cond.code yX9_shipHas cX9_shipHas 2 (some .int), Cond.methodLink RL 148 yL_pass, Cond.static yL_pass, (Jvm.Cond.codeWith ({ cls := "SlickboomLaw", name := "pass", desc := "(LSlickboom;I[J)I" } : Jvm.MethodName) method_10_code (4 : Nat) (Option.some Jvm.ClassFile.FieldType.int) [((0 : Nat), (9 : Nat), (12 : Nat), (15 : Nat)), ((0 : Nat), (9 : Nat), (15 : Nat), (17 : Nat))]), Cond.methodLink RL 39 yX9_pass, Cond.instanceMethod yX9_pass, Cond.selects RX9 yX9_pass yX9_pass, Cond.code yX9_pass cX9_pass 2 (some .int), (Jvm.Cond.stringRef "Slickboom" (138 : Nat) "the HOUR would be above 2000"), Cond.methodLink RX9 140 yX0_letPass, Cond.instanceMethod yX0_letPass, Cond.selects RX0 yX0_letPass yX0_letPass, Cond.code yX0_letPass cX0_letPass 3 none, Cond.methodLink RX0 66 yX0_leak, (Jvm.Cond.privateMethod ({ cls := "Slickboom$Bay", name := "leak", desc := "()V" } : Jvm.MethodName)), Cond.instanceMethod yX0_leak, Cond.code yX0_leak cX0_leak 4 none, Cond.methodLink RX0 75 yX0_tideOf, Cond.static yX0_tideOf, Cond.code yX0_tideOf cX0_tideOf 2 (some .int), Cond.methodLink RX0 91 yX8_leakOf, Cond.instanceMethod yX8_leakOf, Cond.selects RX8 yX8_leakOf yX8_leakOf, Cond.code yX8_leakOf cX8_leakOf 4 (some .int), Cond.methodLink RX8 25 Lib.Math.min.name, Cond.static Lib.Math.min.name, Cond.code Lib.Math.min.name Lib.Math.min.code 2 (some .int), Cond.methodLink RX0 104 yX1_noteLeak]
def gc_2_2 : List Cond := [Cond.instanceMethod yX1_noteLeak, Cond.selects RX1 yX1_noteLeak yX1_noteLeak, Cond.code yX1_noteLeak cX1_noteLeak 3 none, Cond.methodLink RX0 69 yX0_weather, (Jvm.Cond.privateMethod ({ cls := "Slickboom$Bay", name := "weather", desc := "()V" } : Jvm.MethodName)), Cond.instanceMethod yX0_weather, Cond.code yX0_weather cX0_weather 5 none, Cond.methodLink RX0 72 yX0_drift, (Jvm.Cond.privateMethod ({ cls := "Slickboom$Bay", name := "drift", desc := "()V" } : Jvm.MethodName)), Cond.instanceMethod yX0_drift, Cond.code yX0_drift cX0_drift 2 none, Cond.methodLink RX0 117 yX0_findWhatGoes, (Jvm.Cond.privateMethod ({ cls := "Slickboom$Bay", name := "findWhatGoes", desc := "(I)V" } : Jvm.MethodName)), Cond.instanceMethod yX0_findWhatGoes, Cond.code yX0_findWhatGoes cX0_findWhatGoes 6 none, Cond.methodLink RX0 127 yX0_roomBehind, Cond.instanceMethod yX0_roomBehind, Cond.selects RX0 yX0_roomBehind yX0_roomBehind, Cond.code yX0_roomBehind cX0_roomBehind 3 (some .int), Cond.methodLink RX0 121 yX2_beside, Cond.static yX2_beside, Cond.code yX2_beside cX2_beside 4 (some .int), Cond.methodLink RX0 147 yX2_isWater, Cond.constant RX0 151 1000000, Cond.methodLink RX0 152 yX2_roomOf, Cond.instanceMethod yX2_roomOf, Cond.selects RX2 yX2_roomOf yX2_roomOf, Cond.code yX2_roomOf cX2_roomOf 2 (some .int), (Jvm.Cond.fieldLinkNest "Slickboom$Cells" (50 : Nat) "Slickboom" "HOLDS" "[I" "Slickboom"), (Jvm.Cond.laysStatic "Slickboom" "HOLDS" "[I"), Cond.methodLink RX0 130 yX0_blown, Cond.instanceMethod yX0_blown, Cond.selects RX0 yX0_blown yX0_blown, Cond.code yX0_blown cX0_blown 3 (some .int), Cond.methodLink RX0 142 Lib.Math.min.name, Cond.methodLink RX0 133 yX4_boomOn, Cond.instanceMethod yX4_boomOn, Cond.selects RX4 yX4_boomOn yX4_boomOn, Cond.code yX4_boomOn cX4_boomOn 6 (some .int), Cond.methodLink RX4 45 yX2_beside]
def gc_2_3 : List Cond := [Cond.methodLink RX4 51 yX2_opposite, Cond.static yX2_opposite, Cond.code yX2_opposite cX2_opposite 1 (some .int), Cond.methodLink RX0 124 yX0_letGo, (Jvm.Cond.privateMethod ({ cls := "Slickboom$Bay", name := "letGo", desc := "(II)V" } : Jvm.MethodName)), Cond.instanceMethod yX0_letGo, Cond.code yX0_letGo cX0_letGo 5 none, Cond.methodLink RX0 79 yX0_giveBack, (Jvm.Cond.privateMethod ({ cls := "Slickboom$Bay", name := "giveBack", desc := "()V" } : Jvm.MethodName)), Cond.instanceMethod yX0_giveBack, Cond.code yX0_giveBack cX0_giveBack 4 none, Cond.methodLink RX0 161 yX2_lowestWaterBeside, Cond.instanceMethod yX2_lowestWaterBeside, Cond.selects RX2 yX2_lowestWaterBeside yX2_lowestWaterBeside, Cond.code yX2_lowestWaterBeside cX2_lowestWaterBeside 5 (some .int), Cond.methodLink RX2 42 yX2_beside, Cond.methodLink RX2 46 yX2_isWater, Cond.methodLink RX0 164 yX2_backOf, Cond.instanceMethod yX2_backOf, Cond.selects RX2 yX2_backOf yX2_backOf, Cond.code yX2_backOf cX2_backOf 4 (some .int), (Jvm.Cond.fieldLinkNest "Slickboom$Cells" (53 : Nat) "Slickboom" "BACK_PARTS" "[I" "Slickboom"), (Jvm.Cond.laysStatic "Slickboom" "BACK_PARTS" "[I"), Cond.methodLink RX0 82 yX0_skim, (Jvm.Cond.privateMethod ({ cls := "Slickboom$Bay", name := "skim", desc := "()V" } : Jvm.MethodName)), Cond.instanceMethod yX0_skim, Cond.code yX0_skim cX0_skim 5 none, Cond.methodLink RX0 172 yX4_freshTaken, Cond.instanceMethod yX4_freshTaken, Cond.selects RX4 yX4_freshTaken yX4_freshTaken, Cond.code yX4_freshTaken cX4_freshTaken 4 (some .int), Cond.methodLink RX4 55 Lib.Math.min.name, Cond.methodLink RX0 175 yX4_thickTaken, Cond.instanceMethod yX4_thickTaken, Cond.selects RX4 yX4_thickTaken yX4_thickTaken, Cond.code yX4_thickTaken cX4_thickTaken 5 (some .int), Cond.methodLink RX0 85 yX0_harmShores, (Jvm.Cond.privateMethod ({ cls := "Slickboom$Bay", name := "harmShores", desc := "()V" } : Jvm.MethodName)), Cond.instanceMethod yX0_harmShores, Cond.code yX0_harmShores cX0_harmShores 2 none]
def gc_2_4 : List Cond := [Cond.methodLink RX0 179 yX2_oilBirds, Cond.instanceMethod yX2_oilBirds, Cond.selects RX2 yX2_oilBirds yX2_oilBirds, Cond.code yX2_oilBirds cX2_oilBirds 3 none, Cond.methodLink RX2 62 Lib.Math.min.name, Cond.methodLink RX0 182 yX2_isTooDirty, Cond.instanceMethod yX2_isTooDirty, Cond.selects RX2 yX2_isTooDirty yX2_isTooDirty, Cond.code yX2_isTooDirty cX2_isTooDirty 2 (some .boolean), Cond.methodLink RL 151 yL_at, Cond.static yL_at, (Jvm.Cond.codeWith ({ cls := "SlickboomLaw", name := "at", desc := "(LSlickboom;II[J)I" } : Jvm.MethodName) method_11_code (5 : Nat) (Option.some Jvm.ClassFile.FieldType.int) [((0 : Nat), (10 : Nat), (13 : Nat), (13 : Nat)), ((0 : Nat), (10 : Nat), (17 : Nat), (15 : Nat))]), Cond.methodLink RL 42 yX9_at, Cond.instanceMethod yX9_at, Cond.selects RX9 yX9_at yX9_at, Cond.code yX9_at cX9_at 4 (some .int), Cond.methodLink RX9 161 yX2_isClean, Cond.instanceMethod yX2_isClean, Cond.selects RX2 yX2_isClean yX2_isClean, Cond.code yX2_isClean cX2_isClean 2 (some .boolean), Cond.methodLink RX2 56 yJ6_bitCount_0f7a4, Cond.static yJ6_bitCount_0f7a4, Cond.code yJ6_bitCount_0f7a4 cJ6_bitCount_0f7a4 1 (some .int), Cond.constant RJ6 265 1431655765, Cond.constant RJ6 266 858993459, Cond.constant RJ6 267 252645135, Cond.methodLink RL 154 yL_boom, Cond.static yL_boom, (Jvm.Cond.codeWith ({ cls := "SlickboomLaw", name := "boom", desc := "(LSlickboom;III[J)I" } : Jvm.MethodName) method_12_code (6 : Nat) (Option.some Jvm.ClassFile.FieldType.int) [((0 : Nat), (12 : Nat), (15 : Nat), (13 : Nat)), ((0 : Nat), (12 : Nat), (19 : Nat), (15 : Nat)), ((0 : Nat), (12 : Nat), (23 : Nat), (17 : Nat))]), Cond.methodLink RL 45 yX9_boom, Cond.instanceMethod yX9_boom, Cond.selects RX9 yX9_boom yX9_boom, Cond.code yX9_boom cX9_boom 5 (some .int), Cond.methodLink RX9 164 yX4_boomOn, (Jvm.Cond.stringRef "Slickboom" (167 : Nat) "there is a BOOM on that border"), Cond.methodLink RX9 169 yX9_needRoomForMeans, (Jvm.Cond.privateMethod ({ cls := "Slickboom", name := "needRoomForMeans", desc := "()V" } : Jvm.MethodName)), Cond.instanceMethod yX9_needRoomForMeans, Cond.code yX9_needRoomForMeans cX9_needRoomForMeans 1 none, (Jvm.Cond.stringRef "Slickboom" (351 : Nat) "there are 20 means")]
def gc_2_5 : List Cond := [Cond.methodLink RX9 172 yX4_add, Cond.instanceMethod yX4_add, Cond.selects RX4 yX4_add yX4_add, Cond.code yX4_add cX4_add 5 (some .int), Cond.methodLink RL 157 yL_skimmer, Cond.static yL_skimmer, (Jvm.Cond.codeWith ({ cls := "SlickboomLaw", name := "skimmer", desc := "(LSlickboom;III[J)I" } : Jvm.MethodName) method_13_code (6 : Nat) (Option.some Jvm.ClassFile.FieldType.int) [((0 : Nat), (12 : Nat), (15 : Nat), (13 : Nat)), ((0 : Nat), (12 : Nat), (19 : Nat), (15 : Nat)), ((0 : Nat), (12 : Nat), (23 : Nat), (17 : Nat))]), Cond.methodLink RL 48 yX9_skimmer, Cond.instanceMethod yX9_skimmer, Cond.selects RX9 yX9_skimmer yX9_skimmer, Cond.code yX9_skimmer cX9_skimmer 5 (some .int), Cond.methodLink RL 160 yL_team, Cond.static yL_team, (Jvm.Cond.codeWith ({ cls := "SlickboomLaw", name := "team", desc := "(LSlickboom;IZ[J)I" } : Jvm.MethodName) method_14_code (5 : Nat) (Option.some Jvm.ClassFile.FieldType.int) [((0 : Nat), (10 : Nat), (13 : Nat), (15 : Nat)), ((0 : Nat), (10 : Nat), (17 : Nat), (17 : Nat))]), Cond.methodLink RL 51 yX9_team, Cond.instanceMethod yX9_team, Cond.selects RX9 yX9_team yX9_team, Cond.code yX9_team cX9_team 4 (some .int), Cond.methodLink RL 164 yL_move, Cond.static yL_move, (Jvm.Cond.codeWith ({ cls := "SlickboomLaw", name := "move", desc := "(LSlickboom;II[J)I" } : Jvm.MethodName) method_15_code (5 : Nat) (Option.some Jvm.ClassFile.FieldType.int) [((0 : Nat), (10 : Nat), (13 : Nat), (13 : Nat)), ((0 : Nat), (10 : Nat), (17 : Nat), (17 : Nat))]), Cond.methodLink RL 55 yX9_move, Cond.instanceMethod yX9_move, Cond.selects RX9 yX9_move yX9_move, Cond.code yX9_move cX9_move 4 (some .int), Cond.methodLink RX9 186 yX9_needSort, (Jvm.Cond.privateMethod ({ cls := "Slickboom", name := "needSort", desc := "(II)V" } : Jvm.MethodName)), Cond.instanceMethod yX9_needSort, Cond.code yX9_needSort cX9_needSort 3 none, (Jvm.Cond.stringRef "Slickboom" (353 : Nat) "the mean is of another sort"), Cond.methodLink RL 167 yL_carry, Cond.static yL_carry, (Jvm.Cond.codeWith ({ cls := "SlickboomLaw", name := "carry", desc := "(LSlickboom;I[J)I" } : Jvm.MethodName) method_16_code (4 : Nat) (Option.some Jvm.ClassFile.FieldType.int) [((0 : Nat), (9 : Nat), (12 : Nat), (13 : Nat)), ((0 : Nat), (9 : Nat), (15 : Nat), (17 : Nat))]), Cond.methodLink RL 58 yX9_carry, Cond.instanceMethod yX9_carry, Cond.selects RX9 yX9_carry yX9_carry, Cond.code yX9_carry cX9_carry 3 (some .int), Cond.methodLink RL 170 yL_teach, Cond.static yL_teach, (Jvm.Cond.codeWith ({ cls := "SlickboomLaw", name := "teach", desc := "(LSlickboom;I[J)I" } : Jvm.MethodName) method_17_code (4 : Nat) (Option.some Jvm.ClassFile.FieldType.int) [((0 : Nat), (16 : Nat), (19 : Nat), (13 : Nat)), ((0 : Nat), (16 : Nat), (22 : Nat), (17 : Nat))])]
set_option maxRecDepth 100000 in
theorem tb_2 : tables_1_3 = gc_2_0 ++ (gc_2_1 ++ (gc_2_2 ++ (gc_2_3 ++ (gc_2_4 ++ (gc_2_5))))) := rfl
theorem in_2_0 : ∀ w ∈ gc_2_0, w ∈ lw_tbl := fun w h => List.mem_append_right _ (show w ∈ tables_1 from List.mem_append_right _ (List.mem_append_right _ (List.mem_append_left _ (show w ∈ tables_1_3 by rw [tb_2]; exact List.mem_append_left _ h))))
theorem in_2_1 : ∀ w ∈ gc_2_1, w ∈ lw_tbl := fun w h => List.mem_append_right _ (show w ∈ tables_1 from List.mem_append_right _ (List.mem_append_right _ (List.mem_append_left _ (show w ∈ tables_1_3 by rw [tb_2]; exact List.mem_append_right _ (List.mem_append_left _ h)))))
theorem in_2_2 : ∀ w ∈ gc_2_2, w ∈ lw_tbl := fun w h => List.mem_append_right _ (show w ∈ tables_1 from List.mem_append_right _ (List.mem_append_right _ (List.mem_append_left _ (show w ∈ tables_1_3 by rw [tb_2]; exact List.mem_append_right _ (List.mem_append_right _ (List.mem_append_left _ h))))))
theorem in_2_3 : ∀ w ∈ gc_2_3, w ∈ lw_tbl := fun w h => List.mem_append_right _ (show w ∈ tables_1 from List.mem_append_right _ (List.mem_append_right _ (List.mem_append_left _ (show w ∈ tables_1_3 by rw [tb_2]; exact List.mem_append_right _ (List.mem_append_right _ (List.mem_append_right _ (List.mem_append_left _ h)))))))
theorem in_2_4 : ∀ w ∈ gc_2_4, w ∈ lw_tbl := fun w h => List.mem_append_right _ (show w ∈ tables_1 from List.mem_append_right _ (List.mem_append_right _ (List.mem_append_left _ (show w ∈ tables_1_3 by rw [tb_2]; exact List.mem_append_right _ (List.mem_append_right _ (List.mem_append_right _ (List.mem_append_right _ (List.mem_append_left _ h))))))))
theorem in_2_5 : ∀ w ∈ gc_2_5, w ∈ lw_tbl := fun w h => List.mem_append_right _ (show w ∈ tables_1 from List.mem_append_right _ (List.mem_append_right _ (List.mem_append_left _ (show w ∈ tables_1_3 by rw [tb_2]; exact List.mem_append_right _ (List.mem_append_right _ (List.mem_append_right _ (List.mem_append_right _ (List.mem_append_right _ (h)))))))))
def gc_3_0 : List Cond := [Cond.methodLink RL 61 yX9_teach, Cond.instanceMethod yX9_teach, Cond.selects RX9 yX9_teach yX9_teach, Cond.code yX9_teach cX9_teach 3 (some .boolean), Cond.methodLink RL 173 yL_clean, Cond.static yL_clean, (Jvm.Cond.codeWith ({ cls := "SlickboomLaw", name := "clean", desc := "(LSlickboom;II[J)I" } : Jvm.MethodName) method_18_code (5 : Nat) (Option.some Jvm.ClassFile.FieldType.int) [((0 : Nat), (10 : Nat), (13 : Nat), (13 : Nat)), ((0 : Nat), (10 : Nat), (17 : Nat), (17 : Nat))]), Cond.methodLink RL 65 yX9_clean, Cond.instanceMethod yX9_clean, Cond.selects RX9 yX9_clean yX9_clean, Cond.code yX9_clean cX9_clean 4 (some .int), Cond.methodLink RX9 198 yX9_needShore, (Jvm.Cond.privateMethod ({ cls := "Slickboom", name := "needShore", desc := "(I)V" } : Jvm.MethodName)), Cond.instanceMethod yX9_needShore, Cond.code yX9_needShore cX9_needShore 2 none, (Jvm.Cond.stringRef "Slickboom" (349 : Nat) "the CELL is WATER"), Cond.methodLink RX9 201 yX4_canWork, Cond.instanceMethod yX4_canWork, Cond.selects RX4 yX4_canWork yX4_canWork, Cond.code yX4_canWork cX4_canWork 3 (some .boolean), Cond.methodLink RX4 60 yX4_hasRested, (Jvm.Cond.privateMethod ({ cls := "Slickboom$Means", name := "hasRested", desc := "(II)Z" } : Jvm.MethodName)), Cond.instanceMethod yX4_hasRested, Cond.code yX4_hasRested cX4_hasRested 3 (some .boolean), (Jvm.Cond.stringRef "Slickboom" (205 : Nat) "the TEAM cannot clean"), Cond.methodLink RX9 207 yX4_noteWork, Cond.instanceMethod yX4_noteWork, Cond.selects RX4 yX4_noteWork yX4_noteWork, Cond.code yX4_noteWork cX4_noteWork 3 none, Cond.methodLink RX9 213 Lib.Math.min.name, Cond.methodLink RL 176 yL_meanIs, Cond.static yL_meanIs, (Jvm.Cond.codeWith ({ cls := "SlickboomLaw", name := "meanIs", desc := "(LSlickboom;II[J)I" } : Jvm.MethodName) method_19_code (5 : Nat) (Option.some Jvm.ClassFile.FieldType.int) [((0 : Nat), (10 : Nat), (13 : Nat), (13 : Nat)), ((0 : Nat), (10 : Nat), (17 : Nat), (15 : Nat))]), Cond.methodLink RL 68 yX9_meanIs, Cond.instanceMethod yX9_meanIs, Cond.selects RX9 yX9_meanIs yX9_meanIs, Cond.code yX9_meanIs cX9_meanIs 3 (some .int), Cond.methodLink RL 179 yL_use, Cond.static yL_use, (Jvm.Cond.codeWith ({ cls := "SlickboomLaw", name := "use", desc := "(LSlickboom;II[J)I" } : Jvm.MethodName) method_20_code (5 : Nat) (Option.some Jvm.ClassFile.FieldType.int) [((0 : Nat), (10 : Nat), (13 : Nat), (13 : Nat)), ((0 : Nat), (10 : Nat), (17 : Nat), (15 : Nat)), ((0 : Nat), (10 : Nat), (21 : Nat), (17 : Nat))])]
def gc_3_1 : List Cond := [Cond.methodLink RL 71 yX9_use, Cond.instanceMethod yX9_use, Cond.selects RX9 yX9_use yX9_use, Cond.code yX9_use cX9_use 3 (some .int), Cond.methodLink RX9 221 yX7_howMany, Cond.instanceMethod yX7_howMany, Cond.selects RX7 yX7_howMany yX7_howMany, Cond.code yX7_howMany cX7_howMany 5 (some .int), Cond.methodLink RX7 45 yX7_isAgainst, (Jvm.Cond.privateMethod ({ cls := "Slickboom$Rules", name := "isAgainst", desc := "(III)Z" } : Jvm.MethodName)), Cond.instanceMethod yX7_isAgainst, Cond.code yX7_isAgainst cX7_isAgainst 6 (some .boolean), Cond.methodLink RX7 30 yX0_hasLeakedWithin, Cond.instanceMethod yX0_hasLeakedWithin, Cond.selects RX0 yX0_hasLeakedWithin yX0_hasLeakedWithin, Cond.code yX0_hasLeakedWithin cX0_hasLeakedWithin 2 (some .boolean), Cond.methodLink RX7 41 yX2_isKindBeside, Cond.instanceMethod yX2_isKindBeside, Cond.selects RX2 yX2_isKindBeside yX2_isKindBeside, Cond.code yX2_isKindBeside cX2_isKindBeside 6 (some .boolean), (Jvm.Cond.stringRef "Slickboom" (224 : Nat) "a rule is against it"), Cond.methodLink RX9 226 yX0_disperse, Cond.instanceMethod yX0_disperse, Cond.selects RX0 yX0_disperse yX0_disperse, Cond.code yX0_disperse cX0_disperse 3 (some .int), Cond.methodLink RX9 230 yX0_burn, Cond.instanceMethod yX0_burn, Cond.selects RX0 yX0_burn yX0_burn, Cond.code yX0_burn cX0_burn 3 (some .int), Cond.methodLink RL 182 yL_why, Cond.static yL_why, (Jvm.Cond.codeWith ({ cls := "SlickboomLaw", name := "why", desc := "(LSlickboom;III[J)I" } : Jvm.MethodName) method_21_code (6 : Nat) (Option.some Jvm.ClassFile.FieldType.int) [((0 : Nat), (12 : Nat), (15 : Nat), (13 : Nat)), ((0 : Nat), (12 : Nat), (19 : Nat), (15 : Nat)), ((0 : Nat), (12 : Nat), (23 : Nat), (17 : Nat))]), Cond.methodLink RL 74 yX9_why, Cond.instanceMethod yX9_why, Cond.selects RX9 yX9_why yX9_why, Cond.code yX9_why cX9_why 4 (some .int), Cond.methodLink RX9 233 yX7_first, Cond.instanceMethod yX7_first, Cond.selects RX7 yX7_first yX7_first, Cond.code yX7_first cX7_first 4 (some .int)]
def gc_3_2 : List Cond := [Cond.methodLink RX9 236 yX7_last, Cond.instanceMethod yX7_last, Cond.selects RX7 yX7_last yX7_last, Cond.code yX7_last cX7_last 4 (some .int), Cond.methodLink RL 185 yL_birds, Cond.static yL_birds, (Jvm.Cond.codeWith ({ cls := "SlickboomLaw", name := "birds", desc := "(LSlickboom;II[J)I" } : Jvm.MethodName) method_22_code (5 : Nat) (Option.some Jvm.ClassFile.FieldType.int) [((0 : Nat), (10 : Nat), (13 : Nat), (13 : Nat)), ((0 : Nat), (10 : Nat), (17 : Nat), (15 : Nat)), ((0 : Nat), (10 : Nat), (21 : Nat), (17 : Nat))]), Cond.methodLink RL 77 yX9_birds, Cond.instanceMethod yX9_birds, Cond.selects RX9 yX9_birds yX9_birds, Cond.code yX9_birds cX9_birds 3 (some .int), (Jvm.Cond.stringRef "Slickboom" (239 : Nat) "there would be more than 1000 birds"), Cond.methodLink RL 188 yL_wash, Cond.static yL_wash, (Jvm.Cond.codeWith ({ cls := "SlickboomLaw", name := "wash", desc := "(LSlickboom;II[J)I" } : Jvm.MethodName) method_23_code (5 : Nat) (Option.some Jvm.ClassFile.FieldType.int) [((0 : Nat), (10 : Nat), (13 : Nat), (13 : Nat)), ((0 : Nat), (10 : Nat), (17 : Nat), (15 : Nat)), ((0 : Nat), (10 : Nat), (21 : Nat), (17 : Nat))]), Cond.methodLink RL 80 yX9_wash, Cond.instanceMethod yX9_wash, Cond.selects RX9 yX9_wash yX9_wash, Cond.code yX9_wash cX9_wash 4 (some .int), Cond.methodLink RL 191 yL_sign, Cond.static yL_sign, (Jvm.Cond.codeWith ({ cls := "SlickboomLaw", name := "sign", desc := "(LSlickboom;II[J)I" } : Jvm.MethodName) method_24_code (5 : Nat) (Option.some Jvm.ClassFile.FieldType.int) [((0 : Nat), (17 : Nat), (20 : Nat), (13 : Nat)), ((0 : Nat), (17 : Nat), (24 : Nat), (15 : Nat)), ((0 : Nat), (17 : Nat), (28 : Nat), (17 : Nat))]), Cond.methodLink RL 83 yX9_sign, Cond.instanceMethod yX9_sign, Cond.selects RX9 yX9_sign yX9_sign, Cond.code yX9_sign cX9_sign 4 (some .boolean), Cond.methodLink RX9 241 yX2_isTooDirty, (Jvm.Cond.stringRef "Slickboom" (244 : Nat) "the SHORE has too much STRANDED oil"), (Jvm.Cond.stringRef "Slickboom" (246 : Nat) "the SHORE was signed by them"), Cond.methodLink RL 194 yL_site, Cond.static yL_site, (Jvm.Cond.codeWith ({ cls := "SlickboomLaw", name := "site", desc := "(LSlickboom;II[J)I" } : Jvm.MethodName) method_25_code (5 : Nat) (Option.some Jvm.ClassFile.FieldType.int) [((0 : Nat), (10 : Nat), (13 : Nat), (15 : Nat)), ((0 : Nat), (10 : Nat), (17 : Nat), (17 : Nat))]), Cond.methodLink RL 87 yX9_site, Cond.instanceMethod yX9_site, Cond.selects RX9 yX9_site yX9_site, Cond.code yX9_site cX9_site 3 (some .int), (Jvm.Cond.stringRef "Slickboom" (251 : Nat) "there are 3 SITES"), Cond.methodLink RX9 253 yX3_addSite, Cond.instanceMethod yX3_addSite, Cond.selects RX3 yX3_addSite yX3_addSite]
def gc_3_3 : List Cond := [Cond.code yX3_addSite cX3_addSite 4 (some .int), Cond.methodLink RL 197 yL_deliver, Cond.static yL_deliver, (Jvm.Cond.codeWith ({ cls := "SlickboomLaw", name := "deliver", desc := "(LSlickboom;III[J)I" } : Jvm.MethodName) method_26_code (6 : Nat) (Option.some Jvm.ClassFile.FieldType.int) [((0 : Nat), (12 : Nat), (15 : Nat), (13 : Nat)), ((0 : Nat), (12 : Nat), (19 : Nat), (15 : Nat)), ((0 : Nat), (12 : Nat), (23 : Nat), (17 : Nat))]), Cond.methodLink RL 90 yX9_deliver, Cond.instanceMethod yX9_deliver, Cond.selects RX9 yX9_deliver yX9_deliver, Cond.code yX9_deliver cX9_deliver 4 (some .int), Cond.methodLink RX9 256 yX3_roomFor, Cond.instanceMethod yX3_roomFor, Cond.selects RX3 yX3_roomFor yX3_roomFor, Cond.code yX3_roomFor cX3_roomFor 3 (some .int), (Jvm.Cond.stringRef "Slickboom" (259 : Nat) "there is less waste of that sort, or less room"), Cond.methodLink RX9 261 yX3_take, Cond.instanceMethod yX3_take, Cond.selects RX3 yX3_take yX3_take, Cond.code yX3_take cX3_take 4 none, Cond.methodLink RL 200 yL_waste, Cond.static yL_waste, (Jvm.Cond.codeWith ({ cls := "SlickboomLaw", name := "waste", desc := "(LSlickboom;I[J)I" } : Jvm.MethodName) method_27_code (4 : Nat) (Option.some Jvm.ClassFile.FieldType.int) [((0 : Nat), (9 : Nat), (12 : Nat), (15 : Nat))]), Cond.methodLink RL 93 yX9_waste, Cond.instanceMethod yX9_waste, Cond.selects RX9 yX9_waste yX9_waste, Cond.code yX9_waste cX9_waste 2 (some .int), Cond.methodLink RL 203 yL_claim, Cond.static yL_claim, (Jvm.Cond.codeWith ({ cls := "SlickboomLaw", name := "claim", desc := "(LSlickboom;I[J)I" } : Jvm.MethodName) method_28_code (4 : Nat) (Option.some Jvm.ClassFile.FieldType.int) [((0 : Nat), (9 : Nat), (12 : Nat), (15 : Nat)), ((0 : Nat), (9 : Nat), (15 : Nat), (17 : Nat))]), Cond.methodLink RL 96 yX9_claim, Cond.instanceMethod yX9_claim, Cond.selects RX9 yX9_claim yX9_claim, Cond.code yX9_claim cX9_claim 2 (some .int), Cond.constant RX9 264 1000000, (Jvm.Cond.stringRef "Slickboom" (266 : Nat) "there are 20 CLAIMS"), Cond.methodLink RX9 268 yX6_add, Cond.instanceMethod yX6_add, Cond.selects RX6 yX6_add yX6_add, Cond.code yX6_add cX6_add 3 (some .int), Cond.methodLink RL 206 yL_layers, Cond.static yL_layers, (Jvm.Cond.codeWith ({ cls := "SlickboomLaw", name := "layers", desc := "(LSlickboom;II[J)I" } : Jvm.MethodName) method_29_code (5 : Nat) (Option.some Jvm.ClassFile.FieldType.int) [((0 : Nat), (10 : Nat), (13 : Nat), (15 : Nat))])]
def gc_3_4 : List Cond := [Cond.methodLink RL 99 yX9_layers, Cond.instanceMethod yX9_layers, Cond.selects RX9 yX9_layers yX9_layers, Cond.code yX9_layers cX9_layers 4 (some .int), Cond.constant RX9 270 10000000, Cond.methodLink RL 209 yL_due, Cond.static yL_due, (Jvm.Cond.codeWith ({ cls := "SlickboomLaw", name := "due", desc := "(LSlickboom;II[J)I" } : Jvm.MethodName) method_30_code (5 : Nat) (Option.some Jvm.ClassFile.FieldType.int) [((0 : Nat), (10 : Nat), (13 : Nat), (13 : Nat)), ((0 : Nat), (10 : Nat), (17 : Nat), (15 : Nat))]), Cond.methodLink RL 102 yX9_due, Cond.instanceMethod yX9_due, Cond.selects RX9 yX9_due yX9_due, Cond.code yX9_due cX9_due 7 (some .int), Cond.methodLink RX9 277 yX6_getsOf, Cond.instanceMethod yX6_getsOf, Cond.selects RX6 yX6_getsOf yX6_getsOf, Cond.code yX6_getsOf cX6_getsOf 2 (some .long), Cond.methodLink RX6 35 yX6_allGet, (Jvm.Cond.privateMethod ({ cls := "Slickboom$Payers", name := "allGet", desc := "()J" } : Jvm.MethodName)), Cond.instanceMethod yX6_allGet, Cond.code yX6_allGet cX6_allGet 1 (some .long), Cond.methodLink RX6 29 Lib.MathLoose.min_long.x, Cond.static Lib.MathLoose.min_long.x, Cond.code Lib.MathLoose.min_long.x Lib.MathLoose.min_long.code 4 (some .long), Cond.methodLink RX9 281 yX6_ownersPartOf, Cond.instanceMethod yX6_ownersPartOf, Cond.selects RX6 yX6_ownersPartOf yX6_ownersPartOf, Cond.code yX6_ownersPartOf cX6_ownersPartOf 5 (some .long), Cond.methodLink RL 212 yL_ahead, Cond.static yL_ahead, (Jvm.Cond.codeWith ({ cls := "SlickboomLaw", name := "ahead", desc := "(LSlickboom;II[J)I" } : Jvm.MethodName) method_31_code (5 : Nat) (Option.some Jvm.ClassFile.FieldType.int) [((0 : Nat), (10 : Nat), (13 : Nat), (13 : Nat)), ((0 : Nat), (10 : Nat), (17 : Nat), (15 : Nat))]), Cond.methodLink RL 105 yX9_ahead, Cond.instanceMethod yX9_ahead, Cond.selects RX9 yX9_ahead yX9_ahead, Cond.code yX9_ahead cX9_ahead 3 (some .int), Cond.methodLink RX9 285 yX0_becomeLike, Cond.instanceMethod yX0_becomeLike, Cond.selects RX0 yX0_becomeLike yX0_becomeLike, Cond.code yX0_becomeLike cX0_becomeLike 2 none, Cond.methodLink RX0 50 yX2_becomeLike, Cond.instanceMethod yX2_becomeLike]
def gc_3_5 : List Cond := [Cond.selects RX2 yX2_becomeLike yX2_becomeLike, Cond.code yX2_becomeLike cX2_becomeLike 2 none, Cond.methodLink RX2 67 arraycopyName, Cond.static arraycopyName, Cond.native arraycopyName, Cond.methodLink RX0 54 yX8_becomeLike, Cond.instanceMethod yX8_becomeLike, Cond.selects RX8 yX8_becomeLike yX8_becomeLike, Cond.code yX8_becomeLike cX8_becomeLike 2 none, Cond.methodLink RX8 31 arraycopyName, Cond.methodLink RX0 57 yX4_becomeLike, Cond.instanceMethod yX4_becomeLike, Cond.selects RX4 yX4_becomeLike yX4_becomeLike, Cond.code yX4_becomeLike cX4_becomeLike 2 none, Cond.methodLink RX4 63 arraycopyName, Cond.methodLink RX9 288 yX2_oilOf, Cond.instanceMethod yX2_oilOf, Cond.selects RX2 yX2_oilOf yX2_oilOf, Cond.code yX2_oilOf cX2_oilOf 2 (some .int), Cond.methodLink RL 215 yL_nextAnew, Cond.static yL_nextAnew, (Jvm.Cond.codeWith ({ cls := "SlickboomLaw", name := "nextAnew", desc := "(LSlickboom;I[J)I" } : Jvm.MethodName) method_32_code (4 : Nat) (Option.some Jvm.ClassFile.FieldType.int) [((0 : Nat), (9 : Nat), (12 : Nat), (13 : Nat))]), Cond.methodLink RL 108 yX9_nextAnew, Cond.instanceMethod yX9_nextAnew, Cond.selects RX9 yX9_nextAnew yX9_nextAnew, Cond.code yX9_nextAnew cX9_nextAnew 2 (some .int), Cond.methodLink RX9 294 yX5_floatingOf, Cond.instanceMethod yX5_floatingOf, Cond.selects RX5 yX5_floatingOf yX5_floatingOf, Cond.code yX5_floatingOf cX5_floatingOf 6 (some .int), Cond.methodLink RX5 15 yX5_weigh, (Jvm.Cond.privateMethod ({ cls := "Slickboom$NextHour", name := "weigh", desc := "(I)V" } : Jvm.MethodName)), Cond.instanceMethod yX5_weigh, Cond.code yX5_weigh cX5_weigh 8 none, Cond.methodLink RX5 78 yX5_leaksInto, (Jvm.Cond.privateMethod ({ cls := "Slickboom$NextHour", name := "leaksInto", desc := "(I)I" } : Jvm.MethodName)), Cond.instanceMethod yX5_leaksInto, Cond.code yX5_leaksInto cX5_leaksInto 5 (some .int), Cond.methodLink RX5 71 yX0_tideOf, Cond.methodLink RX5 120 yX8_leakOf]
set_option maxRecDepth 100000 in
theorem tb_3 : tables_1_4 = gc_3_0 ++ (gc_3_1 ++ (gc_3_2 ++ (gc_3_3 ++ (gc_3_4 ++ (gc_3_5))))) := rfl
theorem in_3_0 : ∀ w ∈ gc_3_0, w ∈ lw_tbl := fun w h => List.mem_append_right _ (show w ∈ tables_1 from List.mem_append_right _ (List.mem_append_right _ (List.mem_append_right _ (List.mem_append_left _ (show w ∈ tables_1_4 by rw [tb_3]; exact List.mem_append_left _ h)))))
theorem in_3_1 : ∀ w ∈ gc_3_1, w ∈ lw_tbl := fun w h => List.mem_append_right _ (show w ∈ tables_1 from List.mem_append_right _ (List.mem_append_right _ (List.mem_append_right _ (List.mem_append_left _ (show w ∈ tables_1_4 by rw [tb_3]; exact List.mem_append_right _ (List.mem_append_left _ h))))))
theorem in_3_2 : ∀ w ∈ gc_3_2, w ∈ lw_tbl := fun w h => List.mem_append_right _ (show w ∈ tables_1 from List.mem_append_right _ (List.mem_append_right _ (List.mem_append_right _ (List.mem_append_left _ (show w ∈ tables_1_4 by rw [tb_3]; exact List.mem_append_right _ (List.mem_append_right _ (List.mem_append_left _ h)))))))
theorem in_3_3 : ∀ w ∈ gc_3_3, w ∈ lw_tbl := fun w h => List.mem_append_right _ (show w ∈ tables_1 from List.mem_append_right _ (List.mem_append_right _ (List.mem_append_right _ (List.mem_append_left _ (show w ∈ tables_1_4 by rw [tb_3]; exact List.mem_append_right _ (List.mem_append_right _ (List.mem_append_right _ (List.mem_append_left _ h))))))))
theorem in_3_4 : ∀ w ∈ gc_3_4, w ∈ lw_tbl := fun w h => List.mem_append_right _ (show w ∈ tables_1 from List.mem_append_right _ (List.mem_append_right _ (List.mem_append_right _ (List.mem_append_left _ (show w ∈ tables_1_4 by rw [tb_3]; exact List.mem_append_right _ (List.mem_append_right _ (List.mem_append_right _ (List.mem_append_right _ (List.mem_append_left _ h)))))))))
theorem in_3_5 : ∀ w ∈ gc_3_5, w ∈ lw_tbl := fun w h => List.mem_append_right _ (show w ∈ tables_1 from List.mem_append_right _ (List.mem_append_right _ (List.mem_append_right _ (List.mem_append_left _ (show w ∈ tables_1_4 by rw [tb_3]; exact List.mem_append_right _ (List.mem_append_right _ (List.mem_append_right _ (List.mem_append_right _ (List.mem_append_right _ (h))))))))))
def gc_4_0 : List Cond := [Cond.methodLink RX5 91 yX4_boomOn, Cond.methodLink RX5 102 yX0_roomBehind, Cond.methodLink RX5 105 yX0_blown, Cond.methodLink RX5 32 yX5_waterAgainstWind, (Jvm.Cond.privateMethod ({ cls := "Slickboom$NextHour", name := "waterAgainstWind", desc := "(I)I" } : Jvm.MethodName)), Cond.instanceMethod yX5_waterAgainstWind, Cond.code yX5_waterAgainstWind cX5_waterAgainstWind 3 (some .int), Cond.methodLink RX5 123 yX2_opposite, Cond.methodLink RX5 36 yX2_beside, Cond.methodLink RX5 126 yX2_isWater, Cond.methodLink RX5 42 yX5_givenBackTo, (Jvm.Cond.privateMethod ({ cls := "Slickboom$NextHour", name := "givenBackTo", desc := "(II)I" } : Jvm.MethodName)), Cond.instanceMethod yX5_givenBackTo, Cond.code yX5_givenBackTo cX5_givenBackTo 3 (some .int), Cond.methodLink RX5 52 yX5_isHighTide, (Jvm.Cond.privateMethod ({ cls := "Slickboom$NextHour", name := "isHighTide", desc := "()Z" } : Jvm.MethodName)), Cond.instanceMethod yX5_isHighTide, Cond.code yX5_isHighTide cX5_isHighTide 1 (some .boolean), Cond.methodLink RX5 62 yX2_lowestWaterBeside, Cond.methodLink RX5 49 yX5_landedOn, (Jvm.Cond.privateMethod ({ cls := "Slickboom$NextHour", name := "landedOn", desc := "(I)I" } : Jvm.MethodName)), Cond.instanceMethod yX5_landedOn, Cond.code yX5_landedOn cX5_landedOn 4 (some .int), Cond.methodLink RX5 65 yX2_backOf, Cond.methodLink RX5 45 yX5_leftBySkimmers, (Jvm.Cond.privateMethod ({ cls := "Slickboom$NextHour", name := "leftBySkimmers", desc := "(III)I" } : Jvm.MethodName)), Cond.instanceMethod yX5_leftBySkimmers, Cond.code yX5_leftBySkimmers cX5_leftBySkimmers 8 (some .int), Cond.methodLink RX5 134 yX4_isSkimmer, Cond.methodLink RX5 138 yX4_freshTaken, Cond.methodLink RX5 141 yX4_thickTaken, Cond.methodLink RX9 297 yX5_strandedOf, Cond.instanceMethod yX5_strandedOf, Cond.selects RX5 yX5_strandedOf yX5_strandedOf, Cond.code yX5_strandedOf cX5_strandedOf 4 (some .int), Cond.methodLink RL 218 yL_sum, Cond.static yL_sum, (Jvm.Cond.codeWith ({ cls := "SlickboomLaw", name := "sum", desc := "(LSlickboom;I[J)I" } : Jvm.MethodName) method_33_code (4 : Nat) (Option.some Jvm.ClassFile.FieldType.int) [((0 : Nat), (9 : Nat), (12 : Nat), (15 : Nat))]), Cond.methodLink RL 111 yX9_sum, Cond.instanceMethod yX9_sum]
def gc_4_1 : List Cond := [Cond.selects RX9 yX9_sum yX9_sum, Cond.code yX9_sum cX9_sum 3 (some .int), Cond.methodLink RX9 309 yX8_allLitres, Cond.instanceMethod yX8_allLitres, Cond.selects RX8 yX8_allLitres yX8_allLitres, Cond.code yX8_allLitres cX8_allLitres 3 (some .int), Cond.methodLink RX9 313 yX2_allFloating, Cond.instanceMethod yX2_allFloating, Cond.selects RX2 yX2_allFloating yX2_allFloating, Cond.code yX2_allFloating cX2_allFloating 3 (some .int), Cond.methodLink RX9 325 yX2_allStranded, Cond.instanceMethod yX2_allStranded, Cond.selects RX2 yX2_allStranded yX2_allStranded, Cond.code yX2_allStranded cX2_allStranded 3 (some .int), Cond.methodLink RX9 328 yX4_allInStores, Cond.instanceMethod yX4_allInStores, Cond.selects RX4 yX4_allInStores yX4_allInStores, Cond.code yX4_allInStores cX4_allInStores 3 (some .int), Cond.methodLink RX9 337 yX3_allWaste, Cond.instanceMethod yX3_allWaste, Cond.selects RX3 yX3_allWaste yX3_allWaste, Cond.code yX3_allWaste cX3_allWaste 1 (some .int), Cond.classLink RL 115 RX10, Cond.instantiable RX10 29, Cond.methodLink RL 117 yX10_init, Cond.instanceMethod yX10_init, Cond.code yX10_init cX10_init 2 none, Cond.methodLink RX10 1 objectInit, Cond.fieldLink RX10 7 RX10 "now" "[I", Cond.fieldLink RX10 13 RX10 "kept" "[I", Cond.fieldLink RX10 16 RX10 "kind" "[I", Cond.fieldLink RX10 19 RX10 "depth" "[I", Cond.fieldLink RX10 22 RX10 "going" "[I", Cond.fieldLink RX10 91 RX10 "way" "I", Cond.fieldLink RX10 94 RX10 "strength" "I", Cond.fieldLink RX10 70 RX10 "ships" "I", Cond.fieldLink RX10 25 RX10 "shipCell" "[I", Cond.fieldLink RX10 28 RX10 "rate" "[I", Cond.fieldLink RX10 73 RX10 "means" "I", Cond.fieldLink RX10 31 RX10 "sort" "[I"]
def gc_4_2 : List Cond := [Cond.fieldLink RX10 34 RX10 "meanCell" "[I", Cond.fieldLink RX10 37 RX10 "border" "[I", Cond.fieldLink RX10 40 RX10 "force" "[I", Cond.fieldLink RX10 43 RX10 "store" "[I", Cond.fieldLink RX10 46 RX10 "taught" "[Z", Cond.fieldLink RX10 50 RX10 "last" "[I", Cond.fieldLink RX10 159 RX10 "deep" "I", Cond.fieldLink RX10 162 RX10 "burnt" "I", Cond.fieldLink RX10 53 RX10 "waste" "[I", Cond.fieldLink RX10 168 RX10 "delivered" "I", Cond.fieldLink RX10 165 RX10 "sites" "I", Cond.fieldLink RX10 56 RX10 "room" "[I", Cond.fieldLink RX10 172 RX10 "claims" "I", Cond.fieldLink RX10 59 RX10 "cents" "[I", Cond.fieldLink RX10 176 RX10 "owner" "I", Cond.fieldLink RX10 179 RX10 "fund" "I", Cond.fieldLink RX10 62 RX10 "thrown" "I", (Jvm.Cond.laysFinal "SlickboomModel" "SlickboomModel" "now" "[I"), (Jvm.Cond.soleField "SlickboomModel" "now"), (Jvm.Cond.laysFinal "SlickboomModel" "SlickboomModel" "kept" "[I"), (Jvm.Cond.soleField "SlickboomModel" "kept"), (Jvm.Cond.laysFinal "SlickboomModel" "SlickboomModel" "kind" "[I"), (Jvm.Cond.soleField "SlickboomModel" "kind"), (Jvm.Cond.laysFinal "SlickboomModel" "SlickboomModel" "depth" "[I"), (Jvm.Cond.soleField "SlickboomModel" "depth"), (Jvm.Cond.laysFinal "SlickboomModel" "SlickboomModel" "going" "[I"), (Jvm.Cond.soleField "SlickboomModel" "going"), (Jvm.Cond.lays "SlickboomModel" "SlickboomModel" "way" "I"), (Jvm.Cond.soleField "SlickboomModel" "way"), (Jvm.Cond.lays "SlickboomModel" "SlickboomModel" "strength" "I"), (Jvm.Cond.soleField "SlickboomModel" "strength"), (Jvm.Cond.lays "SlickboomModel" "SlickboomModel" "ships" "I"), (Jvm.Cond.soleField "SlickboomModel" "ships"), (Jvm.Cond.laysFinal "SlickboomModel" "SlickboomModel" "shipCell" "[I"), (Jvm.Cond.soleField "SlickboomModel" "shipCell"), (Jvm.Cond.laysFinal "SlickboomModel" "SlickboomModel" "rate" "[I"), (Jvm.Cond.soleField "SlickboomModel" "rate"), (Jvm.Cond.lays "SlickboomModel" "SlickboomModel" "means" "I"), (Jvm.Cond.soleField "SlickboomModel" "means"), (Jvm.Cond.laysFinal "SlickboomModel" "SlickboomModel" "sort" "[I")]
def gc_4_3 : List Cond := [(Jvm.Cond.soleField "SlickboomModel" "sort"), (Jvm.Cond.laysFinal "SlickboomModel" "SlickboomModel" "meanCell" "[I"), (Jvm.Cond.soleField "SlickboomModel" "meanCell"), (Jvm.Cond.laysFinal "SlickboomModel" "SlickboomModel" "border" "[I"), (Jvm.Cond.soleField "SlickboomModel" "border"), (Jvm.Cond.laysFinal "SlickboomModel" "SlickboomModel" "force" "[I"), (Jvm.Cond.soleField "SlickboomModel" "force"), (Jvm.Cond.laysFinal "SlickboomModel" "SlickboomModel" "store" "[I"), (Jvm.Cond.soleField "SlickboomModel" "store"), (Jvm.Cond.laysFinal "SlickboomModel" "SlickboomModel" "taught" "[Z"), (Jvm.Cond.soleField "SlickboomModel" "taught"), (Jvm.Cond.laysFinal "SlickboomModel" "SlickboomModel" "last" "[I"), (Jvm.Cond.soleField "SlickboomModel" "last"), (Jvm.Cond.lays "SlickboomModel" "SlickboomModel" "deep" "I"), (Jvm.Cond.soleField "SlickboomModel" "deep"), (Jvm.Cond.lays "SlickboomModel" "SlickboomModel" "burnt" "I"), (Jvm.Cond.soleField "SlickboomModel" "burnt"), (Jvm.Cond.laysFinal "SlickboomModel" "SlickboomModel" "waste" "[I"), (Jvm.Cond.soleField "SlickboomModel" "waste"), (Jvm.Cond.lays "SlickboomModel" "SlickboomModel" "delivered" "I"), (Jvm.Cond.soleField "SlickboomModel" "delivered"), (Jvm.Cond.lays "SlickboomModel" "SlickboomModel" "sites" "I"), (Jvm.Cond.soleField "SlickboomModel" "sites"), (Jvm.Cond.laysFinal "SlickboomModel" "SlickboomModel" "room" "[I"), (Jvm.Cond.soleField "SlickboomModel" "room"), (Jvm.Cond.lays "SlickboomModel" "SlickboomModel" "claims" "I"), (Jvm.Cond.soleField "SlickboomModel" "claims"), (Jvm.Cond.laysFinal "SlickboomModel" "SlickboomModel" "cents" "[I"), (Jvm.Cond.soleField "SlickboomModel" "cents"), (Jvm.Cond.lays "SlickboomModel" "SlickboomModel" "owner" "I"), (Jvm.Cond.soleField "SlickboomModel" "owner"), (Jvm.Cond.lays "SlickboomModel" "SlickboomModel" "fund" "I"), (Jvm.Cond.soleField "SlickboomModel" "fund"), (Jvm.Cond.lays "SlickboomModel" "SlickboomModel" "thrown" "I"), (Jvm.Cond.soleField "SlickboomModel" "thrown"), (Jvm.Cond.superclass "SlickboomModel" "java/lang/Object"), Cond.methodLink RL 124 yX10_thrown, Cond.instanceMethod yX10_thrown, Cond.selects RX10 yX10_thrown yX10_thrown, Cond.code yX10_thrown cX10_thrown 1 (some .int)]
def gc_4_4 : List Cond := [Cond.methodLink RL 123 yX10_shore, Cond.instanceMethod yX10_shore, Cond.selects RX10 yX10_shore yX10_shore, Cond.code yX10_shore cX10_shore 5 (some .int), Cond.methodLink RX10 76 yX10_isCell, Cond.static yX10_isCell, Cond.code yX10_isCell cX10_isCell 1 (some .boolean), Cond.methodLink RX10 66 yX10_in, Cond.static yX10_in, Cond.code yX10_in cX10_in 3 (some .boolean), Cond.methodLink RX10 131 yX10_fails, (Jvm.Cond.privateMethod ({ cls := "SlickboomModel", name := "fails", desc := "(ZI)Z" } : Jvm.MethodName)), Cond.instanceMethod yX10_fails, Cond.code yX10_fails cX10_fails 3 (some .boolean), Cond.methodLink RL 130 yX10_depth, Cond.instanceMethod yX10_depth, Cond.selects RX10 yX10_depth yX10_depth, Cond.code yX10_depth cX10_depth 4 (some .int), Cond.methodLink RL 133 yX10_wind, Cond.instanceMethod yX10_wind, Cond.selects RX10 yX10_wind yX10_wind, Cond.code yX10_wind cX10_wind 4 (some .int), Cond.methodLink RL 136 yX10_ship, Cond.instanceMethod yX10_ship, Cond.selects RX10 yX10_ship yX10_ship, Cond.code yX10_ship cX10_ship 3 (some .int), Cond.constant RX10 135 100000, Cond.methodLink RL 139 yX10_hole, Cond.instanceMethod yX10_hole, Cond.selects RX10 yX10_hole yX10_hole, Cond.code yX10_hole cX10_hole 4 (some .int), Cond.methodLink RX10 136 yX10_isShip, (Jvm.Cond.privateMethod ({ cls := "SlickboomModel", name := "isShip", desc := "(I)Z" } : Jvm.MethodName)), Cond.instanceMethod yX10_isShip, Cond.code yX10_isShip cX10_isShip 2 (some .boolean), Cond.methodLink RL 143 yX10_pump, Cond.instanceMethod yX10_pump, Cond.selects RX10 yX10_pump yX10_pump, Cond.code yX10_pump cX10_pump 4 (some .int), Cond.methodLink RL 147 yX10_shipHas]
def gc_4_5 : List Cond := [Cond.instanceMethod yX10_shipHas, Cond.selects RX10 yX10_shipHas yX10_shipHas, Cond.code yX10_shipHas cX10_shipHas 2 (some .int), Cond.methodLink RL 150 yX10_pass, Cond.instanceMethod yX10_pass, Cond.selects RX10 yX10_pass yX10_pass, Cond.code yX10_pass cX10_pass 3 (some .int), Cond.methodLink RX10 139 yX10_hour, (Jvm.Cond.privateMethod ({ cls := "SlickboomModel", name := "hour", desc := "()V" } : Jvm.MethodName)), Cond.instanceMethod yX10_hour, Cond.code yX10_hour cX10_hour 4 none, Cond.methodLink RX10 106 yX10_leak, (Jvm.Cond.privateMethod ({ cls := "SlickboomModel", name := "leak", desc := "(II)I" } : Jvm.MethodName)), Cond.instanceMethod yX10_leak, Cond.code yX10_leak cX10_leak 4 (some .int), Cond.methodLink RX10 84 yX10_tide, Cond.static yX10_tide, Cond.code yX10_tide cX10_tide 2 (some .int), Cond.methodLink RX10 88 yX10_least, Cond.static yX10_least, Cond.code yX10_least cX10_least 2 (some .int), Cond.methodLink RX10 109 yX10_weather, (Jvm.Cond.privateMethod ({ cls := "SlickboomModel", name := "weather", desc := "(I)V" } : Jvm.MethodName)), Cond.instanceMethod yX10_weather, Cond.code yX10_weather cX10_weather 5 none, Cond.methodLink RX10 113 yX10_look, (Jvm.Cond.privateMethod ({ cls := "SlickboomModel", name := "look", desc := "(I)V" } : Jvm.MethodName)), Cond.instanceMethod yX10_look, Cond.code yX10_look cX10_look 7 none, Cond.methodLink RX10 80 yX10_beside, Cond.static yX10_beside, Cond.code yX10_beside cX10_beside 3 (some .int), Cond.methodLink RX10 97 yX10_holds, (Jvm.Cond.privateMethod ({ cls := "SlickboomModel", name := "holds", desc := "(I)I" } : Jvm.MethodName)), Cond.instanceMethod yX10_holds, Cond.code yX10_holds cX10_holds 2 (some .int), Cond.methodLink RX10 100 yX10_borderOf, Cond.static yX10_borderOf, Cond.code yX10_borderOf cX10_borderOf 3 (some .int), Cond.methodLink RX10 103 yX10_boomOn]
set_option maxRecDepth 100000 in
theorem tb_4 : tables_1_5 = gc_4_0 ++ (gc_4_1 ++ (gc_4_2 ++ (gc_4_3 ++ (gc_4_4 ++ (gc_4_5))))) := rfl
theorem in_4_0 : ∀ w ∈ gc_4_0, w ∈ lw_tbl := fun w h => List.mem_append_right _ (show w ∈ tables_1 from List.mem_append_right _ (List.mem_append_right _ (List.mem_append_right _ (List.mem_append_right _ (List.mem_append_left _ (show w ∈ tables_1_5 by rw [tb_4]; exact List.mem_append_left _ h))))))
theorem in_4_1 : ∀ w ∈ gc_4_1, w ∈ lw_tbl := fun w h => List.mem_append_right _ (show w ∈ tables_1 from List.mem_append_right _ (List.mem_append_right _ (List.mem_append_right _ (List.mem_append_right _ (List.mem_append_left _ (show w ∈ tables_1_5 by rw [tb_4]; exact List.mem_append_right _ (List.mem_append_left _ h)))))))
theorem in_4_2 : ∀ w ∈ gc_4_2, w ∈ lw_tbl := fun w h => List.mem_append_right _ (show w ∈ tables_1 from List.mem_append_right _ (List.mem_append_right _ (List.mem_append_right _ (List.mem_append_right _ (List.mem_append_left _ (show w ∈ tables_1_5 by rw [tb_4]; exact List.mem_append_right _ (List.mem_append_right _ (List.mem_append_left _ h))))))))
theorem in_4_3 : ∀ w ∈ gc_4_3, w ∈ lw_tbl := fun w h => List.mem_append_right _ (show w ∈ tables_1 from List.mem_append_right _ (List.mem_append_right _ (List.mem_append_right _ (List.mem_append_right _ (List.mem_append_left _ (show w ∈ tables_1_5 by rw [tb_4]; exact List.mem_append_right _ (List.mem_append_right _ (List.mem_append_right _ (List.mem_append_left _ h)))))))))
theorem in_4_4 : ∀ w ∈ gc_4_4, w ∈ lw_tbl := fun w h => List.mem_append_right _ (show w ∈ tables_1 from List.mem_append_right _ (List.mem_append_right _ (List.mem_append_right _ (List.mem_append_right _ (List.mem_append_left _ (show w ∈ tables_1_5 by rw [tb_4]; exact List.mem_append_right _ (List.mem_append_right _ (List.mem_append_right _ (List.mem_append_right _ (List.mem_append_left _ h))))))))))
theorem in_4_5 : ∀ w ∈ gc_4_5, w ∈ lw_tbl := fun w h => List.mem_append_right _ (show w ∈ tables_1 from List.mem_append_right _ (List.mem_append_right _ (List.mem_append_right _ (List.mem_append_right _ (List.mem_append_left _ (show w ∈ tables_1_5 by rw [tb_4]; exact List.mem_append_right _ (List.mem_append_right _ (List.mem_append_right _ (List.mem_append_right _ (List.mem_append_right _ (h)))))))))))
def gc_5_0 : List Cond := [(Jvm.Cond.privateMethod ({ cls := "SlickboomModel", name := "boomOn", desc := "(I)I" } : Jvm.MethodName)), Cond.instanceMethod yX10_boomOn, Cond.code yX10_boomOn cX10_boomOn 3 (some .int), Cond.methodLink RX10 116 yX10_drift, (Jvm.Cond.privateMethod ({ cls := "SlickboomModel", name := "drift", desc := "(I)V" } : Jvm.MethodName)), Cond.instanceMethod yX10_drift, Cond.code yX10_drift cX10_drift 5 none, Cond.methodLink RX10 119 yX10_lowestWater, (Jvm.Cond.privateMethod ({ cls := "SlickboomModel", name := "lowestWater", desc := "(I)I" } : Jvm.MethodName)), Cond.instanceMethod yX10_lowestWater, Cond.code yX10_lowestWater cX10_lowestWater 5 (some .int), Cond.methodLink RX10 122 yX10_back, (Jvm.Cond.privateMethod ({ cls := "SlickboomModel", name := "back", desc := "(II)I" } : Jvm.MethodName)), Cond.instanceMethod yX10_back, Cond.code yX10_back cX10_back 3 (some .int), Cond.methodLink RX10 125 yX10_skim, (Jvm.Cond.privateMethod ({ cls := "SlickboomModel", name := "skim", desc := "(I)V" } : Jvm.MethodName)), Cond.instanceMethod yX10_skim, Cond.code yX10_skim cX10_skim 6 none, Cond.methodLink RX10 128 yX10_suffer, (Jvm.Cond.privateMethod ({ cls := "SlickboomModel", name := "suffer", desc := "(I)V" } : Jvm.MethodName)), Cond.instanceMethod yX10_suffer, Cond.code yX10_suffer cX10_suffer 4 none, Cond.methodLink RL 153 yX10_at, Cond.instanceMethod yX10_at, Cond.selects RX10 yX10_at yX10_at, Cond.code yX10_at cX10_at 3 (some .int), Cond.methodLink RX10 142 yX10_signatures, (Jvm.Cond.privateMethod ({ cls := "SlickboomModel", name := "signatures", desc := "(I)I" } : Jvm.MethodName)), Cond.instanceMethod yX10_signatures, Cond.code yX10_signatures cX10_signatures 3 (some .int), Cond.methodLink RL 156 yX10_boom, Cond.instanceMethod yX10_boom, Cond.selects RX10 yX10_boom yX10_boom, Cond.code yX10_boom cX10_boom 5 (some .int), Cond.methodLink RX10 145 yX10_mean, (Jvm.Cond.privateMethod ({ cls := "SlickboomModel", name := "mean", desc := "(IIII)I" } : Jvm.MethodName)), Cond.instanceMethod yX10_mean, Cond.code yX10_mean cX10_mean 5 (some .int), Cond.methodLink RL 159 yX10_skimmer]
def gc_5_1 : List Cond := [Cond.instanceMethod yX10_skimmer, Cond.selects RX10 yX10_skimmer yX10_skimmer, Cond.code yX10_skimmer cX10_skimmer 4 (some .int), Cond.methodLink RL 163 yX10_team, Cond.instanceMethod yX10_team, Cond.selects RX10 yX10_team yX10_team, Cond.code yX10_team cX10_team 3 (some .int), Cond.methodLink RL 166 yX10_move, Cond.instanceMethod yX10_move, Cond.selects RX10 yX10_move yX10_move, Cond.code yX10_move cX10_move 4 (some .int), Cond.methodLink RX10 149 yX10_isMean, (Jvm.Cond.privateMethod ({ cls := "SlickboomModel", name := "isMean", desc := "(I)Z" } : Jvm.MethodName)), Cond.instanceMethod yX10_isMean, Cond.code yX10_isMean cX10_isMean 2 (some .boolean), Cond.methodLink RL 169 yX10_carry, Cond.instanceMethod yX10_carry, Cond.selects RX10 yX10_carry yX10_carry, Cond.code yX10_carry cX10_carry 3 (some .int), Cond.methodLink RL 172 yX10_teach, Cond.instanceMethod yX10_teach, Cond.selects RX10 yX10_teach yX10_teach, Cond.code yX10_teach cX10_teach 3 (some .boolean), Cond.methodLink RL 175 yX10_clean, Cond.instanceMethod yX10_clean, Cond.selects RX10 yX10_clean yX10_clean, Cond.code yX10_clean cX10_clean 7 (some .int), Cond.methodLink RL 178 yX10_meanIs, Cond.instanceMethod yX10_meanIs, Cond.selects RX10 yX10_meanIs yX10_meanIs, Cond.code yX10_meanIs cX10_meanIs 3 (some .int), Cond.methodLink RL 181 yX10_use, Cond.instanceMethod yX10_use, Cond.selects RX10 yX10_use yX10_use, Cond.code yX10_use cX10_use 4 (some .int), Cond.methodLink RX10 155 yX10_rules, (Jvm.Cond.privateMethod ({ cls := "SlickboomModel", name := "rules", desc := "(III)I" } : Jvm.MethodName)), Cond.instanceMethod yX10_rules, Cond.code yX10_rules cX10_rules 8 (some .int), Cond.methodLink RX10 152 yX10_isAgainst]
def gc_5_2 : List Cond := [(Jvm.Cond.privateMethod ({ cls := "SlickboomModel", name := "isAgainst", desc := "(III)Z" } : Jvm.MethodName)), Cond.instanceMethod yX10_isAgainst, Cond.code yX10_isAgainst cX10_isAgainst 8 (some .boolean), Cond.methodLink RL 184 yX10_why, Cond.instanceMethod yX10_why, Cond.selects RX10 yX10_why yX10_why, Cond.code yX10_why cX10_why 4 (some .int), Cond.methodLink RL 187 yX10_birds, Cond.instanceMethod yX10_birds, Cond.selects RX10 yX10_birds yX10_birds, Cond.code yX10_birds cX10_birds 3 (some .int), Cond.methodLink RL 190 yX10_wash, Cond.instanceMethod yX10_wash, Cond.selects RX10 yX10_wash yX10_wash, Cond.code yX10_wash cX10_wash 4 (some .int), Cond.methodLink RL 193 yX10_sign, Cond.instanceMethod yX10_sign, Cond.selects RX10 yX10_sign yX10_sign, Cond.code yX10_sign cX10_sign 4 (some .boolean), Cond.methodLink RL 196 yX10_site, Cond.instanceMethod yX10_site, Cond.selects RX10 yX10_site yX10_site, Cond.code yX10_site cX10_site 3 (some .int), Cond.methodLink RL 199 yX10_deliver, Cond.instanceMethod yX10_deliver, Cond.selects RX10 yX10_deliver yX10_deliver, Cond.code yX10_deliver cX10_deliver 4 (some .int), Cond.methodLink RL 202 yX10_waste, Cond.instanceMethod yX10_waste, Cond.selects RX10 yX10_waste yX10_waste, Cond.code yX10_waste cX10_waste 2 (some .int), Cond.methodLink RL 205 yX10_claim, Cond.instanceMethod yX10_claim, Cond.selects RX10 yX10_claim yX10_claim, Cond.code yX10_claim cX10_claim 2 (some .int), Cond.constant RX10 171 1000000, Cond.methodLink RL 208 yX10_layers, Cond.instanceMethod yX10_layers, Cond.selects RX10 yX10_layers yX10_layers, Cond.code yX10_layers cX10_layers 4 (some .int)]
def gc_5_3 : List Cond := [Cond.constant RX10 175 10000000, Cond.methodLink RL 211 yX10_due, Cond.instanceMethod yX10_due, Cond.selects RX10 yX10_due yX10_due, Cond.code yX10_due cX10_due 7 (some .int), Cond.methodLink RL 214 yX10_ahead, Cond.instanceMethod yX10_ahead, Cond.selects RX10 yX10_ahead yX10_ahead, Cond.code yX10_ahead cX10_ahead 5 (some .int), Cond.methodLink RL 217 yX10_nextAnew, Cond.instanceMethod yX10_nextAnew, Cond.selects RX10 yX10_nextAnew yX10_nextAnew, Cond.code yX10_nextAnew cX10_nextAnew 10 (some .int), Cond.methodLink RX10 189 yX10_strands, (Jvm.Cond.privateMethod ({ cls := "SlickboomModel", name := "strands", desc := "(I)I" } : Jvm.MethodName)), Cond.instanceMethod yX10_strands, Cond.code yX10_strands cX10_strands 3 (some .int), Cond.methodLink RX10 186 yX10_goes, (Jvm.Cond.privateMethod ({ cls := "SlickboomModel", name := "goes", desc := "(IZ)I" } : Jvm.MethodName)), Cond.instanceMethod yX10_goes, Cond.code yX10_goes cX10_goes 8 (some .int), Cond.methodLink RX10 182 yX10_floats, (Jvm.Cond.privateMethod ({ cls := "SlickboomModel", name := "floats", desc := "(IZ)I" } : Jvm.MethodName)), Cond.instanceMethod yX10_floats, Cond.code yX10_floats cX10_floats 5 (some .int), Cond.methodLink RL 220 yX10_sum, Cond.instanceMethod yX10_sum, Cond.selects RX10 yX10_sum yX10_sum, Cond.code yX10_sum cX10_sum 4 (some .int), Cond.methodLink RX10 192 yX10_over, (Jvm.Cond.privateMethod ({ cls := "SlickboomModel", name := "over", desc := "(II)I" } : Jvm.MethodName)), Cond.instanceMethod yX10_over, Cond.code yX10_over cX10_over 5 (some .int), Cond.arrayClass .long, (Jvm.Cond.sameMethod "java/lang/Throwable" "java/lang/Throwable" "fillInStackTrace" "(I)Ljava/lang/Throwable;")]
set_option maxRecDepth 100000 in
theorem tb_5 : tables_1_6 = gc_5_0 ++ (gc_5_1 ++ (gc_5_2 ++ (gc_5_3))) := rfl
theorem in_5_0 : ∀ w ∈ gc_5_0, w ∈ lw_tbl := fun w h => List.mem_append_right _ (show w ∈ tables_1 from List.mem_append_right _ (List.mem_append_right _ (List.mem_append_right _ (List.mem_append_right _ (List.mem_append_right _ ((show w ∈ tables_1_6 by rw [tb_5]; exact List.mem_append_left _ h)))))))
theorem in_5_1 : ∀ w ∈ gc_5_1, w ∈ lw_tbl := fun w h => List.mem_append_right _ (show w ∈ tables_1 from List.mem_append_right _ (List.mem_append_right _ (List.mem_append_right _ (List.mem_append_right _ (List.mem_append_right _ ((show w ∈ tables_1_6 by rw [tb_5]; exact List.mem_append_right _ (List.mem_append_left _ h))))))))
theorem in_5_2 : ∀ w ∈ gc_5_2, w ∈ lw_tbl := fun w h => List.mem_append_right _ (show w ∈ tables_1 from List.mem_append_right _ (List.mem_append_right _ (List.mem_append_right _ (List.mem_append_right _ (List.mem_append_right _ ((show w ∈ tables_1_6 by rw [tb_5]; exact List.mem_append_right _ (List.mem_append_right _ (List.mem_append_left _ h)))))))))
theorem in_5_3 : ∀ w ∈ gc_5_3, w ∈ lw_tbl := fun w h => List.mem_append_right _ (show w ∈ tables_1 from List.mem_append_right _ (List.mem_append_right _ (List.mem_append_right _ (List.mem_append_right _ (List.mem_append_right _ ((show w ∈ tables_1_6 by rw [tb_5]; exact List.mem_append_right _ (List.mem_append_right _ (List.mem_append_right _ (h))))))))))
theorem w0 : Cond.initialized RL ∈ Gw := gwc in_0_0 (i := 0) rfl rfl
theorem w1 : Cond.initialized RX9 ∈ Gw := gwc in_0_0 (i := 1) rfl rfl
theorem w2 : Cond.initialized RX0 ∈ Gw := gwc in_0_0 (i := 2) rfl rfl
theorem w3 : Cond.initialized RX2 ∈ Gw := gwc in_0_0 (i := 3) rfl rfl
theorem w4 : Cond.initialized RJ7 ∈ Gw := gwc in_0_0 (i := 4) rfl rfl
theorem w5 : Cond.initialized RX8 ∈ Gw := gwc in_0_0 (i := 5) rfl rfl
theorem w6 : Cond.initialized RX4 ∈ Gw := gwc in_0_0 (i := 6) rfl rfl
theorem w7 : Cond.initialized RX1 ∈ Gw := gwc in_0_0 (i := 7) rfl rfl
theorem w8 : Cond.initialized RX5 ∈ Gw := gwc in_0_0 (i := 8) rfl rfl
theorem w9 : Cond.initialized RX7 ∈ Gw := gwc in_0_0 (i := 9) rfl rfl
theorem w10 : Cond.initialized RX3 ∈ Gw := gwc in_0_0 (i := 10) rfl rfl
theorem w11 : Cond.initialized RX6 ∈ Gw := gwc in_0_0 (i := 11) rfl rfl
theorem w12 : Cond.initialized RX10 ∈ Gw := gwc in_0_0 (i := 12) rfl rfl
theorem w13 : Cond.initialized "java/lang/Throwable" ∈ Gw := gwc in_0_0 (i := 13) rfl rfl
theorem w14 : Cond.initialized "java/lang/Exception" ∈ Gw := gwc in_0_0 (i := 14) rfl rfl
theorem w15 : Cond.initialized "java/lang/RuntimeException" ∈ Gw := gwc in_0_0 (i := 15) rfl rfl
theorem w16 : Cond.initialized "java/lang/IndexOutOfBoundsException" ∈ Gw := gwc in_0_0 (i := 16) rfl rfl
theorem w17 : Cond.initialized "java/lang/IllegalArgumentException" ∈ Gw := gwc in_0_0 (i := 17) rfl rfl
theorem w18 : Cond.initialized "java/lang/IllegalStateException" ∈ Gw := gwc in_0_0 (i := 18) rfl rfl
theorem w19 : Cond.initialized "java/lang/Math" ∈ Gw := gwc in_0_0 (i := 19) rfl rfl
theorem w20 : Cond.initialized RJ6 ∈ Gw := gwc in_0_0 (i := 20) rfl rfl
theorem w21 : Cond.initialized "java/lang/System" ∈ Gw := gwc in_0_0 (i := 21) rfl rfl
theorem w22 : Cond.classLink RL 8 RX9 ∈ Gw := gwc in_0_0 (i := 22) rfl rfl
theorem w23 : Cond.instantiable RX9 6 ∈ Gw := gwc in_0_0 (i := 23) rfl rfl
theorem w24 : Cond.methodLink RL 114 yX9_init ∈ Gw := gwc in_0_0 (i := 24) rfl rfl
theorem w25 : Cond.instanceMethod yX9_init ∈ Gw := gwc in_0_0 (i := 25) rfl rfl
theorem w26 : Cond.code yX9_init cX9_init 1 none ∈ Gw := gwc in_0_0 (i := 26) rfl rfl
theorem w27 : Cond.methodLink RX9 3 objectInit ∈ Gw := gwc in_0_0 (i := 27) rfl rfl
theorem w28 : Cond.instanceMethod objectInit ∈ Gw := gwc in_0_0 (i := 28) rfl rfl
theorem w29 : Cond.code objectInit ⟨#[0xb1]⟩ 1 none ∈ Gw := gwc in_0_0 (i := 29) rfl rfl
theorem w30 : Cond.classLink RX9 9 RX0 ∈ Gw := gwc in_0_0 (i := 30) rfl rfl
theorem w31 : Cond.instantiable RX0 9 ∈ Gw := gwc in_0_0 (i := 31) rfl rfl
theorem w32 : Cond.methodLink RX9 11 yX0_init ∈ Gw := gwc in_0_0 (i := 32) rfl rfl
theorem w33 : Cond.instanceMethod yX0_init ∈ Gw := gwc in_0_0 (i := 33) rfl rfl
theorem w34 : Cond.code yX0_init cX0_init 1 none ∈ Gw := gwc in_0_0 (i := 34) rfl rfl
theorem w35 : Cond.methodLink RX0 3 objectInit ∈ Gw := gwc in_0_0 (i := 35) rfl rfl
theorem w36 : Cond.classLink RX0 9 RX2 ∈ Gw := gwc in_0_0 (i := 36) rfl rfl
theorem w37 : Cond.instantiable RX2 8 ∈ Gw := gwc in_0_0 (i := 37) rfl rfl
theorem w38 : Cond.methodLink RX0 11 yX2_init ∈ Gw := gwc in_0_0 (i := 38) rfl rfl
theorem w39 : Cond.instanceMethod yX2_init ∈ Gw := gwc in_0_0 (i := 39) rfl rfl
theorem w40 : Cond.code yX2_init cX2_init 1 none ∈ Gw := gwc in_0_1 (i := 0) rfl rfl
theorem w41 : Cond.methodLink RX2 3 objectInit ∈ Gw := gwc in_0_1 (i := 1) rfl rfl
theorem w42 : Cond.methodLink RX2 18 yJ7_fill_53178 ∈ Gw := gwc in_0_1 (i := 2) rfl rfl
theorem w43 : Cond.static yJ7_fill_53178 ∈ Gw := gwc in_0_1 (i := 3) rfl rfl
theorem w44 : Cond.code yJ7_fill_53178 cJ7_fill_53178 4 none ∈ Gw := gwc in_0_1 (i := 4) rfl rfl
theorem w45 : Cond.fieldLink RX2 9 RX2 "kind" "[I" ∈ Gw := gwc in_0_1 (i := 5) rfl rfl
theorem w46 : Cond.fieldLink RX9 93 RX2 "kind" "[I" ∈ Gw := gwc in_0_1 (i := 6) rfl rfl
theorem w47 : Cond.fieldLink RX2 15 RX2 "depth" "[I" ∈ Gw := gwc in_0_1 (i := 7) rfl rfl
theorem w48 : Cond.fieldLink RX7 21 RX2 "depth" "[I" ∈ Gw := gwc in_0_1 (i := 8) rfl rfl
theorem w49 : Cond.fieldLink RX9 106 RX2 "depth" "[I" ∈ Gw := gwc in_0_1 (i := 9) rfl rfl
theorem w50 : Cond.fieldLink RX2 24 RX2 "fresh" "[I" ∈ Gw := gwc in_0_1 (i := 10) rfl rfl
theorem w51 : Cond.fieldLink RX7 27 RX2 "fresh" "[I" ∈ Gw := gwc in_0_1 (i := 11) rfl rfl
theorem w52 : Cond.fieldLink RX5 74 RX2 "fresh" "[I" ∈ Gw := gwc in_0_1 (i := 12) rfl rfl
theorem w53 : Cond.fieldLink RX0 98 RX2 "fresh" "[I" ∈ Gw := gwc in_0_1 (i := 13) rfl rfl
theorem w54 : Cond.fieldLink RX9 143 RX2 "fresh" "[I" ∈ Gw := gwc in_0_1 (i := 14) rfl rfl
theorem w55 : Cond.fieldLink RX2 27 RX2 "thick" "[I" ∈ Gw := gwc in_0_1 (i := 15) rfl rfl
theorem w56 : Cond.fieldLink RX7 34 RX2 "thick" "[I" ∈ Gw := gwc in_0_1 (i := 16) rfl rfl
theorem w57 : Cond.fieldLink RX5 81 RX2 "thick" "[I" ∈ Gw := gwc in_0_1 (i := 17) rfl rfl
theorem w58 : Cond.fieldLink RX0 111 RX2 "thick" "[I" ∈ Gw := gwc in_0_1 (i := 18) rfl rfl
theorem w59 : Cond.fieldLink RX9 146 RX2 "thick" "[I" ∈ Gw := gwc in_0_1 (i := 19) rfl rfl
theorem w60 : Cond.fieldLink RX2 30 RX2 "stranded" "[I" ∈ Gw := gwc in_0_1 (i := 20) rfl rfl
theorem w61 : Cond.fieldLink RX5 130 RX2 "stranded" "[I" ∈ Gw := gwc in_0_1 (i := 21) rfl rfl
theorem w62 : Cond.fieldLink RX9 149 RX2 "stranded" "[I" ∈ Gw := gwc in_0_1 (i := 22) rfl rfl
theorem w63 : Cond.fieldLink RX0 158 RX2 "stranded" "[I" ∈ Gw := gwc in_0_1 (i := 23) rfl rfl
theorem w64 : Cond.fieldLink RX2 33 RX2 "birds" "[I" ∈ Gw := gwc in_0_1 (i := 24) rfl rfl
theorem w65 : Cond.fieldLink RX9 152 RX2 "birds" "[I" ∈ Gw := gwc in_0_1 (i := 25) rfl rfl
theorem w66 : Cond.fieldLink RX2 36 RX2 "oiled" "[I" ∈ Gw := gwc in_0_1 (i := 26) rfl rfl
theorem w67 : Cond.fieldLink RX9 155 RX2 "oiled" "[I" ∈ Gw := gwc in_0_1 (i := 27) rfl rfl
theorem w68 : Cond.fieldLink RX2 39 RX2 "signatures" "[I" ∈ Gw := gwc in_0_1 (i := 28) rfl rfl
theorem w69 : Cond.fieldLink RX9 158 RX2 "signatures" "[I" ∈ Gw := gwc in_0_1 (i := 29) rfl rfl
theorem w70 : Cond.fieldLink RX0 185 RX2 "signatures" "[I" ∈ Gw := gwc in_0_1 (i := 30) rfl rfl
theorem w88 : Cond.arrayClass .int ∈ Gw := gwc in_0_2 (i := 8) rfl rfl
theorem w89 : Cond.classLink RX0 18 RX8 ∈ Gw := gwc in_0_2 (i := 9) rfl rfl
theorem w90 : Cond.instantiable RX8 4 ∈ Gw := gwc in_0_2 (i := 10) rfl rfl
theorem w91 : Cond.methodLink RX0 20 yX8_init ∈ Gw := gwc in_0_2 (i := 11) rfl rfl
theorem w92 : Cond.instanceMethod yX8_init ∈ Gw := gwc in_0_2 (i := 12) rfl rfl
theorem w93 : Cond.code yX8_init cX8_init 1 none ∈ Gw := gwc in_0_2 (i := 13) rfl rfl
theorem w94 : Cond.methodLink RX8 3 objectInit ∈ Gw := gwc in_0_2 (i := 14) rfl rfl
theorem w95 : Cond.fieldLink RX8 21 RX8 "count" "I" ∈ Gw := gwc in_0_2 (i := 15) rfl rfl
theorem w96 : Cond.fieldLink RX0 88 RX8 "count" "I" ∈ Gw := gwc in_0_2 (i := 16) rfl rfl
theorem w97 : Cond.fieldLink RX9 116 RX8 "count" "I" ∈ Gw := gwc in_0_2 (i := 17) rfl rfl
theorem w98 : Cond.fieldLink RX5 112 RX8 "count" "I" ∈ Gw := gwc in_0_2 (i := 18) rfl rfl
theorem w99 : Cond.fieldLink RX8 9 RX8 "cell" "[I" ∈ Gw := gwc in_0_2 (i := 19) rfl rfl
theorem w100 : Cond.fieldLink RX0 101 RX8 "cell" "[I" ∈ Gw := gwc in_0_2 (i := 20) rfl rfl
theorem w101 : Cond.fieldLink RX5 117 RX8 "cell" "[I" ∈ Gw := gwc in_0_2 (i := 21) rfl rfl
theorem w102 : Cond.fieldLink RX8 15 RX8 "litres" "[I" ∈ Gw := gwc in_0_2 (i := 22) rfl rfl
theorem w103 : Cond.fieldLink RX0 95 RX8 "litres" "[I" ∈ Gw := gwc in_0_2 (i := 23) rfl rfl
theorem w104 : Cond.fieldLink RX9 133 RX8 "litres" "[I" ∈ Gw := gwc in_0_2 (i := 24) rfl rfl
theorem w105 : Cond.fieldLink RX8 18 RX8 "rate" "[I" ∈ Gw := gwc in_0_2 (i := 25) rfl rfl
theorem w106 : Cond.fieldLink RX9 125 RX8 "rate" "[I" ∈ Gw := gwc in_0_2 (i := 26) rfl rfl
theorem w116 : Cond.classLink RX0 25 RX4 ∈ Gw := gwc in_0_2 (i := 36) rfl rfl
theorem w117 : Cond.instantiable RX4 9 ∈ Gw := gwc in_0_2 (i := 37) rfl rfl
theorem w118 : Cond.methodLink RX0 27 yX4_init ∈ Gw := gwc in_0_2 (i := 38) rfl rfl
theorem w119 : Cond.instanceMethod yX4_init ∈ Gw := gwc in_0_2 (i := 39) rfl rfl
theorem w120 : Cond.code yX4_init cX4_init 1 none ∈ Gw := gwc in_0_3 (i := 0) rfl rfl
theorem w121 : Cond.methodLink RX4 3 objectInit ∈ Gw := gwc in_0_3 (i := 1) rfl rfl
theorem w122 : Cond.fieldLink RX4 37 RX4 "count" "I" ∈ Gw := gwc in_0_3 (i := 2) rfl rfl
theorem w123 : Cond.fieldLink RX5 133 RX4 "count" "I" ∈ Gw := gwc in_0_3 (i := 3) rfl rfl
theorem w124 : Cond.fieldLink RX0 167 RX4 "count" "I" ∈ Gw := gwc in_0_3 (i := 4) rfl rfl
theorem w125 : Cond.fieldLink RX9 185 RX4 "count" "I" ∈ Gw := gwc in_0_3 (i := 5) rfl rfl
theorem w126 : Cond.fieldLink RX4 9 RX4 "sort" "[I" ∈ Gw := gwc in_0_3 (i := 6) rfl rfl
theorem w127 : Cond.fieldLink RX0 168 RX4 "sort" "[I" ∈ Gw := gwc in_0_3 (i := 7) rfl rfl
theorem w128 : Cond.fieldLink RX9 218 RX4 "sort" "[I" ∈ Gw := gwc in_0_3 (i := 8) rfl rfl
theorem w129 : Cond.fieldLink RX4 15 RX4 "cell" "[I" ∈ Gw := gwc in_0_3 (i := 9) rfl rfl
theorem w130 : Cond.fieldLink RX0 171 RX4 "cell" "[I" ∈ Gw := gwc in_0_3 (i := 10) rfl rfl
theorem w131 : Cond.fieldLink RX9 189 RX4 "cell" "[I" ∈ Gw := gwc in_0_3 (i := 11) rfl rfl
theorem w132 : Cond.fieldLink RX4 18 RX4 "way" "[I" ∈ Gw := gwc in_0_3 (i := 12) rfl rfl
theorem w133 : Cond.fieldLink RX9 175 RX4 "way" "[I" ∈ Gw := gwc in_0_3 (i := 13) rfl rfl
theorem w134 : Cond.fieldLink RX4 21 RX4 "power" "[I" ∈ Gw := gwc in_0_3 (i := 14) rfl rfl
theorem w135 : Cond.fieldLink RX5 96 RX4 "power" "[I" ∈ Gw := gwc in_0_3 (i := 15) rfl rfl
theorem w136 : Cond.fieldLink RX0 136 RX4 "power" "[I" ∈ Gw := gwc in_0_3 (i := 16) rfl rfl
theorem w137 : Cond.fieldLink RX9 210 RX4 "power" "[I" ∈ Gw := gwc in_0_3 (i := 17) rfl rfl
theorem w138 : Cond.fieldLink RX4 24 RX4 "store" "[I" ∈ Gw := gwc in_0_3 (i := 18) rfl rfl
theorem w139 : Cond.fieldLink RX9 178 RX4 "store" "[I" ∈ Gw := gwc in_0_3 (i := 19) rfl rfl
theorem w140 : Cond.fieldLink RX4 27 RX4 "tally" "[I" ∈ Gw := gwc in_0_3 (i := 20) rfl rfl
theorem w141 : Cond.fieldLink RX0 139 RX4 "tally" "[I" ∈ Gw := gwc in_0_3 (i := 21) rfl rfl
theorem w142 : Cond.fieldLink RX9 192 RX4 "tally" "[I" ∈ Gw := gwc in_0_3 (i := 22) rfl rfl
theorem w143 : Cond.fieldLink RX4 30 RX4 "taught" "[Z" ∈ Gw := gwc in_0_3 (i := 23) rfl rfl
theorem w144 : Cond.fieldLink RX9 181 RX4 "taught" "[Z" ∈ Gw := gwc in_0_3 (i := 24) rfl rfl
theorem w145 : Cond.fieldLink RX4 34 RX4 "lastWork" "[I" ∈ Gw := gwc in_0_3 (i := 25) rfl rfl
theorem w165 : Cond.arrayClass .boolean ∈ Gw := gwc in_0_4 (i := 5) rfl rfl
theorem w166 : Cond.classLink RX0 32 RX1 ∈ Gw := gwc in_0_4 (i := 6) rfl rfl
theorem w167 : Cond.instantiable RX1 7 ∈ Gw := gwc in_0_4 (i := 7) rfl rfl
theorem w168 : Cond.methodLink RX0 34 yX1_init ∈ Gw := gwc in_0_4 (i := 8) rfl rfl
theorem w169 : Cond.instanceMethod yX1_init ∈ Gw := gwc in_0_4 (i := 9) rfl rfl
theorem w170 : Cond.code yX1_init cX1_init 1 none ∈ Gw := gwc in_0_4 (i := 10) rfl rfl
theorem w171 : Cond.methodLink RX1 3 objectInit ∈ Gw := gwc in_0_4 (i := 11) rfl rfl
theorem w172 : Cond.fieldLink RX1 15 RX1 "leaked" "I" ∈ Gw := gwc in_0_4 (i := 12) rfl rfl
theorem w173 : Cond.fieldLink RX9 304 RX1 "leaked" "I" ∈ Gw := gwc in_0_4 (i := 13) rfl rfl
theorem w174 : Cond.fieldLink RX1 9 RX1 "firstLeak" "I" ∈ Gw := gwc in_0_4 (i := 14) rfl rfl
theorem w175 : Cond.fieldLink RX0 194 RX1 "firstLeak" "I" ∈ Gw := gwc in_0_4 (i := 15) rfl rfl
theorem w176 : Cond.fieldLink RX0 108 RX1 "air" "I" ∈ Gw := gwc in_0_4 (i := 16) rfl rfl
theorem w177 : Cond.fieldLink RX9 316 RX1 "air" "I" ∈ Gw := gwc in_0_4 (i := 17) rfl rfl
theorem w178 : Cond.fieldLink RX0 114 RX1 "sunk" "I" ∈ Gw := gwc in_0_4 (i := 18) rfl rfl
theorem w179 : Cond.fieldLink RX9 319 RX1 "sunk" "I" ∈ Gw := gwc in_0_4 (i := 19) rfl rfl
theorem w180 : Cond.fieldLink RX0 155 RX1 "out" "I" ∈ Gw := gwc in_0_4 (i := 20) rfl rfl
theorem w181 : Cond.fieldLink RX9 322 RX1 "out" "I" ∈ Gw := gwc in_0_4 (i := 21) rfl rfl
theorem w182 : Cond.fieldLink RX0 188 RX1 "deep" "I" ∈ Gw := gwc in_0_4 (i := 22) rfl rfl
theorem w183 : Cond.fieldLink RX9 331 RX1 "deep" "I" ∈ Gw := gwc in_0_4 (i := 23) rfl rfl
theorem w184 : Cond.fieldLink RX0 191 RX1 "burnt" "I" ∈ Gw := gwc in_0_4 (i := 24) rfl rfl
theorem w185 : Cond.fieldLink RX9 334 RX1 "burnt" "I" ∈ Gw := gwc in_0_4 (i := 25) rfl rfl
theorem w201 : Cond.fieldLink RX0 12 RX0 "cells" "LSlickboom$Cells;" ∈ Gw := gwc in_0_5 (i := 1) rfl rfl
theorem w202 : Cond.fieldLink RX7 15 RX0 "cells" "LSlickboom$Cells;" ∈ Gw := gwc in_0_5 (i := 2) rfl rfl
theorem w203 : Cond.fieldLink RX9 89 RX0 "cells" "LSlickboom$Cells;" ∈ Gw := gwc in_0_5 (i := 3) rfl rfl
theorem w204 : Cond.fieldLink RX5 56 RX0 "cells" "LSlickboom$Cells;" ∈ Gw := gwc in_0_5 (i := 4) rfl rfl
theorem w205 : Cond.fieldLink RX0 21 RX0 "ships" "LSlickboom$Ships;" ∈ Gw := gwc in_0_5 (i := 5) rfl rfl
theorem w206 : Cond.fieldLink RX9 68 RX0 "ships" "LSlickboom$Ships;" ∈ Gw := gwc in_0_5 (i := 6) rfl rfl
theorem w207 : Cond.fieldLink RX5 108 RX0 "ships" "LSlickboom$Ships;" ∈ Gw := gwc in_0_5 (i := 7) rfl rfl
theorem w208 : Cond.fieldLink RX0 28 RX0 "means" "LSlickboom$Means;" ∈ Gw := gwc in_0_5 (i := 8) rfl rfl
theorem w209 : Cond.fieldLink RX9 78 RX0 "means" "LSlickboom$Means;" ∈ Gw := gwc in_0_5 (i := 9) rfl rfl
theorem w210 : Cond.fieldLink RX5 84 RX0 "means" "LSlickboom$Means;" ∈ Gw := gwc in_0_5 (i := 10) rfl rfl
theorem w211 : Cond.fieldLink RX0 35 RX0 "books" "LSlickboom$Books;" ∈ Gw := gwc in_0_5 (i := 11) rfl rfl
theorem w212 : Cond.fieldLink RX9 300 RX0 "books" "LSlickboom$Books;" ∈ Gw := gwc in_0_5 (i := 12) rfl rfl
theorem w213 : Cond.fieldLink RX9 57 RX0 "hour" "I" ∈ Gw := gwc in_0_5 (i := 13) rfl rfl
theorem w214 : Cond.fieldLink RX0 60 RX0 "hour" "I" ∈ Gw := gwc in_0_5 (i := 14) rfl rfl
theorem w215 : Cond.fieldLink RX5 68 RX0 "hour" "I" ∈ Gw := gwc in_0_5 (i := 15) rfl rfl
theorem w216 : Cond.fieldLink RX0 39 RX0 "windWay" "I" ∈ Gw := gwc in_0_5 (i := 16) rfl rfl
theorem w217 : Cond.fieldLink RX9 109 RX0 "windWay" "I" ∈ Gw := gwc in_0_5 (i := 17) rfl rfl
theorem w218 : Cond.fieldLink RX5 88 RX0 "windWay" "I" ∈ Gw := gwc in_0_5 (i := 18) rfl rfl
theorem w219 : Cond.fieldLink RX0 63 RX0 "windStrength" "I" ∈ Gw := gwc in_0_5 (i := 19) rfl rfl
theorem w220 : Cond.fieldLink RX7 37 RX0 "windStrength" "I" ∈ Gw := gwc in_0_5 (i := 20) rfl rfl
theorem w221 : Cond.fieldLink RX9 112 RX0 "windStrength" "I" ∈ Gw := gwc in_0_5 (i := 21) rfl rfl
theorem w222 : Cond.fieldLink RX5 99 RX0 "windStrength" "I" ∈ Gw := gwc in_0_5 (i := 22) rfl rfl
theorem w223 : Cond.fieldLink RX0 43 RX0 "freshGoes" "[I" ∈ Gw := gwc in_0_5 (i := 23) rfl rfl
theorem w224 : Cond.fieldLink RX0 47 RX0 "thickGoes" "[I" ∈ Gw := gwc in_0_5 (i := 24) rfl rfl
theorem w244 : Cond.classLink RX9 19 RX5 ∈ Gw := gwc in_1_0 (i := 4) rfl rfl
theorem w245 : Cond.instantiable RX5 5 ∈ Gw := gwc in_1_0 (i := 5) rfl rfl
theorem w246 : Cond.methodLink RX9 21 yX5_init ∈ Gw := gwc in_1_0 (i := 6) rfl rfl
theorem w247 : Cond.instanceMethod yX5_init ∈ Gw := gwc in_1_0 (i := 7) rfl rfl
theorem w248 : Cond.code yX5_init cX5_init 2 none ∈ Gw := gwc in_1_0 (i := 8) rfl rfl
theorem w249 : Cond.methodLink RX5 3 objectInit ∈ Gw := gwc in_1_0 (i := 9) rfl rfl
theorem w250 : Cond.fieldLink RX5 9 RX5 "bay" "LSlickboom$Bay;" ∈ Gw := gwc in_1_0 (i := 10) rfl rfl
theorem w251 : Cond.fieldLink RX5 19 RX5 "freshHas" "I" ∈ Gw := gwc in_1_0 (i := 11) rfl rfl
theorem w252 : Cond.fieldLink RX5 26 RX5 "thickHas" "I" ∈ Gw := gwc in_1_0 (i := 12) rfl rfl
theorem w253 : Cond.fieldLink RX5 23 RX5 "freshGoes" "I" ∈ Gw := gwc in_1_0 (i := 13) rfl rfl
theorem w254 : Cond.fieldLink RX5 29 RX5 "thickGoes" "I" ∈ Gw := gwc in_1_0 (i := 14) rfl rfl
theorem w266 : Cond.classLink RX9 28 RX7 ∈ Gw := gwc in_1_0 (i := 26) rfl rfl
theorem w267 : Cond.instantiable RX7 1 ∈ Gw := gwc in_1_0 (i := 27) rfl rfl
theorem w268 : Cond.methodLink RX9 30 yX7_init ∈ Gw := gwc in_1_0 (i := 28) rfl rfl
theorem w269 : Cond.instanceMethod yX7_init ∈ Gw := gwc in_1_0 (i := 29) rfl rfl
theorem w270 : Cond.code yX7_init cX7_init 2 none ∈ Gw := gwc in_1_0 (i := 30) rfl rfl
theorem w271 : Cond.methodLink RX7 3 objectInit ∈ Gw := gwc in_1_0 (i := 31) rfl rfl
theorem w272 : Cond.fieldLink RX7 9 RX7 "bay" "LSlickboom$Bay;" ∈ Gw := gwc in_1_0 (i := 32) rfl rfl
theorem w276 : Cond.classLink RX9 35 RX3 ∈ Gw := gwc in_1_0 (i := 36) rfl rfl
theorem w277 : Cond.instantiable RX3 4 ∈ Gw := gwc in_1_0 (i := 37) rfl rfl
theorem w278 : Cond.methodLink RX9 37 yX3_init ∈ Gw := gwc in_1_0 (i := 38) rfl rfl
theorem w279 : Cond.instanceMethod yX3_init ∈ Gw := gwc in_1_0 (i := 39) rfl rfl
theorem w280 : Cond.code yX3_init cX3_init 1 none ∈ Gw := gwc in_1_1 (i := 0) rfl rfl
theorem w281 : Cond.methodLink RX3 3 objectInit ∈ Gw := gwc in_1_1 (i := 1) rfl rfl
theorem w282 : Cond.fieldLink RX3 18 RX3 "sites" "I" ∈ Gw := gwc in_1_1 (i := 2) rfl rfl
theorem w283 : Cond.fieldLink RX9 248 RX3 "sites" "I" ∈ Gw := gwc in_1_1 (i := 3) rfl rfl
theorem w284 : Cond.fieldLink RX3 9 RX3 "waste" "[I" ∈ Gw := gwc in_1_1 (i := 4) rfl rfl
theorem w285 : Cond.fieldLink RX9 195 RX3 "waste" "[I" ∈ Gw := gwc in_1_1 (i := 5) rfl rfl
theorem w286 : Cond.fieldLink RX3 15 RX3 "room" "[I" ∈ Gw := gwc in_1_1 (i := 6) rfl rfl
theorem w287 : Cond.fieldLink RX3 22 RX3 "delivered" "I" ∈ Gw := gwc in_1_1 (i := 7) rfl rfl
theorem w297 : Cond.classLink RX9 42 RX6 ∈ Gw := gwc in_1_1 (i := 17) rfl rfl
theorem w298 : Cond.instantiable RX6 5 ∈ Gw := gwc in_1_1 (i := 18) rfl rfl
theorem w299 : Cond.methodLink RX9 44 yX6_init ∈ Gw := gwc in_1_1 (i := 19) rfl rfl
theorem w300 : Cond.instanceMethod yX6_init ∈ Gw := gwc in_1_1 (i := 20) rfl rfl
theorem w301 : Cond.code yX6_init cX6_init 1 none ∈ Gw := gwc in_1_1 (i := 21) rfl rfl
theorem w302 : Cond.methodLink RX6 3 objectInit ∈ Gw := gwc in_1_1 (i := 22) rfl rfl
theorem w303 : Cond.fieldLink RX6 15 RX6 "count" "I" ∈ Gw := gwc in_1_1 (i := 23) rfl rfl
theorem w304 : Cond.fieldLink RX9 265 RX6 "count" "I" ∈ Gw := gwc in_1_1 (i := 24) rfl rfl
theorem w305 : Cond.fieldLink RX6 23 RX6 "owner" "I" ∈ Gw := gwc in_1_1 (i := 25) rfl rfl
theorem w306 : Cond.fieldLink RX9 271 RX6 "owner" "I" ∈ Gw := gwc in_1_1 (i := 26) rfl rfl
theorem w307 : Cond.fieldLink RX6 26 RX6 "fund" "I" ∈ Gw := gwc in_1_1 (i := 27) rfl rfl
theorem w308 : Cond.fieldLink RX9 274 RX6 "fund" "I" ∈ Gw := gwc in_1_1 (i := 28) rfl rfl
theorem w309 : Cond.fieldLink RX6 19 RX6 "all" "J" ∈ Gw := gwc in_1_1 (i := 29) rfl rfl
theorem w310 : Cond.fieldLink RX6 9 RX6 "cents" "[I" ∈ Gw := gwc in_1_1 (i := 30) rfl rfl
theorem w322 : Cond.fieldLink RX9 12 RX9 "bay" "LSlickboom$Bay;" ∈ Gw := gwc in_1_2 (i := 2) rfl rfl
theorem w323 : Cond.fieldLink RX9 16 RX9 "trial" "LSlickboom$Bay;" ∈ Gw := gwc in_1_2 (i := 3) rfl rfl
theorem w324 : Cond.fieldLink RX9 24 RX9 "nextHour" "LSlickboom$NextHour;" ∈ Gw := gwc in_1_2 (i := 4) rfl rfl
theorem w325 : Cond.fieldLink RX9 31 RX9 "rules" "LSlickboom$Rules;" ∈ Gw := gwc in_1_2 (i := 5) rfl rfl
theorem w326 : Cond.fieldLink RX9 38 RX9 "dump" "LSlickboom$Dump;" ∈ Gw := gwc in_1_2 (i := 6) rfl rfl
theorem w327 : Cond.fieldLink RX9 45 RX9 "payers" "LSlickboom$Payers;" ∈ Gw := gwc in_1_2 (i := 7) rfl rfl
theorem w341 : Cond.methodLink RL 118 yL_shore ∈ Gw := gwc in_1_2 (i := 21) rfl rfl
theorem w342 : Cond.static yL_shore ∈ Gw := gwc in_1_2 (i := 22) rfl rfl
theorem w344 : Cond.classLink RL 13 "java/lang/IndexOutOfBoundsException" ∈ Gw := gwc in_1_2 (i := 24) rfl rfl
theorem w345 : Cond.classLink RL 15 "java/lang/IllegalArgumentException" ∈ Gw := gwc in_1_2 (i := 25) rfl rfl
theorem w346 : Cond.classLink RL 17 "java/lang/IllegalStateException" ∈ Gw := gwc in_1_2 (i := 26) rfl rfl
theorem w347 : Cond.methodLink RL 7 yX9_shore ∈ Gw := gwc in_1_2 (i := 27) rfl rfl
theorem w348 : Cond.instanceMethod yX9_shore ∈ Gw := gwc in_1_2 (i := 28) rfl rfl
theorem w349 : Cond.selects RX9 yX9_shore yX9_shore ∈ Gw := gwc in_1_2 (i := 29) rfl rfl
theorem w350 : Cond.code yX9_shore cX9_shore 4 (some .int) ∈ Gw := gwc in_1_2 (i := 30) rfl rfl
theorem w351 : Cond.methodLink RX9 49 yX9_needNumber ∈ Gw := gwc in_1_2 (i := 31) rfl rfl
theorem w352 : Cond.static yX9_needNumber ∈ Gw := gwc in_1_2 (i := 32) rfl rfl
theorem w353 : Cond.code yX9_needNumber cX9_needNumber 2 none ∈ Gw := gwc in_1_2 (i := 33) rfl rfl
theorem w354 : Cond.classLink RX9 340 "java/lang/IndexOutOfBoundsException" ∈ Gw := gwc in_1_2 (i := 34) rfl rfl
theorem w355 : Cond.instantiable "java/lang/IndexOutOfBoundsException" 6 ∈ Gw := gwc in_1_2 (i := 35) rfl rfl
theorem w375 : Cond.fieldLink "java/lang/Throwable" 198 "java/lang/Throwable" "backtrace" "Ljava/lang/Object;" ∈ Gw := gwc in_1_3 (i := 15) rfl rfl
theorem w377 : Cond.instanceMethod ⟨"java/lang/Throwable", "<init>", "()V"⟩ ∈ Gw := gwc in_1_3 (i := 17) rfl rfl
theorem w379 : Cond.methodLink "java/lang/Throwable" 1 objectInit ∈ Gw := gwc in_1_3 (i := 19) rfl rfl
theorem w380 : Cond.fieldLink "java/lang/Throwable" 13 "java/lang/Throwable" "UNASSIGNED_STACK" "[Ljava/lang/StackTraceElement;" ∈ Gw := gwc in_1_3 (i := 20) rfl rfl
theorem w382 : Cond.fieldLink "java/lang/Throwable" 20 "java/lang/Throwable" "SUPPRESSED_SENTINEL" "Ljava/util/List;" ∈ Gw := gwc in_1_3 (i := 22) rfl rfl
theorem w384 : Cond.methodLink "java/lang/Throwable" 27 ⟨"java/lang/Throwable", "fillInStackTrace", "()Ljava/lang/Throwable;"⟩ ∈ Gw := gwc in_1_3 (i := 24) rfl rfl
theorem w385 : Cond.instanceMethod ⟨"java/lang/Throwable", "fillInStackTrace", "()Ljava/lang/Throwable;"⟩ ∈ Gw := gwc in_1_3 (i := 25) rfl rfl
theorem w390 : Cond.methodLink "java/lang/Throwable" 202 ⟨"java/lang/Throwable", "fillInStackTrace", "(I)Ljava/lang/Throwable;"⟩ ∈ Gw := gwc in_1_3 (i := 30) rfl rfl
theorem w392 : Cond.instanceMethod ⟨"java/lang/Throwable", "fillInStackTrace", "(I)Ljava/lang/Throwable;"⟩ ∈ Gw := gwc in_1_3 (i := 32) rfl rfl
theorem w393 : Cond.instantiable "java/lang/Throwable" 6 ∈ Gw := gwc in_1_3 (i := 33) rfl rfl
theorem w394 : Cond.native ⟨"java/lang/Throwable", "fillInStackTrace", "(I)Ljava/lang/Throwable;"⟩ ∈ Gw := gwc in_1_3 (i := 34) rfl rfl
theorem w396 : Cond.methodLink RX9 344 ⟨"java/lang/IndexOutOfBoundsException", "<init>", "(Ljava/lang/String;)V"⟩ ∈ Gw := gwc in_1_3 (i := 36) rfl rfl
theorem w397 : Cond.instanceMethod ⟨"java/lang/IndexOutOfBoundsException", "<init>", "(Ljava/lang/String;)V"⟩ ∈ Gw := gwc in_1_3 (i := 37) rfl rfl
theorem w399 : Cond.methodLink "java/lang/IndexOutOfBoundsException" 7 ⟨"java/lang/RuntimeException", "<init>", "(Ljava/lang/String;)V"⟩ ∈ Gw := gwc in_1_3 (i := 39) rfl rfl
theorem w400 : Cond.instanceMethod ⟨"java/lang/RuntimeException", "<init>", "(Ljava/lang/String;)V"⟩ ∈ Gw := gwc in_1_4 (i := 0) rfl rfl
theorem w402 : Cond.methodLink "java/lang/RuntimeException" 7 ⟨"java/lang/Exception", "<init>", "(Ljava/lang/String;)V"⟩ ∈ Gw := gwc in_1_4 (i := 2) rfl rfl
theorem w403 : Cond.instanceMethod ⟨"java/lang/Exception", "<init>", "(Ljava/lang/String;)V"⟩ ∈ Gw := gwc in_1_4 (i := 3) rfl rfl
theorem w405 : Cond.methodLink "java/lang/Exception" 7 ⟨"java/lang/Throwable", "<init>", "(Ljava/lang/String;)V"⟩ ∈ Gw := gwc in_1_4 (i := 5) rfl rfl
theorem w406 : Cond.instanceMethod ⟨"java/lang/Throwable", "<init>", "(Ljava/lang/String;)V"⟩ ∈ Gw := gwc in_1_4 (i := 6) rfl rfl
theorem w409 : Cond.fieldLink "java/lang/Throwable" 31 "java/lang/Throwable" "detailMessage" "Ljava/lang/String;" ∈ Gw := gwc in_1_4 (i := 9) rfl rfl
theorem w410 : Cond.fieldLink "java/lang/Throwable" 7 "java/lang/Throwable" "cause" "Ljava/lang/Throwable;" ∈ Gw := gwc in_1_4 (i := 10) rfl rfl
theorem w411 : Cond.fieldLink "java/lang/Throwable" 17 "java/lang/Throwable" "stackTrace" "[Ljava/lang/StackTraceElement;" ∈ Gw := gwc in_1_4 (i := 11) rfl rfl
theorem w412 : Cond.fieldLink "java/lang/Throwable" 24 "java/lang/Throwable" "suppressedExceptions" "Ljava/util/List;" ∈ Gw := gwc in_1_4 (i := 12) rfl rfl
theorem w421 : Cond.arrayClass .byte ∈ Gw := gwc in_1_4 (i := 21) rfl rfl
theorem w422 : Cond.methodLink RX9 53 yX9_needRange ∈ Gw := gwc in_1_4 (i := 22) rfl rfl
theorem w423 : Cond.static yX9_needRange ∈ Gw := gwc in_1_4 (i := 23) rfl rfl
theorem w424 : Cond.code yX9_needRange cX9_needRange 3 none ∈ Gw := gwc in_1_4 (i := 24) rfl rfl
theorem w425 : Cond.classLink RX9 128 "java/lang/IllegalArgumentException" ∈ Gw := gwc in_1_4 (i := 25) rfl rfl
theorem w426 : Cond.instantiable "java/lang/IllegalArgumentException" 6 ∈ Gw := gwc in_1_4 (i := 26) rfl rfl
theorem w435 : Cond.methodLink RX9 132 ⟨"java/lang/IllegalArgumentException", "<init>", "(Ljava/lang/String;)V"⟩ ∈ Gw := gwc in_1_4 (i := 35) rfl rfl
theorem w436 : Cond.instanceMethod ⟨"java/lang/IllegalArgumentException", "<init>", "(Ljava/lang/String;)V"⟩ ∈ Gw := gwc in_1_4 (i := 36) rfl rfl
theorem w438 : Cond.methodLink "java/lang/IllegalArgumentException" 7 ⟨"java/lang/RuntimeException", "<init>", "(Ljava/lang/String;)V"⟩ ∈ Gw := gwc in_1_4 (i := 38) rfl rfl
theorem w441 : Cond.classLink RX9 61 "java/lang/IllegalStateException" ∈ Gw := gwc in_1_5 (i := 1) rfl rfl
theorem w442 : Cond.instantiable "java/lang/IllegalStateException" 6 ∈ Gw := gwc in_1_5 (i := 2) rfl rfl
theorem w451 : Cond.methodLink RX9 65 ⟨"java/lang/IllegalStateException", "<init>", "(Ljava/lang/String;)V"⟩ ∈ Gw := gwc in_1_5 (i := 11) rfl rfl
theorem w452 : Cond.instanceMethod ⟨"java/lang/IllegalStateException", "<init>", "(Ljava/lang/String;)V"⟩ ∈ Gw := gwc in_1_5 (i := 12) rfl rfl
theorem w454 : Cond.methodLink "java/lang/IllegalStateException" 7 ⟨"java/lang/RuntimeException", "<init>", "(Ljava/lang/String;)V"⟩ ∈ Gw := gwc in_1_5 (i := 14) rfl rfl
theorem w457 : Cond.methodLink RX9 72 yX8_isAnyAt ∈ Gw := gwc in_1_5 (i := 17) rfl rfl
theorem w458 : Cond.instanceMethod yX8_isAnyAt ∈ Gw := gwc in_1_5 (i := 18) rfl rfl
theorem w459 : Cond.selects RX8 yX8_isAnyAt yX8_isAnyAt ∈ Gw := gwc in_1_5 (i := 19) rfl rfl
theorem w460 : Cond.code yX8_isAnyAt cX8_isAnyAt 3 (some .boolean) ∈ Gw := gwc in_1_5 (i := 20) rfl rfl
theorem w461 : Cond.methodLink RX9 82 yX4_isSkimmerAt ∈ Gw := gwc in_1_5 (i := 21) rfl rfl
theorem w462 : Cond.instanceMethod yX4_isSkimmerAt ∈ Gw := gwc in_1_5 (i := 22) rfl rfl
theorem w463 : Cond.selects RX4 yX4_isSkimmerAt yX4_isSkimmerAt ∈ Gw := gwc in_1_5 (i := 23) rfl rfl
theorem w464 : Cond.code yX4_isSkimmerAt cX4_isSkimmerAt 3 (some .boolean) ∈ Gw := gwc in_1_5 (i := 24) rfl rfl
theorem w465 : Cond.methodLink RX4 41 yX4_isSkimmer ∈ Gw := gwc in_1_5 (i := 25) rfl rfl
theorem w466 : Cond.instanceMethod yX4_isSkimmer ∈ Gw := gwc in_1_5 (i := 26) rfl rfl
theorem w467 : Cond.selects RX4 yX4_isSkimmer yX4_isSkimmer ∈ Gw := gwc in_1_5 (i := 27) rfl rfl
theorem w468 : Cond.code yX4_isSkimmer cX4_isSkimmer 3 (some .boolean) ∈ Gw := gwc in_1_5 (i := 28) rfl rfl
theorem w470 : Cond.methodLink RX9 99 yX2_become ∈ Gw := gwc in_1_5 (i := 30) rfl rfl
theorem w471 : Cond.instanceMethod yX2_become ∈ Gw := gwc in_1_5 (i := 31) rfl rfl
theorem w472 : Cond.selects RX2 yX2_become yX2_become ∈ Gw := gwc in_1_5 (i := 32) rfl rfl
theorem w473 : Cond.code yX2_become cX2_become 3 none ∈ Gw := gwc in_1_5 (i := 33) rfl rfl
theorem w474 : Cond.methodLink RL 128 yL_depth ∈ Gw := gwc in_1_5 (i := 34) rfl rfl
theorem w475 : Cond.static yL_depth ∈ Gw := gwc in_1_5 (i := 35) rfl rfl
theorem w477 : Cond.methodLink RL 19 yX9_depth ∈ Gw := gwc in_1_5 (i := 37) rfl rfl
theorem w478 : Cond.instanceMethod yX9_depth ∈ Gw := gwc in_1_5 (i := 38) rfl rfl
theorem w479 : Cond.selects RX9 yX9_depth yX9_depth ∈ Gw := gwc in_1_5 (i := 39) rfl rfl
theorem w480 : Cond.code yX9_depth cX9_depth 4 (some .int) ∈ Gw := gwc in_2_0 (i := 0) rfl rfl
theorem w481 : Cond.methodLink RX9 102 yX9_needWater ∈ Gw := gwc in_2_0 (i := 1) rfl rfl
theorem w483 : Cond.instanceMethod yX9_needWater ∈ Gw := gwc in_2_0 (i := 3) rfl rfl
theorem w484 : Cond.code yX9_needWater cX9_needWater 2 none ∈ Gw := gwc in_2_0 (i := 4) rfl rfl
theorem w485 : Cond.methodLink RX9 291 yX2_isWater ∈ Gw := gwc in_2_0 (i := 5) rfl rfl
theorem w486 : Cond.instanceMethod yX2_isWater ∈ Gw := gwc in_2_0 (i := 6) rfl rfl
theorem w487 : Cond.selects RX2 yX2_isWater yX2_isWater ∈ Gw := gwc in_2_0 (i := 7) rfl rfl
theorem w488 : Cond.code yX2_isWater cX2_isWater 2 (some .boolean) ∈ Gw := gwc in_2_0 (i := 8) rfl rfl
theorem w490 : Cond.methodLink RL 131 yL_wind ∈ Gw := gwc in_2_0 (i := 10) rfl rfl
theorem w491 : Cond.static yL_wind ∈ Gw := gwc in_2_0 (i := 11) rfl rfl
theorem w493 : Cond.methodLink RL 22 yX9_wind ∈ Gw := gwc in_2_0 (i := 13) rfl rfl
theorem w494 : Cond.instanceMethod yX9_wind ∈ Gw := gwc in_2_0 (i := 14) rfl rfl
theorem w495 : Cond.selects RX9 yX9_wind yX9_wind ∈ Gw := gwc in_2_0 (i := 15) rfl rfl
theorem w496 : Cond.code yX9_wind cX9_wind 4 (some .int) ∈ Gw := gwc in_2_0 (i := 16) rfl rfl
theorem w497 : Cond.methodLink RL 134 yL_ship ∈ Gw := gwc in_2_0 (i := 17) rfl rfl
theorem w498 : Cond.static yL_ship ∈ Gw := gwc in_2_0 (i := 18) rfl rfl
theorem w500 : Cond.methodLink RL 25 yX9_ship ∈ Gw := gwc in_2_0 (i := 20) rfl rfl
theorem w501 : Cond.instanceMethod yX9_ship ∈ Gw := gwc in_2_0 (i := 21) rfl rfl
theorem w502 : Cond.selects RX9 yX9_ship yX9_ship ∈ Gw := gwc in_2_0 (i := 22) rfl rfl
theorem w503 : Cond.code yX9_ship cX9_ship 3 (some .int) ∈ Gw := gwc in_2_0 (i := 23) rfl rfl
theorem w504 : Cond.constant RX9 115 100000 ∈ Gw := gwc in_2_0 (i := 24) rfl rfl
theorem w506 : Cond.methodLink RX9 121 yX8_add ∈ Gw := gwc in_2_0 (i := 26) rfl rfl
theorem w507 : Cond.instanceMethod yX8_add ∈ Gw := gwc in_2_0 (i := 27) rfl rfl
theorem w508 : Cond.selects RX8 yX8_add yX8_add ∈ Gw := gwc in_2_0 (i := 28) rfl rfl
theorem w509 : Cond.code yX8_add cX8_add 4 (some .int) ∈ Gw := gwc in_2_0 (i := 29) rfl rfl
theorem w510 : Cond.methodLink RL 137 yL_hole ∈ Gw := gwc in_2_0 (i := 30) rfl rfl
theorem w511 : Cond.static yL_hole ∈ Gw := gwc in_2_0 (i := 31) rfl rfl
theorem w513 : Cond.methodLink RL 28 yX9_hole ∈ Gw := gwc in_2_0 (i := 33) rfl rfl
theorem w514 : Cond.instanceMethod yX9_hole ∈ Gw := gwc in_2_0 (i := 34) rfl rfl
theorem w515 : Cond.selects RX9 yX9_hole yX9_hole ∈ Gw := gwc in_2_0 (i := 35) rfl rfl
theorem w516 : Cond.code yX9_hole cX9_hole 4 (some .int) ∈ Gw := gwc in_2_0 (i := 36) rfl rfl
theorem w517 : Cond.methodLink RL 140 yL_pump ∈ Gw := gwc in_2_0 (i := 37) rfl rfl
theorem w518 : Cond.static yL_pump ∈ Gw := gwc in_2_0 (i := 38) rfl rfl
theorem w520 : Cond.methodLink RL 31 yX9_pump ∈ Gw := gwc in_2_1 (i := 0) rfl rfl
theorem w521 : Cond.instanceMethod yX9_pump ∈ Gw := gwc in_2_1 (i := 1) rfl rfl
theorem w522 : Cond.selects RX9 yX9_pump yX9_pump ∈ Gw := gwc in_2_1 (i := 2) rfl rfl
theorem w523 : Cond.code yX9_pump cX9_pump 5 (some .int) ∈ Gw := gwc in_2_1 (i := 3) rfl rfl
theorem w526 : Cond.methodLink RL 144 yL_shipHas ∈ Gw := gwc in_2_1 (i := 6) rfl rfl
theorem w527 : Cond.static yL_shipHas ∈ Gw := gwc in_2_1 (i := 7) rfl rfl
theorem w529 : Cond.methodLink RL 35 yX9_shipHas ∈ Gw := gwc in_2_1 (i := 9) rfl rfl
theorem w530 : Cond.instanceMethod yX9_shipHas ∈ Gw := gwc in_2_1 (i := 10) rfl rfl
theorem w531 : Cond.selects RX9 yX9_shipHas yX9_shipHas ∈ Gw := gwc in_2_1 (i := 11) rfl rfl
theorem w532 : Cond.code yX9_shipHas cX9_shipHas 2 (some .int) ∈ Gw := gwc in_2_1 (i := 12) rfl rfl
theorem w533 : Cond.methodLink RL 148 yL_pass ∈ Gw := gwc in_2_1 (i := 13) rfl rfl
theorem w534 : Cond.static yL_pass ∈ Gw := gwc in_2_1 (i := 14) rfl rfl
theorem w536 : Cond.methodLink RL 39 yX9_pass ∈ Gw := gwc in_2_1 (i := 16) rfl rfl
theorem w537 : Cond.instanceMethod yX9_pass ∈ Gw := gwc in_2_1 (i := 17) rfl rfl
theorem w538 : Cond.selects RX9 yX9_pass yX9_pass ∈ Gw := gwc in_2_1 (i := 18) rfl rfl
theorem w539 : Cond.code yX9_pass cX9_pass 2 (some .int) ∈ Gw := gwc in_2_1 (i := 19) rfl rfl
theorem w541 : Cond.methodLink RX9 140 yX0_letPass ∈ Gw := gwc in_2_1 (i := 21) rfl rfl
theorem w542 : Cond.instanceMethod yX0_letPass ∈ Gw := gwc in_2_1 (i := 22) rfl rfl
theorem w543 : Cond.selects RX0 yX0_letPass yX0_letPass ∈ Gw := gwc in_2_1 (i := 23) rfl rfl
theorem w544 : Cond.code yX0_letPass cX0_letPass 3 none ∈ Gw := gwc in_2_1 (i := 24) rfl rfl
theorem w545 : Cond.methodLink RX0 66 yX0_leak ∈ Gw := gwc in_2_1 (i := 25) rfl rfl
theorem w547 : Cond.instanceMethod yX0_leak ∈ Gw := gwc in_2_1 (i := 27) rfl rfl
theorem w548 : Cond.code yX0_leak cX0_leak 4 none ∈ Gw := gwc in_2_1 (i := 28) rfl rfl
theorem w549 : Cond.methodLink RX0 75 yX0_tideOf ∈ Gw := gwc in_2_1 (i := 29) rfl rfl
theorem w550 : Cond.static yX0_tideOf ∈ Gw := gwc in_2_1 (i := 30) rfl rfl
theorem w551 : Cond.code yX0_tideOf cX0_tideOf 2 (some .int) ∈ Gw := gwc in_2_1 (i := 31) rfl rfl
theorem w552 : Cond.methodLink RX0 91 yX8_leakOf ∈ Gw := gwc in_2_1 (i := 32) rfl rfl
theorem w553 : Cond.instanceMethod yX8_leakOf ∈ Gw := gwc in_2_1 (i := 33) rfl rfl
theorem w554 : Cond.selects RX8 yX8_leakOf yX8_leakOf ∈ Gw := gwc in_2_1 (i := 34) rfl rfl
theorem w555 : Cond.code yX8_leakOf cX8_leakOf 4 (some .int) ∈ Gw := gwc in_2_1 (i := 35) rfl rfl
theorem w556 : Cond.methodLink RX8 25 Lib.Math.min.name ∈ Gw := gwc in_2_1 (i := 36) rfl rfl
theorem w557 : Cond.static Lib.Math.min.name ∈ Gw := gwc in_2_1 (i := 37) rfl rfl
theorem w558 : Cond.code Lib.Math.min.name Lib.Math.min.code 2 (some .int) ∈ Gw := gwc in_2_1 (i := 38) rfl rfl
theorem w559 : Cond.methodLink RX0 104 yX1_noteLeak ∈ Gw := gwc in_2_1 (i := 39) rfl rfl
theorem w560 : Cond.instanceMethod yX1_noteLeak ∈ Gw := gwc in_2_2 (i := 0) rfl rfl
theorem w561 : Cond.selects RX1 yX1_noteLeak yX1_noteLeak ∈ Gw := gwc in_2_2 (i := 1) rfl rfl
theorem w562 : Cond.code yX1_noteLeak cX1_noteLeak 3 none ∈ Gw := gwc in_2_2 (i := 2) rfl rfl
theorem w563 : Cond.methodLink RX0 69 yX0_weather ∈ Gw := gwc in_2_2 (i := 3) rfl rfl
theorem w565 : Cond.instanceMethod yX0_weather ∈ Gw := gwc in_2_2 (i := 5) rfl rfl
theorem w566 : Cond.code yX0_weather cX0_weather 5 none ∈ Gw := gwc in_2_2 (i := 6) rfl rfl
theorem w567 : Cond.methodLink RX0 72 yX0_drift ∈ Gw := gwc in_2_2 (i := 7) rfl rfl
theorem w569 : Cond.instanceMethod yX0_drift ∈ Gw := gwc in_2_2 (i := 9) rfl rfl
theorem w570 : Cond.code yX0_drift cX0_drift 2 none ∈ Gw := gwc in_2_2 (i := 10) rfl rfl
theorem w571 : Cond.methodLink RX0 117 yX0_findWhatGoes ∈ Gw := gwc in_2_2 (i := 11) rfl rfl
theorem w573 : Cond.instanceMethod yX0_findWhatGoes ∈ Gw := gwc in_2_2 (i := 13) rfl rfl
theorem w574 : Cond.code yX0_findWhatGoes cX0_findWhatGoes 6 none ∈ Gw := gwc in_2_2 (i := 14) rfl rfl
theorem w575 : Cond.methodLink RX0 127 yX0_roomBehind ∈ Gw := gwc in_2_2 (i := 15) rfl rfl
theorem w576 : Cond.instanceMethod yX0_roomBehind ∈ Gw := gwc in_2_2 (i := 16) rfl rfl
theorem w577 : Cond.selects RX0 yX0_roomBehind yX0_roomBehind ∈ Gw := gwc in_2_2 (i := 17) rfl rfl
theorem w578 : Cond.code yX0_roomBehind cX0_roomBehind 3 (some .int) ∈ Gw := gwc in_2_2 (i := 18) rfl rfl
theorem w579 : Cond.methodLink RX0 121 yX2_beside ∈ Gw := gwc in_2_2 (i := 19) rfl rfl
theorem w580 : Cond.static yX2_beside ∈ Gw := gwc in_2_2 (i := 20) rfl rfl
theorem w581 : Cond.code yX2_beside cX2_beside 4 (some .int) ∈ Gw := gwc in_2_2 (i := 21) rfl rfl
theorem w582 : Cond.methodLink RX0 147 yX2_isWater ∈ Gw := gwc in_2_2 (i := 22) rfl rfl
theorem w583 : Cond.constant RX0 151 1000000 ∈ Gw := gwc in_2_2 (i := 23) rfl rfl
theorem w584 : Cond.methodLink RX0 152 yX2_roomOf ∈ Gw := gwc in_2_2 (i := 24) rfl rfl
theorem w585 : Cond.instanceMethod yX2_roomOf ∈ Gw := gwc in_2_2 (i := 25) rfl rfl
theorem w586 : Cond.selects RX2 yX2_roomOf yX2_roomOf ∈ Gw := gwc in_2_2 (i := 26) rfl rfl
theorem w587 : Cond.code yX2_roomOf cX2_roomOf 2 (some .int) ∈ Gw := gwc in_2_2 (i := 27) rfl rfl
theorem w590 : Cond.methodLink RX0 130 yX0_blown ∈ Gw := gwc in_2_2 (i := 30) rfl rfl
theorem w591 : Cond.instanceMethod yX0_blown ∈ Gw := gwc in_2_2 (i := 31) rfl rfl
theorem w592 : Cond.selects RX0 yX0_blown yX0_blown ∈ Gw := gwc in_2_2 (i := 32) rfl rfl
theorem w593 : Cond.code yX0_blown cX0_blown 3 (some .int) ∈ Gw := gwc in_2_2 (i := 33) rfl rfl
theorem w594 : Cond.methodLink RX0 142 Lib.Math.min.name ∈ Gw := gwc in_2_2 (i := 34) rfl rfl
theorem w595 : Cond.methodLink RX0 133 yX4_boomOn ∈ Gw := gwc in_2_2 (i := 35) rfl rfl
theorem w596 : Cond.instanceMethod yX4_boomOn ∈ Gw := gwc in_2_2 (i := 36) rfl rfl
theorem w597 : Cond.selects RX4 yX4_boomOn yX4_boomOn ∈ Gw := gwc in_2_2 (i := 37) rfl rfl
theorem w598 : Cond.code yX4_boomOn cX4_boomOn 6 (some .int) ∈ Gw := gwc in_2_2 (i := 38) rfl rfl
theorem w599 : Cond.methodLink RX4 45 yX2_beside ∈ Gw := gwc in_2_2 (i := 39) rfl rfl
theorem w600 : Cond.methodLink RX4 51 yX2_opposite ∈ Gw := gwc in_2_3 (i := 0) rfl rfl
theorem w601 : Cond.static yX2_opposite ∈ Gw := gwc in_2_3 (i := 1) rfl rfl
theorem w602 : Cond.code yX2_opposite cX2_opposite 1 (some .int) ∈ Gw := gwc in_2_3 (i := 2) rfl rfl
theorem w603 : Cond.methodLink RX0 124 yX0_letGo ∈ Gw := gwc in_2_3 (i := 3) rfl rfl
theorem w605 : Cond.instanceMethod yX0_letGo ∈ Gw := gwc in_2_3 (i := 5) rfl rfl
theorem w606 : Cond.code yX0_letGo cX0_letGo 5 none ∈ Gw := gwc in_2_3 (i := 6) rfl rfl
theorem w607 : Cond.methodLink RX0 79 yX0_giveBack ∈ Gw := gwc in_2_3 (i := 7) rfl rfl
theorem w609 : Cond.instanceMethod yX0_giveBack ∈ Gw := gwc in_2_3 (i := 9) rfl rfl
theorem w610 : Cond.code yX0_giveBack cX0_giveBack 4 none ∈ Gw := gwc in_2_3 (i := 10) rfl rfl
theorem w611 : Cond.methodLink RX0 161 yX2_lowestWaterBeside ∈ Gw := gwc in_2_3 (i := 11) rfl rfl
theorem w612 : Cond.instanceMethod yX2_lowestWaterBeside ∈ Gw := gwc in_2_3 (i := 12) rfl rfl
theorem w613 : Cond.selects RX2 yX2_lowestWaterBeside yX2_lowestWaterBeside ∈ Gw := gwc in_2_3 (i := 13) rfl rfl
theorem w614 : Cond.code yX2_lowestWaterBeside cX2_lowestWaterBeside 5 (some .int) ∈ Gw := gwc in_2_3 (i := 14) rfl rfl
theorem w615 : Cond.methodLink RX2 42 yX2_beside ∈ Gw := gwc in_2_3 (i := 15) rfl rfl
theorem w616 : Cond.methodLink RX2 46 yX2_isWater ∈ Gw := gwc in_2_3 (i := 16) rfl rfl
theorem w617 : Cond.methodLink RX0 164 yX2_backOf ∈ Gw := gwc in_2_3 (i := 17) rfl rfl
theorem w618 : Cond.instanceMethod yX2_backOf ∈ Gw := gwc in_2_3 (i := 18) rfl rfl
theorem w619 : Cond.selects RX2 yX2_backOf yX2_backOf ∈ Gw := gwc in_2_3 (i := 19) rfl rfl
theorem w620 : Cond.code yX2_backOf cX2_backOf 4 (some .int) ∈ Gw := gwc in_2_3 (i := 20) rfl rfl
theorem w623 : Cond.methodLink RX0 82 yX0_skim ∈ Gw := gwc in_2_3 (i := 23) rfl rfl
theorem w625 : Cond.instanceMethod yX0_skim ∈ Gw := gwc in_2_3 (i := 25) rfl rfl
theorem w626 : Cond.code yX0_skim cX0_skim 5 none ∈ Gw := gwc in_2_3 (i := 26) rfl rfl
theorem w627 : Cond.methodLink RX0 172 yX4_freshTaken ∈ Gw := gwc in_2_3 (i := 27) rfl rfl
theorem w628 : Cond.instanceMethod yX4_freshTaken ∈ Gw := gwc in_2_3 (i := 28) rfl rfl
theorem w629 : Cond.selects RX4 yX4_freshTaken yX4_freshTaken ∈ Gw := gwc in_2_3 (i := 29) rfl rfl
theorem w630 : Cond.code yX4_freshTaken cX4_freshTaken 4 (some .int) ∈ Gw := gwc in_2_3 (i := 30) rfl rfl
theorem w631 : Cond.methodLink RX4 55 Lib.Math.min.name ∈ Gw := gwc in_2_3 (i := 31) rfl rfl
theorem w632 : Cond.methodLink RX0 175 yX4_thickTaken ∈ Gw := gwc in_2_3 (i := 32) rfl rfl
theorem w633 : Cond.instanceMethod yX4_thickTaken ∈ Gw := gwc in_2_3 (i := 33) rfl rfl
theorem w634 : Cond.selects RX4 yX4_thickTaken yX4_thickTaken ∈ Gw := gwc in_2_3 (i := 34) rfl rfl
theorem w635 : Cond.code yX4_thickTaken cX4_thickTaken 5 (some .int) ∈ Gw := gwc in_2_3 (i := 35) rfl rfl
theorem w636 : Cond.methodLink RX0 85 yX0_harmShores ∈ Gw := gwc in_2_3 (i := 36) rfl rfl
theorem w638 : Cond.instanceMethod yX0_harmShores ∈ Gw := gwc in_2_3 (i := 38) rfl rfl
theorem w639 : Cond.code yX0_harmShores cX0_harmShores 2 none ∈ Gw := gwc in_2_3 (i := 39) rfl rfl
theorem w640 : Cond.methodLink RX0 179 yX2_oilBirds ∈ Gw := gwc in_2_4 (i := 0) rfl rfl
theorem w641 : Cond.instanceMethod yX2_oilBirds ∈ Gw := gwc in_2_4 (i := 1) rfl rfl
theorem w642 : Cond.selects RX2 yX2_oilBirds yX2_oilBirds ∈ Gw := gwc in_2_4 (i := 2) rfl rfl
theorem w643 : Cond.code yX2_oilBirds cX2_oilBirds 3 none ∈ Gw := gwc in_2_4 (i := 3) rfl rfl
theorem w644 : Cond.methodLink RX2 62 Lib.Math.min.name ∈ Gw := gwc in_2_4 (i := 4) rfl rfl
theorem w645 : Cond.methodLink RX0 182 yX2_isTooDirty ∈ Gw := gwc in_2_4 (i := 5) rfl rfl
theorem w646 : Cond.instanceMethod yX2_isTooDirty ∈ Gw := gwc in_2_4 (i := 6) rfl rfl
theorem w647 : Cond.selects RX2 yX2_isTooDirty yX2_isTooDirty ∈ Gw := gwc in_2_4 (i := 7) rfl rfl
theorem w648 : Cond.code yX2_isTooDirty cX2_isTooDirty 2 (some .boolean) ∈ Gw := gwc in_2_4 (i := 8) rfl rfl
theorem w649 : Cond.methodLink RL 151 yL_at ∈ Gw := gwc in_2_4 (i := 9) rfl rfl
theorem w650 : Cond.static yL_at ∈ Gw := gwc in_2_4 (i := 10) rfl rfl
theorem w652 : Cond.methodLink RL 42 yX9_at ∈ Gw := gwc in_2_4 (i := 12) rfl rfl
theorem w653 : Cond.instanceMethod yX9_at ∈ Gw := gwc in_2_4 (i := 13) rfl rfl
theorem w654 : Cond.selects RX9 yX9_at yX9_at ∈ Gw := gwc in_2_4 (i := 14) rfl rfl
theorem w655 : Cond.code yX9_at cX9_at 4 (some .int) ∈ Gw := gwc in_2_4 (i := 15) rfl rfl
theorem w656 : Cond.methodLink RX9 161 yX2_isClean ∈ Gw := gwc in_2_4 (i := 16) rfl rfl
theorem w657 : Cond.instanceMethod yX2_isClean ∈ Gw := gwc in_2_4 (i := 17) rfl rfl
theorem w658 : Cond.selects RX2 yX2_isClean yX2_isClean ∈ Gw := gwc in_2_4 (i := 18) rfl rfl
theorem w659 : Cond.code yX2_isClean cX2_isClean 2 (some .boolean) ∈ Gw := gwc in_2_4 (i := 19) rfl rfl
theorem w660 : Cond.methodLink RX2 56 yJ6_bitCount_0f7a4 ∈ Gw := gwc in_2_4 (i := 20) rfl rfl
theorem w661 : Cond.static yJ6_bitCount_0f7a4 ∈ Gw := gwc in_2_4 (i := 21) rfl rfl
theorem w662 : Cond.code yJ6_bitCount_0f7a4 cJ6_bitCount_0f7a4 1 (some .int) ∈ Gw := gwc in_2_4 (i := 22) rfl rfl
theorem w663 : Cond.constant RJ6 265 1431655765 ∈ Gw := gwc in_2_4 (i := 23) rfl rfl
theorem w664 : Cond.constant RJ6 266 858993459 ∈ Gw := gwc in_2_4 (i := 24) rfl rfl
theorem w665 : Cond.constant RJ6 267 252645135 ∈ Gw := gwc in_2_4 (i := 25) rfl rfl
theorem w666 : Cond.methodLink RL 154 yL_boom ∈ Gw := gwc in_2_4 (i := 26) rfl rfl
theorem w667 : Cond.static yL_boom ∈ Gw := gwc in_2_4 (i := 27) rfl rfl
theorem w669 : Cond.methodLink RL 45 yX9_boom ∈ Gw := gwc in_2_4 (i := 29) rfl rfl
theorem w670 : Cond.instanceMethod yX9_boom ∈ Gw := gwc in_2_4 (i := 30) rfl rfl
theorem w671 : Cond.selects RX9 yX9_boom yX9_boom ∈ Gw := gwc in_2_4 (i := 31) rfl rfl
theorem w672 : Cond.code yX9_boom cX9_boom 5 (some .int) ∈ Gw := gwc in_2_4 (i := 32) rfl rfl
theorem w673 : Cond.methodLink RX9 164 yX4_boomOn ∈ Gw := gwc in_2_4 (i := 33) rfl rfl
theorem w675 : Cond.methodLink RX9 169 yX9_needRoomForMeans ∈ Gw := gwc in_2_4 (i := 35) rfl rfl
theorem w677 : Cond.instanceMethod yX9_needRoomForMeans ∈ Gw := gwc in_2_4 (i := 37) rfl rfl
theorem w678 : Cond.code yX9_needRoomForMeans cX9_needRoomForMeans 1 none ∈ Gw := gwc in_2_4 (i := 38) rfl rfl
theorem w680 : Cond.methodLink RX9 172 yX4_add ∈ Gw := gwc in_2_5 (i := 0) rfl rfl
theorem w681 : Cond.instanceMethod yX4_add ∈ Gw := gwc in_2_5 (i := 1) rfl rfl
theorem w682 : Cond.selects RX4 yX4_add yX4_add ∈ Gw := gwc in_2_5 (i := 2) rfl rfl
theorem w683 : Cond.code yX4_add cX4_add 5 (some .int) ∈ Gw := gwc in_2_5 (i := 3) rfl rfl
theorem w684 : Cond.methodLink RL 157 yL_skimmer ∈ Gw := gwc in_2_5 (i := 4) rfl rfl
theorem w685 : Cond.static yL_skimmer ∈ Gw := gwc in_2_5 (i := 5) rfl rfl
theorem w687 : Cond.methodLink RL 48 yX9_skimmer ∈ Gw := gwc in_2_5 (i := 7) rfl rfl
theorem w688 : Cond.instanceMethod yX9_skimmer ∈ Gw := gwc in_2_5 (i := 8) rfl rfl
theorem w689 : Cond.selects RX9 yX9_skimmer yX9_skimmer ∈ Gw := gwc in_2_5 (i := 9) rfl rfl
theorem w690 : Cond.code yX9_skimmer cX9_skimmer 5 (some .int) ∈ Gw := gwc in_2_5 (i := 10) rfl rfl
theorem w691 : Cond.methodLink RL 160 yL_team ∈ Gw := gwc in_2_5 (i := 11) rfl rfl
theorem w692 : Cond.static yL_team ∈ Gw := gwc in_2_5 (i := 12) rfl rfl
theorem w694 : Cond.methodLink RL 51 yX9_team ∈ Gw := gwc in_2_5 (i := 14) rfl rfl
theorem w695 : Cond.instanceMethod yX9_team ∈ Gw := gwc in_2_5 (i := 15) rfl rfl
theorem w696 : Cond.selects RX9 yX9_team yX9_team ∈ Gw := gwc in_2_5 (i := 16) rfl rfl
theorem w697 : Cond.code yX9_team cX9_team 4 (some .int) ∈ Gw := gwc in_2_5 (i := 17) rfl rfl
theorem w698 : Cond.methodLink RL 164 yL_move ∈ Gw := gwc in_2_5 (i := 18) rfl rfl
theorem w699 : Cond.static yL_move ∈ Gw := gwc in_2_5 (i := 19) rfl rfl
theorem w701 : Cond.methodLink RL 55 yX9_move ∈ Gw := gwc in_2_5 (i := 21) rfl rfl
theorem w702 : Cond.instanceMethod yX9_move ∈ Gw := gwc in_2_5 (i := 22) rfl rfl
theorem w703 : Cond.selects RX9 yX9_move yX9_move ∈ Gw := gwc in_2_5 (i := 23) rfl rfl
theorem w704 : Cond.code yX9_move cX9_move 4 (some .int) ∈ Gw := gwc in_2_5 (i := 24) rfl rfl
theorem w705 : Cond.methodLink RX9 186 yX9_needSort ∈ Gw := gwc in_2_5 (i := 25) rfl rfl
theorem w707 : Cond.instanceMethod yX9_needSort ∈ Gw := gwc in_2_5 (i := 27) rfl rfl
theorem w708 : Cond.code yX9_needSort cX9_needSort 3 none ∈ Gw := gwc in_2_5 (i := 28) rfl rfl
theorem w710 : Cond.methodLink RL 167 yL_carry ∈ Gw := gwc in_2_5 (i := 30) rfl rfl
theorem w711 : Cond.static yL_carry ∈ Gw := gwc in_2_5 (i := 31) rfl rfl
theorem w713 : Cond.methodLink RL 58 yX9_carry ∈ Gw := gwc in_2_5 (i := 33) rfl rfl
theorem w714 : Cond.instanceMethod yX9_carry ∈ Gw := gwc in_2_5 (i := 34) rfl rfl
theorem w715 : Cond.selects RX9 yX9_carry yX9_carry ∈ Gw := gwc in_2_5 (i := 35) rfl rfl
theorem w716 : Cond.code yX9_carry cX9_carry 3 (some .int) ∈ Gw := gwc in_2_5 (i := 36) rfl rfl
theorem w717 : Cond.methodLink RL 170 yL_teach ∈ Gw := gwc in_2_5 (i := 37) rfl rfl
theorem w718 : Cond.static yL_teach ∈ Gw := gwc in_2_5 (i := 38) rfl rfl
theorem w720 : Cond.methodLink RL 61 yX9_teach ∈ Gw := gwc in_3_0 (i := 0) rfl rfl
theorem w721 : Cond.instanceMethod yX9_teach ∈ Gw := gwc in_3_0 (i := 1) rfl rfl
theorem w722 : Cond.selects RX9 yX9_teach yX9_teach ∈ Gw := gwc in_3_0 (i := 2) rfl rfl
theorem w723 : Cond.code yX9_teach cX9_teach 3 (some .boolean) ∈ Gw := gwc in_3_0 (i := 3) rfl rfl
theorem w724 : Cond.methodLink RL 173 yL_clean ∈ Gw := gwc in_3_0 (i := 4) rfl rfl
theorem w725 : Cond.static yL_clean ∈ Gw := gwc in_3_0 (i := 5) rfl rfl
theorem w727 : Cond.methodLink RL 65 yX9_clean ∈ Gw := gwc in_3_0 (i := 7) rfl rfl
theorem w728 : Cond.instanceMethod yX9_clean ∈ Gw := gwc in_3_0 (i := 8) rfl rfl
theorem w729 : Cond.selects RX9 yX9_clean yX9_clean ∈ Gw := gwc in_3_0 (i := 9) rfl rfl
theorem w730 : Cond.code yX9_clean cX9_clean 4 (some .int) ∈ Gw := gwc in_3_0 (i := 10) rfl rfl
theorem w731 : Cond.methodLink RX9 198 yX9_needShore ∈ Gw := gwc in_3_0 (i := 11) rfl rfl
theorem w733 : Cond.instanceMethod yX9_needShore ∈ Gw := gwc in_3_0 (i := 13) rfl rfl
theorem w734 : Cond.code yX9_needShore cX9_needShore 2 none ∈ Gw := gwc in_3_0 (i := 14) rfl rfl
theorem w736 : Cond.methodLink RX9 201 yX4_canWork ∈ Gw := gwc in_3_0 (i := 16) rfl rfl
theorem w737 : Cond.instanceMethod yX4_canWork ∈ Gw := gwc in_3_0 (i := 17) rfl rfl
theorem w738 : Cond.selects RX4 yX4_canWork yX4_canWork ∈ Gw := gwc in_3_0 (i := 18) rfl rfl
theorem w739 : Cond.code yX4_canWork cX4_canWork 3 (some .boolean) ∈ Gw := gwc in_3_0 (i := 19) rfl rfl
theorem w740 : Cond.methodLink RX4 60 yX4_hasRested ∈ Gw := gwc in_3_0 (i := 20) rfl rfl
theorem w742 : Cond.instanceMethod yX4_hasRested ∈ Gw := gwc in_3_0 (i := 22) rfl rfl
theorem w743 : Cond.code yX4_hasRested cX4_hasRested 3 (some .boolean) ∈ Gw := gwc in_3_0 (i := 23) rfl rfl
theorem w745 : Cond.methodLink RX9 207 yX4_noteWork ∈ Gw := gwc in_3_0 (i := 25) rfl rfl
theorem w746 : Cond.instanceMethod yX4_noteWork ∈ Gw := gwc in_3_0 (i := 26) rfl rfl
theorem w747 : Cond.selects RX4 yX4_noteWork yX4_noteWork ∈ Gw := gwc in_3_0 (i := 27) rfl rfl
theorem w748 : Cond.code yX4_noteWork cX4_noteWork 3 none ∈ Gw := gwc in_3_0 (i := 28) rfl rfl
theorem w749 : Cond.methodLink RX9 213 Lib.Math.min.name ∈ Gw := gwc in_3_0 (i := 29) rfl rfl
theorem w750 : Cond.methodLink RL 176 yL_meanIs ∈ Gw := gwc in_3_0 (i := 30) rfl rfl
theorem w751 : Cond.static yL_meanIs ∈ Gw := gwc in_3_0 (i := 31) rfl rfl
theorem w753 : Cond.methodLink RL 68 yX9_meanIs ∈ Gw := gwc in_3_0 (i := 33) rfl rfl
theorem w754 : Cond.instanceMethod yX9_meanIs ∈ Gw := gwc in_3_0 (i := 34) rfl rfl
theorem w755 : Cond.selects RX9 yX9_meanIs yX9_meanIs ∈ Gw := gwc in_3_0 (i := 35) rfl rfl
theorem w756 : Cond.code yX9_meanIs cX9_meanIs 3 (some .int) ∈ Gw := gwc in_3_0 (i := 36) rfl rfl
theorem w757 : Cond.methodLink RL 179 yL_use ∈ Gw := gwc in_3_0 (i := 37) rfl rfl
theorem w758 : Cond.static yL_use ∈ Gw := gwc in_3_0 (i := 38) rfl rfl
theorem w760 : Cond.methodLink RL 71 yX9_use ∈ Gw := gwc in_3_1 (i := 0) rfl rfl
theorem w761 : Cond.instanceMethod yX9_use ∈ Gw := gwc in_3_1 (i := 1) rfl rfl
theorem w762 : Cond.selects RX9 yX9_use yX9_use ∈ Gw := gwc in_3_1 (i := 2) rfl rfl
theorem w763 : Cond.code yX9_use cX9_use 3 (some .int) ∈ Gw := gwc in_3_1 (i := 3) rfl rfl
theorem w764 : Cond.methodLink RX9 221 yX7_howMany ∈ Gw := gwc in_3_1 (i := 4) rfl rfl
theorem w765 : Cond.instanceMethod yX7_howMany ∈ Gw := gwc in_3_1 (i := 5) rfl rfl
theorem w766 : Cond.selects RX7 yX7_howMany yX7_howMany ∈ Gw := gwc in_3_1 (i := 6) rfl rfl
theorem w767 : Cond.code yX7_howMany cX7_howMany 5 (some .int) ∈ Gw := gwc in_3_1 (i := 7) rfl rfl
theorem w768 : Cond.methodLink RX7 45 yX7_isAgainst ∈ Gw := gwc in_3_1 (i := 8) rfl rfl
theorem w770 : Cond.instanceMethod yX7_isAgainst ∈ Gw := gwc in_3_1 (i := 10) rfl rfl
theorem w771 : Cond.code yX7_isAgainst cX7_isAgainst 6 (some .boolean) ∈ Gw := gwc in_3_1 (i := 11) rfl rfl
theorem w772 : Cond.methodLink RX7 30 yX0_hasLeakedWithin ∈ Gw := gwc in_3_1 (i := 12) rfl rfl
theorem w773 : Cond.instanceMethod yX0_hasLeakedWithin ∈ Gw := gwc in_3_1 (i := 13) rfl rfl
theorem w774 : Cond.selects RX0 yX0_hasLeakedWithin yX0_hasLeakedWithin ∈ Gw := gwc in_3_1 (i := 14) rfl rfl
theorem w775 : Cond.code yX0_hasLeakedWithin cX0_hasLeakedWithin 2 (some .boolean) ∈ Gw := gwc in_3_1 (i := 15) rfl rfl
theorem w776 : Cond.methodLink RX7 41 yX2_isKindBeside ∈ Gw := gwc in_3_1 (i := 16) rfl rfl
theorem w777 : Cond.instanceMethod yX2_isKindBeside ∈ Gw := gwc in_3_1 (i := 17) rfl rfl
theorem w778 : Cond.selects RX2 yX2_isKindBeside yX2_isKindBeside ∈ Gw := gwc in_3_1 (i := 18) rfl rfl
theorem w779 : Cond.code yX2_isKindBeside cX2_isKindBeside 6 (some .boolean) ∈ Gw := gwc in_3_1 (i := 19) rfl rfl
theorem w781 : Cond.methodLink RX9 226 yX0_disperse ∈ Gw := gwc in_3_1 (i := 21) rfl rfl
theorem w782 : Cond.instanceMethod yX0_disperse ∈ Gw := gwc in_3_1 (i := 22) rfl rfl
theorem w783 : Cond.selects RX0 yX0_disperse yX0_disperse ∈ Gw := gwc in_3_1 (i := 23) rfl rfl
theorem w784 : Cond.code yX0_disperse cX0_disperse 3 (some .int) ∈ Gw := gwc in_3_1 (i := 24) rfl rfl
theorem w785 : Cond.methodLink RX9 230 yX0_burn ∈ Gw := gwc in_3_1 (i := 25) rfl rfl
theorem w786 : Cond.instanceMethod yX0_burn ∈ Gw := gwc in_3_1 (i := 26) rfl rfl
theorem w787 : Cond.selects RX0 yX0_burn yX0_burn ∈ Gw := gwc in_3_1 (i := 27) rfl rfl
theorem w788 : Cond.code yX0_burn cX0_burn 3 (some .int) ∈ Gw := gwc in_3_1 (i := 28) rfl rfl
theorem w789 : Cond.methodLink RL 182 yL_why ∈ Gw := gwc in_3_1 (i := 29) rfl rfl
theorem w790 : Cond.static yL_why ∈ Gw := gwc in_3_1 (i := 30) rfl rfl
theorem w792 : Cond.methodLink RL 74 yX9_why ∈ Gw := gwc in_3_1 (i := 32) rfl rfl
theorem w793 : Cond.instanceMethod yX9_why ∈ Gw := gwc in_3_1 (i := 33) rfl rfl
theorem w794 : Cond.selects RX9 yX9_why yX9_why ∈ Gw := gwc in_3_1 (i := 34) rfl rfl
theorem w795 : Cond.code yX9_why cX9_why 4 (some .int) ∈ Gw := gwc in_3_1 (i := 35) rfl rfl
theorem w796 : Cond.methodLink RX9 233 yX7_first ∈ Gw := gwc in_3_1 (i := 36) rfl rfl
theorem w797 : Cond.instanceMethod yX7_first ∈ Gw := gwc in_3_1 (i := 37) rfl rfl
theorem w798 : Cond.selects RX7 yX7_first yX7_first ∈ Gw := gwc in_3_1 (i := 38) rfl rfl
theorem w799 : Cond.code yX7_first cX7_first 4 (some .int) ∈ Gw := gwc in_3_1 (i := 39) rfl rfl
theorem w800 : Cond.methodLink RX9 236 yX7_last ∈ Gw := gwc in_3_2 (i := 0) rfl rfl
theorem w801 : Cond.instanceMethod yX7_last ∈ Gw := gwc in_3_2 (i := 1) rfl rfl
theorem w802 : Cond.selects RX7 yX7_last yX7_last ∈ Gw := gwc in_3_2 (i := 2) rfl rfl
theorem w803 : Cond.code yX7_last cX7_last 4 (some .int) ∈ Gw := gwc in_3_2 (i := 3) rfl rfl
theorem w804 : Cond.methodLink RL 185 yL_birds ∈ Gw := gwc in_3_2 (i := 4) rfl rfl
theorem w805 : Cond.static yL_birds ∈ Gw := gwc in_3_2 (i := 5) rfl rfl
theorem w807 : Cond.methodLink RL 77 yX9_birds ∈ Gw := gwc in_3_2 (i := 7) rfl rfl
theorem w808 : Cond.instanceMethod yX9_birds ∈ Gw := gwc in_3_2 (i := 8) rfl rfl
theorem w809 : Cond.selects RX9 yX9_birds yX9_birds ∈ Gw := gwc in_3_2 (i := 9) rfl rfl
theorem w810 : Cond.code yX9_birds cX9_birds 3 (some .int) ∈ Gw := gwc in_3_2 (i := 10) rfl rfl
theorem w812 : Cond.methodLink RL 188 yL_wash ∈ Gw := gwc in_3_2 (i := 12) rfl rfl
theorem w813 : Cond.static yL_wash ∈ Gw := gwc in_3_2 (i := 13) rfl rfl
theorem w815 : Cond.methodLink RL 80 yX9_wash ∈ Gw := gwc in_3_2 (i := 15) rfl rfl
theorem w816 : Cond.instanceMethod yX9_wash ∈ Gw := gwc in_3_2 (i := 16) rfl rfl
theorem w817 : Cond.selects RX9 yX9_wash yX9_wash ∈ Gw := gwc in_3_2 (i := 17) rfl rfl
theorem w818 : Cond.code yX9_wash cX9_wash 4 (some .int) ∈ Gw := gwc in_3_2 (i := 18) rfl rfl
theorem w819 : Cond.methodLink RL 191 yL_sign ∈ Gw := gwc in_3_2 (i := 19) rfl rfl
theorem w820 : Cond.static yL_sign ∈ Gw := gwc in_3_2 (i := 20) rfl rfl
theorem w822 : Cond.methodLink RL 83 yX9_sign ∈ Gw := gwc in_3_2 (i := 22) rfl rfl
theorem w823 : Cond.instanceMethod yX9_sign ∈ Gw := gwc in_3_2 (i := 23) rfl rfl
theorem w824 : Cond.selects RX9 yX9_sign yX9_sign ∈ Gw := gwc in_3_2 (i := 24) rfl rfl
theorem w825 : Cond.code yX9_sign cX9_sign 4 (some .boolean) ∈ Gw := gwc in_3_2 (i := 25) rfl rfl
theorem w826 : Cond.methodLink RX9 241 yX2_isTooDirty ∈ Gw := gwc in_3_2 (i := 26) rfl rfl
theorem w829 : Cond.methodLink RL 194 yL_site ∈ Gw := gwc in_3_2 (i := 29) rfl rfl
theorem w830 : Cond.static yL_site ∈ Gw := gwc in_3_2 (i := 30) rfl rfl
theorem w832 : Cond.methodLink RL 87 yX9_site ∈ Gw := gwc in_3_2 (i := 32) rfl rfl
theorem w833 : Cond.instanceMethod yX9_site ∈ Gw := gwc in_3_2 (i := 33) rfl rfl
theorem w834 : Cond.selects RX9 yX9_site yX9_site ∈ Gw := gwc in_3_2 (i := 34) rfl rfl
theorem w835 : Cond.code yX9_site cX9_site 3 (some .int) ∈ Gw := gwc in_3_2 (i := 35) rfl rfl
theorem w837 : Cond.methodLink RX9 253 yX3_addSite ∈ Gw := gwc in_3_2 (i := 37) rfl rfl
theorem w838 : Cond.instanceMethod yX3_addSite ∈ Gw := gwc in_3_2 (i := 38) rfl rfl
theorem w839 : Cond.selects RX3 yX3_addSite yX3_addSite ∈ Gw := gwc in_3_2 (i := 39) rfl rfl
theorem w840 : Cond.code yX3_addSite cX3_addSite 4 (some .int) ∈ Gw := gwc in_3_3 (i := 0) rfl rfl
theorem w841 : Cond.methodLink RL 197 yL_deliver ∈ Gw := gwc in_3_3 (i := 1) rfl rfl
theorem w842 : Cond.static yL_deliver ∈ Gw := gwc in_3_3 (i := 2) rfl rfl
theorem w844 : Cond.methodLink RL 90 yX9_deliver ∈ Gw := gwc in_3_3 (i := 4) rfl rfl
theorem w845 : Cond.instanceMethod yX9_deliver ∈ Gw := gwc in_3_3 (i := 5) rfl rfl
theorem w846 : Cond.selects RX9 yX9_deliver yX9_deliver ∈ Gw := gwc in_3_3 (i := 6) rfl rfl
theorem w847 : Cond.code yX9_deliver cX9_deliver 4 (some .int) ∈ Gw := gwc in_3_3 (i := 7) rfl rfl
theorem w848 : Cond.methodLink RX9 256 yX3_roomFor ∈ Gw := gwc in_3_3 (i := 8) rfl rfl
theorem w849 : Cond.instanceMethod yX3_roomFor ∈ Gw := gwc in_3_3 (i := 9) rfl rfl
theorem w850 : Cond.selects RX3 yX3_roomFor yX3_roomFor ∈ Gw := gwc in_3_3 (i := 10) rfl rfl
theorem w851 : Cond.code yX3_roomFor cX3_roomFor 3 (some .int) ∈ Gw := gwc in_3_3 (i := 11) rfl rfl
theorem w853 : Cond.methodLink RX9 261 yX3_take ∈ Gw := gwc in_3_3 (i := 13) rfl rfl
theorem w854 : Cond.instanceMethod yX3_take ∈ Gw := gwc in_3_3 (i := 14) rfl rfl
theorem w855 : Cond.selects RX3 yX3_take yX3_take ∈ Gw := gwc in_3_3 (i := 15) rfl rfl
theorem w856 : Cond.code yX3_take cX3_take 4 none ∈ Gw := gwc in_3_3 (i := 16) rfl rfl
theorem w857 : Cond.methodLink RL 200 yL_waste ∈ Gw := gwc in_3_3 (i := 17) rfl rfl
theorem w858 : Cond.static yL_waste ∈ Gw := gwc in_3_3 (i := 18) rfl rfl
theorem w860 : Cond.methodLink RL 93 yX9_waste ∈ Gw := gwc in_3_3 (i := 20) rfl rfl
theorem w861 : Cond.instanceMethod yX9_waste ∈ Gw := gwc in_3_3 (i := 21) rfl rfl
theorem w862 : Cond.selects RX9 yX9_waste yX9_waste ∈ Gw := gwc in_3_3 (i := 22) rfl rfl
theorem w863 : Cond.code yX9_waste cX9_waste 2 (some .int) ∈ Gw := gwc in_3_3 (i := 23) rfl rfl
theorem w864 : Cond.methodLink RL 203 yL_claim ∈ Gw := gwc in_3_3 (i := 24) rfl rfl
theorem w865 : Cond.static yL_claim ∈ Gw := gwc in_3_3 (i := 25) rfl rfl
theorem w867 : Cond.methodLink RL 96 yX9_claim ∈ Gw := gwc in_3_3 (i := 27) rfl rfl
theorem w868 : Cond.instanceMethod yX9_claim ∈ Gw := gwc in_3_3 (i := 28) rfl rfl
theorem w869 : Cond.selects RX9 yX9_claim yX9_claim ∈ Gw := gwc in_3_3 (i := 29) rfl rfl
theorem w870 : Cond.code yX9_claim cX9_claim 2 (some .int) ∈ Gw := gwc in_3_3 (i := 30) rfl rfl
theorem w871 : Cond.constant RX9 264 1000000 ∈ Gw := gwc in_3_3 (i := 31) rfl rfl
theorem w873 : Cond.methodLink RX9 268 yX6_add ∈ Gw := gwc in_3_3 (i := 33) rfl rfl
theorem w874 : Cond.instanceMethod yX6_add ∈ Gw := gwc in_3_3 (i := 34) rfl rfl
theorem w875 : Cond.selects RX6 yX6_add yX6_add ∈ Gw := gwc in_3_3 (i := 35) rfl rfl
theorem w876 : Cond.code yX6_add cX6_add 3 (some .int) ∈ Gw := gwc in_3_3 (i := 36) rfl rfl
theorem w877 : Cond.methodLink RL 206 yL_layers ∈ Gw := gwc in_3_3 (i := 37) rfl rfl
theorem w878 : Cond.static yL_layers ∈ Gw := gwc in_3_3 (i := 38) rfl rfl
theorem w880 : Cond.methodLink RL 99 yX9_layers ∈ Gw := gwc in_3_4 (i := 0) rfl rfl
theorem w881 : Cond.instanceMethod yX9_layers ∈ Gw := gwc in_3_4 (i := 1) rfl rfl
theorem w882 : Cond.selects RX9 yX9_layers yX9_layers ∈ Gw := gwc in_3_4 (i := 2) rfl rfl
theorem w883 : Cond.code yX9_layers cX9_layers 4 (some .int) ∈ Gw := gwc in_3_4 (i := 3) rfl rfl
theorem w884 : Cond.constant RX9 270 10000000 ∈ Gw := gwc in_3_4 (i := 4) rfl rfl
theorem w885 : Cond.methodLink RL 209 yL_due ∈ Gw := gwc in_3_4 (i := 5) rfl rfl
theorem w886 : Cond.static yL_due ∈ Gw := gwc in_3_4 (i := 6) rfl rfl
theorem w888 : Cond.methodLink RL 102 yX9_due ∈ Gw := gwc in_3_4 (i := 8) rfl rfl
theorem w889 : Cond.instanceMethod yX9_due ∈ Gw := gwc in_3_4 (i := 9) rfl rfl
theorem w890 : Cond.selects RX9 yX9_due yX9_due ∈ Gw := gwc in_3_4 (i := 10) rfl rfl
theorem w891 : Cond.code yX9_due cX9_due 7 (some .int) ∈ Gw := gwc in_3_4 (i := 11) rfl rfl
theorem w892 : Cond.methodLink RX9 277 yX6_getsOf ∈ Gw := gwc in_3_4 (i := 12) rfl rfl
theorem w893 : Cond.instanceMethod yX6_getsOf ∈ Gw := gwc in_3_4 (i := 13) rfl rfl
theorem w894 : Cond.selects RX6 yX6_getsOf yX6_getsOf ∈ Gw := gwc in_3_4 (i := 14) rfl rfl
theorem w895 : Cond.code yX6_getsOf cX6_getsOf 2 (some .long) ∈ Gw := gwc in_3_4 (i := 15) rfl rfl
theorem w896 : Cond.methodLink RX6 35 yX6_allGet ∈ Gw := gwc in_3_4 (i := 16) rfl rfl
theorem w898 : Cond.instanceMethod yX6_allGet ∈ Gw := gwc in_3_4 (i := 18) rfl rfl
theorem w899 : Cond.code yX6_allGet cX6_allGet 1 (some .long) ∈ Gw := gwc in_3_4 (i := 19) rfl rfl
theorem w900 : Cond.methodLink RX6 29 Lib.MathLoose.min_long.x ∈ Gw := gwc in_3_4 (i := 20) rfl rfl
theorem w901 : Cond.static Lib.MathLoose.min_long.x ∈ Gw := gwc in_3_4 (i := 21) rfl rfl
theorem w902 : Cond.code Lib.MathLoose.min_long.x Lib.MathLoose.min_long.code 4 (some .long) ∈ Gw := gwc in_3_4 (i := 22) rfl rfl
theorem w903 : Cond.methodLink RX9 281 yX6_ownersPartOf ∈ Gw := gwc in_3_4 (i := 23) rfl rfl
theorem w904 : Cond.instanceMethod yX6_ownersPartOf ∈ Gw := gwc in_3_4 (i := 24) rfl rfl
theorem w905 : Cond.selects RX6 yX6_ownersPartOf yX6_ownersPartOf ∈ Gw := gwc in_3_4 (i := 25) rfl rfl
theorem w906 : Cond.code yX6_ownersPartOf cX6_ownersPartOf 5 (some .long) ∈ Gw := gwc in_3_4 (i := 26) rfl rfl
theorem w907 : Cond.methodLink RL 212 yL_ahead ∈ Gw := gwc in_3_4 (i := 27) rfl rfl
theorem w908 : Cond.static yL_ahead ∈ Gw := gwc in_3_4 (i := 28) rfl rfl
theorem w910 : Cond.methodLink RL 105 yX9_ahead ∈ Gw := gwc in_3_4 (i := 30) rfl rfl
theorem w911 : Cond.instanceMethod yX9_ahead ∈ Gw := gwc in_3_4 (i := 31) rfl rfl
theorem w912 : Cond.selects RX9 yX9_ahead yX9_ahead ∈ Gw := gwc in_3_4 (i := 32) rfl rfl
theorem w913 : Cond.code yX9_ahead cX9_ahead 3 (some .int) ∈ Gw := gwc in_3_4 (i := 33) rfl rfl
theorem w914 : Cond.methodLink RX9 285 yX0_becomeLike ∈ Gw := gwc in_3_4 (i := 34) rfl rfl
theorem w915 : Cond.instanceMethod yX0_becomeLike ∈ Gw := gwc in_3_4 (i := 35) rfl rfl
theorem w916 : Cond.selects RX0 yX0_becomeLike yX0_becomeLike ∈ Gw := gwc in_3_4 (i := 36) rfl rfl
theorem w917 : Cond.code yX0_becomeLike cX0_becomeLike 2 none ∈ Gw := gwc in_3_4 (i := 37) rfl rfl
theorem w918 : Cond.methodLink RX0 50 yX2_becomeLike ∈ Gw := gwc in_3_4 (i := 38) rfl rfl
theorem w919 : Cond.instanceMethod yX2_becomeLike ∈ Gw := gwc in_3_4 (i := 39) rfl rfl
theorem w920 : Cond.selects RX2 yX2_becomeLike yX2_becomeLike ∈ Gw := gwc in_3_5 (i := 0) rfl rfl
theorem w921 : Cond.code yX2_becomeLike cX2_becomeLike 2 none ∈ Gw := gwc in_3_5 (i := 1) rfl rfl
theorem w922 : Cond.methodLink RX2 67 arraycopyName ∈ Gw := gwc in_3_5 (i := 2) rfl rfl
theorem w923 : Cond.static arraycopyName ∈ Gw := gwc in_3_5 (i := 3) rfl rfl
theorem w924 : Cond.native arraycopyName ∈ Gw := gwc in_3_5 (i := 4) rfl rfl
theorem w925 : Cond.methodLink RX0 54 yX8_becomeLike ∈ Gw := gwc in_3_5 (i := 5) rfl rfl
theorem w926 : Cond.instanceMethod yX8_becomeLike ∈ Gw := gwc in_3_5 (i := 6) rfl rfl
theorem w927 : Cond.selects RX8 yX8_becomeLike yX8_becomeLike ∈ Gw := gwc in_3_5 (i := 7) rfl rfl
theorem w928 : Cond.code yX8_becomeLike cX8_becomeLike 2 none ∈ Gw := gwc in_3_5 (i := 8) rfl rfl
theorem w929 : Cond.methodLink RX8 31 arraycopyName ∈ Gw := gwc in_3_5 (i := 9) rfl rfl
theorem w930 : Cond.methodLink RX0 57 yX4_becomeLike ∈ Gw := gwc in_3_5 (i := 10) rfl rfl
theorem w931 : Cond.instanceMethod yX4_becomeLike ∈ Gw := gwc in_3_5 (i := 11) rfl rfl
theorem w932 : Cond.selects RX4 yX4_becomeLike yX4_becomeLike ∈ Gw := gwc in_3_5 (i := 12) rfl rfl
theorem w933 : Cond.code yX4_becomeLike cX4_becomeLike 2 none ∈ Gw := gwc in_3_5 (i := 13) rfl rfl
theorem w934 : Cond.methodLink RX4 63 arraycopyName ∈ Gw := gwc in_3_5 (i := 14) rfl rfl
theorem w935 : Cond.methodLink RX9 288 yX2_oilOf ∈ Gw := gwc in_3_5 (i := 15) rfl rfl
theorem w936 : Cond.instanceMethod yX2_oilOf ∈ Gw := gwc in_3_5 (i := 16) rfl rfl
theorem w937 : Cond.selects RX2 yX2_oilOf yX2_oilOf ∈ Gw := gwc in_3_5 (i := 17) rfl rfl
theorem w938 : Cond.code yX2_oilOf cX2_oilOf 2 (some .int) ∈ Gw := gwc in_3_5 (i := 18) rfl rfl
theorem w939 : Cond.methodLink RL 215 yL_nextAnew ∈ Gw := gwc in_3_5 (i := 19) rfl rfl
theorem w940 : Cond.static yL_nextAnew ∈ Gw := gwc in_3_5 (i := 20) rfl rfl
theorem w942 : Cond.methodLink RL 108 yX9_nextAnew ∈ Gw := gwc in_3_5 (i := 22) rfl rfl
theorem w943 : Cond.instanceMethod yX9_nextAnew ∈ Gw := gwc in_3_5 (i := 23) rfl rfl
theorem w944 : Cond.selects RX9 yX9_nextAnew yX9_nextAnew ∈ Gw := gwc in_3_5 (i := 24) rfl rfl
theorem w945 : Cond.code yX9_nextAnew cX9_nextAnew 2 (some .int) ∈ Gw := gwc in_3_5 (i := 25) rfl rfl
theorem w946 : Cond.methodLink RX9 294 yX5_floatingOf ∈ Gw := gwc in_3_5 (i := 26) rfl rfl
theorem w947 : Cond.instanceMethod yX5_floatingOf ∈ Gw := gwc in_3_5 (i := 27) rfl rfl
theorem w948 : Cond.selects RX5 yX5_floatingOf yX5_floatingOf ∈ Gw := gwc in_3_5 (i := 28) rfl rfl
theorem w949 : Cond.code yX5_floatingOf cX5_floatingOf 6 (some .int) ∈ Gw := gwc in_3_5 (i := 29) rfl rfl
theorem w950 : Cond.methodLink RX5 15 yX5_weigh ∈ Gw := gwc in_3_5 (i := 30) rfl rfl
theorem w952 : Cond.instanceMethod yX5_weigh ∈ Gw := gwc in_3_5 (i := 32) rfl rfl
theorem w953 : Cond.code yX5_weigh cX5_weigh 8 none ∈ Gw := gwc in_3_5 (i := 33) rfl rfl
theorem w954 : Cond.methodLink RX5 78 yX5_leaksInto ∈ Gw := gwc in_3_5 (i := 34) rfl rfl
theorem w956 : Cond.instanceMethod yX5_leaksInto ∈ Gw := gwc in_3_5 (i := 36) rfl rfl
theorem w957 : Cond.code yX5_leaksInto cX5_leaksInto 5 (some .int) ∈ Gw := gwc in_3_5 (i := 37) rfl rfl
theorem w958 : Cond.methodLink RX5 71 yX0_tideOf ∈ Gw := gwc in_3_5 (i := 38) rfl rfl
theorem w959 : Cond.methodLink RX5 120 yX8_leakOf ∈ Gw := gwc in_3_5 (i := 39) rfl rfl
theorem w960 : Cond.methodLink RX5 91 yX4_boomOn ∈ Gw := gwc in_4_0 (i := 0) rfl rfl
theorem w961 : Cond.methodLink RX5 102 yX0_roomBehind ∈ Gw := gwc in_4_0 (i := 1) rfl rfl
theorem w962 : Cond.methodLink RX5 105 yX0_blown ∈ Gw := gwc in_4_0 (i := 2) rfl rfl
theorem w963 : Cond.methodLink RX5 32 yX5_waterAgainstWind ∈ Gw := gwc in_4_0 (i := 3) rfl rfl
theorem w965 : Cond.instanceMethod yX5_waterAgainstWind ∈ Gw := gwc in_4_0 (i := 5) rfl rfl
theorem w966 : Cond.code yX5_waterAgainstWind cX5_waterAgainstWind 3 (some .int) ∈ Gw := gwc in_4_0 (i := 6) rfl rfl
theorem w967 : Cond.methodLink RX5 123 yX2_opposite ∈ Gw := gwc in_4_0 (i := 7) rfl rfl
theorem w968 : Cond.methodLink RX5 36 yX2_beside ∈ Gw := gwc in_4_0 (i := 8) rfl rfl
theorem w969 : Cond.methodLink RX5 126 yX2_isWater ∈ Gw := gwc in_4_0 (i := 9) rfl rfl
theorem w970 : Cond.methodLink RX5 42 yX5_givenBackTo ∈ Gw := gwc in_4_0 (i := 10) rfl rfl
theorem w972 : Cond.instanceMethod yX5_givenBackTo ∈ Gw := gwc in_4_0 (i := 12) rfl rfl
theorem w973 : Cond.code yX5_givenBackTo cX5_givenBackTo 3 (some .int) ∈ Gw := gwc in_4_0 (i := 13) rfl rfl
theorem w974 : Cond.methodLink RX5 52 yX5_isHighTide ∈ Gw := gwc in_4_0 (i := 14) rfl rfl
theorem w976 : Cond.instanceMethod yX5_isHighTide ∈ Gw := gwc in_4_0 (i := 16) rfl rfl
theorem w977 : Cond.code yX5_isHighTide cX5_isHighTide 1 (some .boolean) ∈ Gw := gwc in_4_0 (i := 17) rfl rfl
theorem w978 : Cond.methodLink RX5 62 yX2_lowestWaterBeside ∈ Gw := gwc in_4_0 (i := 18) rfl rfl
theorem w979 : Cond.methodLink RX5 49 yX5_landedOn ∈ Gw := gwc in_4_0 (i := 19) rfl rfl
theorem w981 : Cond.instanceMethod yX5_landedOn ∈ Gw := gwc in_4_0 (i := 21) rfl rfl
theorem w982 : Cond.code yX5_landedOn cX5_landedOn 4 (some .int) ∈ Gw := gwc in_4_0 (i := 22) rfl rfl
theorem w983 : Cond.methodLink RX5 65 yX2_backOf ∈ Gw := gwc in_4_0 (i := 23) rfl rfl
theorem w984 : Cond.methodLink RX5 45 yX5_leftBySkimmers ∈ Gw := gwc in_4_0 (i := 24) rfl rfl
theorem w986 : Cond.instanceMethod yX5_leftBySkimmers ∈ Gw := gwc in_4_0 (i := 26) rfl rfl
theorem w987 : Cond.code yX5_leftBySkimmers cX5_leftBySkimmers 8 (some .int) ∈ Gw := gwc in_4_0 (i := 27) rfl rfl
theorem w988 : Cond.methodLink RX5 134 yX4_isSkimmer ∈ Gw := gwc in_4_0 (i := 28) rfl rfl
theorem w989 : Cond.methodLink RX5 138 yX4_freshTaken ∈ Gw := gwc in_4_0 (i := 29) rfl rfl
theorem w990 : Cond.methodLink RX5 141 yX4_thickTaken ∈ Gw := gwc in_4_0 (i := 30) rfl rfl
theorem w991 : Cond.methodLink RX9 297 yX5_strandedOf ∈ Gw := gwc in_4_0 (i := 31) rfl rfl
theorem w992 : Cond.instanceMethod yX5_strandedOf ∈ Gw := gwc in_4_0 (i := 32) rfl rfl
theorem w993 : Cond.selects RX5 yX5_strandedOf yX5_strandedOf ∈ Gw := gwc in_4_0 (i := 33) rfl rfl
theorem w994 : Cond.code yX5_strandedOf cX5_strandedOf 4 (some .int) ∈ Gw := gwc in_4_0 (i := 34) rfl rfl
theorem w995 : Cond.methodLink RL 218 yL_sum ∈ Gw := gwc in_4_0 (i := 35) rfl rfl
theorem w996 : Cond.static yL_sum ∈ Gw := gwc in_4_0 (i := 36) rfl rfl
theorem w998 : Cond.methodLink RL 111 yX9_sum ∈ Gw := gwc in_4_0 (i := 38) rfl rfl
theorem w999 : Cond.instanceMethod yX9_sum ∈ Gw := gwc in_4_0 (i := 39) rfl rfl
theorem w1000 : Cond.selects RX9 yX9_sum yX9_sum ∈ Gw := gwc in_4_1 (i := 0) rfl rfl
theorem w1001 : Cond.code yX9_sum cX9_sum 3 (some .int) ∈ Gw := gwc in_4_1 (i := 1) rfl rfl
theorem w1002 : Cond.methodLink RX9 309 yX8_allLitres ∈ Gw := gwc in_4_1 (i := 2) rfl rfl
theorem w1003 : Cond.instanceMethod yX8_allLitres ∈ Gw := gwc in_4_1 (i := 3) rfl rfl
theorem w1004 : Cond.selects RX8 yX8_allLitres yX8_allLitres ∈ Gw := gwc in_4_1 (i := 4) rfl rfl
theorem w1005 : Cond.code yX8_allLitres cX8_allLitres 3 (some .int) ∈ Gw := gwc in_4_1 (i := 5) rfl rfl
theorem w1006 : Cond.methodLink RX9 313 yX2_allFloating ∈ Gw := gwc in_4_1 (i := 6) rfl rfl
theorem w1007 : Cond.instanceMethod yX2_allFloating ∈ Gw := gwc in_4_1 (i := 7) rfl rfl
theorem w1008 : Cond.selects RX2 yX2_allFloating yX2_allFloating ∈ Gw := gwc in_4_1 (i := 8) rfl rfl
theorem w1009 : Cond.code yX2_allFloating cX2_allFloating 3 (some .int) ∈ Gw := gwc in_4_1 (i := 9) rfl rfl
theorem w1010 : Cond.methodLink RX9 325 yX2_allStranded ∈ Gw := gwc in_4_1 (i := 10) rfl rfl
theorem w1011 : Cond.instanceMethod yX2_allStranded ∈ Gw := gwc in_4_1 (i := 11) rfl rfl
theorem w1012 : Cond.selects RX2 yX2_allStranded yX2_allStranded ∈ Gw := gwc in_4_1 (i := 12) rfl rfl
theorem w1013 : Cond.code yX2_allStranded cX2_allStranded 3 (some .int) ∈ Gw := gwc in_4_1 (i := 13) rfl rfl
theorem w1014 : Cond.methodLink RX9 328 yX4_allInStores ∈ Gw := gwc in_4_1 (i := 14) rfl rfl
theorem w1015 : Cond.instanceMethod yX4_allInStores ∈ Gw := gwc in_4_1 (i := 15) rfl rfl
theorem w1016 : Cond.selects RX4 yX4_allInStores yX4_allInStores ∈ Gw := gwc in_4_1 (i := 16) rfl rfl
theorem w1017 : Cond.code yX4_allInStores cX4_allInStores 3 (some .int) ∈ Gw := gwc in_4_1 (i := 17) rfl rfl
theorem w1018 : Cond.methodLink RX9 337 yX3_allWaste ∈ Gw := gwc in_4_1 (i := 18) rfl rfl
theorem w1019 : Cond.instanceMethod yX3_allWaste ∈ Gw := gwc in_4_1 (i := 19) rfl rfl
theorem w1020 : Cond.selects RX3 yX3_allWaste yX3_allWaste ∈ Gw := gwc in_4_1 (i := 20) rfl rfl
theorem w1021 : Cond.code yX3_allWaste cX3_allWaste 1 (some .int) ∈ Gw := gwc in_4_1 (i := 21) rfl rfl
theorem w1022 : Cond.classLink RL 115 RX10 ∈ Gw := gwc in_4_1 (i := 22) rfl rfl
theorem w1023 : Cond.instantiable RX10 29 ∈ Gw := gwc in_4_1 (i := 23) rfl rfl
theorem w1024 : Cond.methodLink RL 117 yX10_init ∈ Gw := gwc in_4_1 (i := 24) rfl rfl
theorem w1025 : Cond.instanceMethod yX10_init ∈ Gw := gwc in_4_1 (i := 25) rfl rfl
theorem w1026 : Cond.code yX10_init cX10_init 2 none ∈ Gw := gwc in_4_1 (i := 26) rfl rfl
theorem w1027 : Cond.methodLink RX10 1 objectInit ∈ Gw := gwc in_4_1 (i := 27) rfl rfl
theorem w1028 : Cond.fieldLink RX10 7 RX10 "now" "[I" ∈ Gw := gwc in_4_1 (i := 28) rfl rfl
theorem w1029 : Cond.fieldLink RX10 13 RX10 "kept" "[I" ∈ Gw := gwc in_4_1 (i := 29) rfl rfl
theorem w1030 : Cond.fieldLink RX10 16 RX10 "kind" "[I" ∈ Gw := gwc in_4_1 (i := 30) rfl rfl
theorem w1031 : Cond.fieldLink RX10 19 RX10 "depth" "[I" ∈ Gw := gwc in_4_1 (i := 31) rfl rfl
theorem w1032 : Cond.fieldLink RX10 22 RX10 "going" "[I" ∈ Gw := gwc in_4_1 (i := 32) rfl rfl
theorem w1033 : Cond.fieldLink RX10 91 RX10 "way" "I" ∈ Gw := gwc in_4_1 (i := 33) rfl rfl
theorem w1034 : Cond.fieldLink RX10 94 RX10 "strength" "I" ∈ Gw := gwc in_4_1 (i := 34) rfl rfl
theorem w1035 : Cond.fieldLink RX10 70 RX10 "ships" "I" ∈ Gw := gwc in_4_1 (i := 35) rfl rfl
theorem w1036 : Cond.fieldLink RX10 25 RX10 "shipCell" "[I" ∈ Gw := gwc in_4_1 (i := 36) rfl rfl
theorem w1037 : Cond.fieldLink RX10 28 RX10 "rate" "[I" ∈ Gw := gwc in_4_1 (i := 37) rfl rfl
theorem w1038 : Cond.fieldLink RX10 73 RX10 "means" "I" ∈ Gw := gwc in_4_1 (i := 38) rfl rfl
theorem w1039 : Cond.fieldLink RX10 31 RX10 "sort" "[I" ∈ Gw := gwc in_4_1 (i := 39) rfl rfl
theorem w1040 : Cond.fieldLink RX10 34 RX10 "meanCell" "[I" ∈ Gw := gwc in_4_2 (i := 0) rfl rfl
theorem w1041 : Cond.fieldLink RX10 37 RX10 "border" "[I" ∈ Gw := gwc in_4_2 (i := 1) rfl rfl
theorem w1042 : Cond.fieldLink RX10 40 RX10 "force" "[I" ∈ Gw := gwc in_4_2 (i := 2) rfl rfl
theorem w1043 : Cond.fieldLink RX10 43 RX10 "store" "[I" ∈ Gw := gwc in_4_2 (i := 3) rfl rfl
theorem w1044 : Cond.fieldLink RX10 46 RX10 "taught" "[Z" ∈ Gw := gwc in_4_2 (i := 4) rfl rfl
theorem w1045 : Cond.fieldLink RX10 50 RX10 "last" "[I" ∈ Gw := gwc in_4_2 (i := 5) rfl rfl
theorem w1046 : Cond.fieldLink RX10 159 RX10 "deep" "I" ∈ Gw := gwc in_4_2 (i := 6) rfl rfl
theorem w1047 : Cond.fieldLink RX10 162 RX10 "burnt" "I" ∈ Gw := gwc in_4_2 (i := 7) rfl rfl
theorem w1048 : Cond.fieldLink RX10 53 RX10 "waste" "[I" ∈ Gw := gwc in_4_2 (i := 8) rfl rfl
theorem w1049 : Cond.fieldLink RX10 168 RX10 "delivered" "I" ∈ Gw := gwc in_4_2 (i := 9) rfl rfl
theorem w1050 : Cond.fieldLink RX10 165 RX10 "sites" "I" ∈ Gw := gwc in_4_2 (i := 10) rfl rfl
theorem w1051 : Cond.fieldLink RX10 56 RX10 "room" "[I" ∈ Gw := gwc in_4_2 (i := 11) rfl rfl
theorem w1052 : Cond.fieldLink RX10 172 RX10 "claims" "I" ∈ Gw := gwc in_4_2 (i := 12) rfl rfl
theorem w1053 : Cond.fieldLink RX10 59 RX10 "cents" "[I" ∈ Gw := gwc in_4_2 (i := 13) rfl rfl
theorem w1054 : Cond.fieldLink RX10 176 RX10 "owner" "I" ∈ Gw := gwc in_4_2 (i := 14) rfl rfl
theorem w1055 : Cond.fieldLink RX10 179 RX10 "fund" "I" ∈ Gw := gwc in_4_2 (i := 15) rfl rfl
theorem w1056 : Cond.fieldLink RX10 62 RX10 "thrown" "I" ∈ Gw := gwc in_4_2 (i := 16) rfl rfl
theorem w1116 : Cond.methodLink RL 124 yX10_thrown ∈ Gw := gwc in_4_3 (i := 36) rfl rfl
theorem w1117 : Cond.instanceMethod yX10_thrown ∈ Gw := gwc in_4_3 (i := 37) rfl rfl
theorem w1118 : Cond.selects RX10 yX10_thrown yX10_thrown ∈ Gw := gwc in_4_3 (i := 38) rfl rfl
theorem w1119 : Cond.code yX10_thrown cX10_thrown 1 (some .int) ∈ Gw := gwc in_4_3 (i := 39) rfl rfl
theorem w1120 : Cond.methodLink RL 123 yX10_shore ∈ Gw := gwc in_4_4 (i := 0) rfl rfl
theorem w1121 : Cond.instanceMethod yX10_shore ∈ Gw := gwc in_4_4 (i := 1) rfl rfl
theorem w1122 : Cond.selects RX10 yX10_shore yX10_shore ∈ Gw := gwc in_4_4 (i := 2) rfl rfl
theorem w1123 : Cond.code yX10_shore cX10_shore 5 (some .int) ∈ Gw := gwc in_4_4 (i := 3) rfl rfl
theorem w1124 : Cond.methodLink RX10 76 yX10_isCell ∈ Gw := gwc in_4_4 (i := 4) rfl rfl
theorem w1125 : Cond.static yX10_isCell ∈ Gw := gwc in_4_4 (i := 5) rfl rfl
theorem w1126 : Cond.code yX10_isCell cX10_isCell 1 (some .boolean) ∈ Gw := gwc in_4_4 (i := 6) rfl rfl
theorem w1127 : Cond.methodLink RX10 66 yX10_in ∈ Gw := gwc in_4_4 (i := 7) rfl rfl
theorem w1128 : Cond.static yX10_in ∈ Gw := gwc in_4_4 (i := 8) rfl rfl
theorem w1129 : Cond.code yX10_in cX10_in 3 (some .boolean) ∈ Gw := gwc in_4_4 (i := 9) rfl rfl
theorem w1130 : Cond.methodLink RX10 131 yX10_fails ∈ Gw := gwc in_4_4 (i := 10) rfl rfl
theorem w1132 : Cond.instanceMethod yX10_fails ∈ Gw := gwc in_4_4 (i := 12) rfl rfl
theorem w1133 : Cond.code yX10_fails cX10_fails 3 (some .boolean) ∈ Gw := gwc in_4_4 (i := 13) rfl rfl
theorem w1134 : Cond.methodLink RL 130 yX10_depth ∈ Gw := gwc in_4_4 (i := 14) rfl rfl
theorem w1135 : Cond.instanceMethod yX10_depth ∈ Gw := gwc in_4_4 (i := 15) rfl rfl
theorem w1136 : Cond.selects RX10 yX10_depth yX10_depth ∈ Gw := gwc in_4_4 (i := 16) rfl rfl
theorem w1137 : Cond.code yX10_depth cX10_depth 4 (some .int) ∈ Gw := gwc in_4_4 (i := 17) rfl rfl
theorem w1138 : Cond.methodLink RL 133 yX10_wind ∈ Gw := gwc in_4_4 (i := 18) rfl rfl
theorem w1139 : Cond.instanceMethod yX10_wind ∈ Gw := gwc in_4_4 (i := 19) rfl rfl
theorem w1140 : Cond.selects RX10 yX10_wind yX10_wind ∈ Gw := gwc in_4_4 (i := 20) rfl rfl
theorem w1141 : Cond.code yX10_wind cX10_wind 4 (some .int) ∈ Gw := gwc in_4_4 (i := 21) rfl rfl
theorem w1142 : Cond.methodLink RL 136 yX10_ship ∈ Gw := gwc in_4_4 (i := 22) rfl rfl
theorem w1143 : Cond.instanceMethod yX10_ship ∈ Gw := gwc in_4_4 (i := 23) rfl rfl
theorem w1144 : Cond.selects RX10 yX10_ship yX10_ship ∈ Gw := gwc in_4_4 (i := 24) rfl rfl
theorem w1145 : Cond.code yX10_ship cX10_ship 3 (some .int) ∈ Gw := gwc in_4_4 (i := 25) rfl rfl
theorem w1146 : Cond.constant RX10 135 100000 ∈ Gw := gwc in_4_4 (i := 26) rfl rfl
theorem w1147 : Cond.methodLink RL 139 yX10_hole ∈ Gw := gwc in_4_4 (i := 27) rfl rfl
theorem w1148 : Cond.instanceMethod yX10_hole ∈ Gw := gwc in_4_4 (i := 28) rfl rfl
theorem w1149 : Cond.selects RX10 yX10_hole yX10_hole ∈ Gw := gwc in_4_4 (i := 29) rfl rfl
theorem w1150 : Cond.code yX10_hole cX10_hole 4 (some .int) ∈ Gw := gwc in_4_4 (i := 30) rfl rfl
theorem w1151 : Cond.methodLink RX10 136 yX10_isShip ∈ Gw := gwc in_4_4 (i := 31) rfl rfl
theorem w1153 : Cond.instanceMethod yX10_isShip ∈ Gw := gwc in_4_4 (i := 33) rfl rfl
theorem w1154 : Cond.code yX10_isShip cX10_isShip 2 (some .boolean) ∈ Gw := gwc in_4_4 (i := 34) rfl rfl
theorem w1155 : Cond.methodLink RL 143 yX10_pump ∈ Gw := gwc in_4_4 (i := 35) rfl rfl
theorem w1156 : Cond.instanceMethod yX10_pump ∈ Gw := gwc in_4_4 (i := 36) rfl rfl
theorem w1157 : Cond.selects RX10 yX10_pump yX10_pump ∈ Gw := gwc in_4_4 (i := 37) rfl rfl
theorem w1158 : Cond.code yX10_pump cX10_pump 4 (some .int) ∈ Gw := gwc in_4_4 (i := 38) rfl rfl
theorem w1159 : Cond.methodLink RL 147 yX10_shipHas ∈ Gw := gwc in_4_4 (i := 39) rfl rfl
theorem w1160 : Cond.instanceMethod yX10_shipHas ∈ Gw := gwc in_4_5 (i := 0) rfl rfl
theorem w1161 : Cond.selects RX10 yX10_shipHas yX10_shipHas ∈ Gw := gwc in_4_5 (i := 1) rfl rfl
theorem w1162 : Cond.code yX10_shipHas cX10_shipHas 2 (some .int) ∈ Gw := gwc in_4_5 (i := 2) rfl rfl
theorem w1163 : Cond.methodLink RL 150 yX10_pass ∈ Gw := gwc in_4_5 (i := 3) rfl rfl
theorem w1164 : Cond.instanceMethod yX10_pass ∈ Gw := gwc in_4_5 (i := 4) rfl rfl
theorem w1165 : Cond.selects RX10 yX10_pass yX10_pass ∈ Gw := gwc in_4_5 (i := 5) rfl rfl
theorem w1166 : Cond.code yX10_pass cX10_pass 3 (some .int) ∈ Gw := gwc in_4_5 (i := 6) rfl rfl
theorem w1167 : Cond.methodLink RX10 139 yX10_hour ∈ Gw := gwc in_4_5 (i := 7) rfl rfl
theorem w1169 : Cond.instanceMethod yX10_hour ∈ Gw := gwc in_4_5 (i := 9) rfl rfl
theorem w1170 : Cond.code yX10_hour cX10_hour 4 none ∈ Gw := gwc in_4_5 (i := 10) rfl rfl
theorem w1171 : Cond.methodLink RX10 106 yX10_leak ∈ Gw := gwc in_4_5 (i := 11) rfl rfl
theorem w1173 : Cond.instanceMethod yX10_leak ∈ Gw := gwc in_4_5 (i := 13) rfl rfl
theorem w1174 : Cond.code yX10_leak cX10_leak 4 (some .int) ∈ Gw := gwc in_4_5 (i := 14) rfl rfl
theorem w1175 : Cond.methodLink RX10 84 yX10_tide ∈ Gw := gwc in_4_5 (i := 15) rfl rfl
theorem w1176 : Cond.static yX10_tide ∈ Gw := gwc in_4_5 (i := 16) rfl rfl
theorem w1177 : Cond.code yX10_tide cX10_tide 2 (some .int) ∈ Gw := gwc in_4_5 (i := 17) rfl rfl
theorem w1178 : Cond.methodLink RX10 88 yX10_least ∈ Gw := gwc in_4_5 (i := 18) rfl rfl
theorem w1179 : Cond.static yX10_least ∈ Gw := gwc in_4_5 (i := 19) rfl rfl
theorem w1180 : Cond.code yX10_least cX10_least 2 (some .int) ∈ Gw := gwc in_4_5 (i := 20) rfl rfl
theorem w1181 : Cond.methodLink RX10 109 yX10_weather ∈ Gw := gwc in_4_5 (i := 21) rfl rfl
theorem w1183 : Cond.instanceMethod yX10_weather ∈ Gw := gwc in_4_5 (i := 23) rfl rfl
theorem w1184 : Cond.code yX10_weather cX10_weather 5 none ∈ Gw := gwc in_4_5 (i := 24) rfl rfl
theorem w1185 : Cond.methodLink RX10 113 yX10_look ∈ Gw := gwc in_4_5 (i := 25) rfl rfl
theorem w1187 : Cond.instanceMethod yX10_look ∈ Gw := gwc in_4_5 (i := 27) rfl rfl
theorem w1188 : Cond.code yX10_look cX10_look 7 none ∈ Gw := gwc in_4_5 (i := 28) rfl rfl
theorem w1189 : Cond.methodLink RX10 80 yX10_beside ∈ Gw := gwc in_4_5 (i := 29) rfl rfl
theorem w1190 : Cond.static yX10_beside ∈ Gw := gwc in_4_5 (i := 30) rfl rfl
theorem w1191 : Cond.code yX10_beside cX10_beside 3 (some .int) ∈ Gw := gwc in_4_5 (i := 31) rfl rfl
theorem w1192 : Cond.methodLink RX10 97 yX10_holds ∈ Gw := gwc in_4_5 (i := 32) rfl rfl
theorem w1194 : Cond.instanceMethod yX10_holds ∈ Gw := gwc in_4_5 (i := 34) rfl rfl
theorem w1195 : Cond.code yX10_holds cX10_holds 2 (some .int) ∈ Gw := gwc in_4_5 (i := 35) rfl rfl
theorem w1196 : Cond.methodLink RX10 100 yX10_borderOf ∈ Gw := gwc in_4_5 (i := 36) rfl rfl
theorem w1197 : Cond.static yX10_borderOf ∈ Gw := gwc in_4_5 (i := 37) rfl rfl
theorem w1198 : Cond.code yX10_borderOf cX10_borderOf 3 (some .int) ∈ Gw := gwc in_4_5 (i := 38) rfl rfl
theorem w1199 : Cond.methodLink RX10 103 yX10_boomOn ∈ Gw := gwc in_4_5 (i := 39) rfl rfl
theorem w1201 : Cond.instanceMethod yX10_boomOn ∈ Gw := gwc in_5_0 (i := 1) rfl rfl
theorem w1202 : Cond.code yX10_boomOn cX10_boomOn 3 (some .int) ∈ Gw := gwc in_5_0 (i := 2) rfl rfl
theorem w1203 : Cond.methodLink RX10 116 yX10_drift ∈ Gw := gwc in_5_0 (i := 3) rfl rfl
theorem w1205 : Cond.instanceMethod yX10_drift ∈ Gw := gwc in_5_0 (i := 5) rfl rfl
theorem w1206 : Cond.code yX10_drift cX10_drift 5 none ∈ Gw := gwc in_5_0 (i := 6) rfl rfl
theorem w1207 : Cond.methodLink RX10 119 yX10_lowestWater ∈ Gw := gwc in_5_0 (i := 7) rfl rfl
theorem w1209 : Cond.instanceMethod yX10_lowestWater ∈ Gw := gwc in_5_0 (i := 9) rfl rfl
theorem w1210 : Cond.code yX10_lowestWater cX10_lowestWater 5 (some .int) ∈ Gw := gwc in_5_0 (i := 10) rfl rfl
theorem w1211 : Cond.methodLink RX10 122 yX10_back ∈ Gw := gwc in_5_0 (i := 11) rfl rfl
theorem w1213 : Cond.instanceMethod yX10_back ∈ Gw := gwc in_5_0 (i := 13) rfl rfl
theorem w1214 : Cond.code yX10_back cX10_back 3 (some .int) ∈ Gw := gwc in_5_0 (i := 14) rfl rfl
theorem w1215 : Cond.methodLink RX10 125 yX10_skim ∈ Gw := gwc in_5_0 (i := 15) rfl rfl
theorem w1217 : Cond.instanceMethod yX10_skim ∈ Gw := gwc in_5_0 (i := 17) rfl rfl
theorem w1218 : Cond.code yX10_skim cX10_skim 6 none ∈ Gw := gwc in_5_0 (i := 18) rfl rfl
theorem w1219 : Cond.methodLink RX10 128 yX10_suffer ∈ Gw := gwc in_5_0 (i := 19) rfl rfl
theorem w1221 : Cond.instanceMethod yX10_suffer ∈ Gw := gwc in_5_0 (i := 21) rfl rfl
theorem w1222 : Cond.code yX10_suffer cX10_suffer 4 none ∈ Gw := gwc in_5_0 (i := 22) rfl rfl
theorem w1223 : Cond.methodLink RL 153 yX10_at ∈ Gw := gwc in_5_0 (i := 23) rfl rfl
theorem w1224 : Cond.instanceMethod yX10_at ∈ Gw := gwc in_5_0 (i := 24) rfl rfl
theorem w1225 : Cond.selects RX10 yX10_at yX10_at ∈ Gw := gwc in_5_0 (i := 25) rfl rfl
theorem w1226 : Cond.code yX10_at cX10_at 3 (some .int) ∈ Gw := gwc in_5_0 (i := 26) rfl rfl
theorem w1227 : Cond.methodLink RX10 142 yX10_signatures ∈ Gw := gwc in_5_0 (i := 27) rfl rfl
theorem w1229 : Cond.instanceMethod yX10_signatures ∈ Gw := gwc in_5_0 (i := 29) rfl rfl
theorem w1230 : Cond.code yX10_signatures cX10_signatures 3 (some .int) ∈ Gw := gwc in_5_0 (i := 30) rfl rfl
theorem w1231 : Cond.methodLink RL 156 yX10_boom ∈ Gw := gwc in_5_0 (i := 31) rfl rfl
theorem w1232 : Cond.instanceMethod yX10_boom ∈ Gw := gwc in_5_0 (i := 32) rfl rfl
theorem w1233 : Cond.selects RX10 yX10_boom yX10_boom ∈ Gw := gwc in_5_0 (i := 33) rfl rfl
theorem w1234 : Cond.code yX10_boom cX10_boom 5 (some .int) ∈ Gw := gwc in_5_0 (i := 34) rfl rfl
theorem w1235 : Cond.methodLink RX10 145 yX10_mean ∈ Gw := gwc in_5_0 (i := 35) rfl rfl
theorem w1237 : Cond.instanceMethod yX10_mean ∈ Gw := gwc in_5_0 (i := 37) rfl rfl
theorem w1238 : Cond.code yX10_mean cX10_mean 5 (some .int) ∈ Gw := gwc in_5_0 (i := 38) rfl rfl
theorem w1239 : Cond.methodLink RL 159 yX10_skimmer ∈ Gw := gwc in_5_0 (i := 39) rfl rfl
theorem w1240 : Cond.instanceMethod yX10_skimmer ∈ Gw := gwc in_5_1 (i := 0) rfl rfl
theorem w1241 : Cond.selects RX10 yX10_skimmer yX10_skimmer ∈ Gw := gwc in_5_1 (i := 1) rfl rfl
theorem w1242 : Cond.code yX10_skimmer cX10_skimmer 4 (some .int) ∈ Gw := gwc in_5_1 (i := 2) rfl rfl
theorem w1243 : Cond.methodLink RL 163 yX10_team ∈ Gw := gwc in_5_1 (i := 3) rfl rfl
theorem w1244 : Cond.instanceMethod yX10_team ∈ Gw := gwc in_5_1 (i := 4) rfl rfl
theorem w1245 : Cond.selects RX10 yX10_team yX10_team ∈ Gw := gwc in_5_1 (i := 5) rfl rfl
theorem w1246 : Cond.code yX10_team cX10_team 3 (some .int) ∈ Gw := gwc in_5_1 (i := 6) rfl rfl
theorem w1247 : Cond.methodLink RL 166 yX10_move ∈ Gw := gwc in_5_1 (i := 7) rfl rfl
theorem w1248 : Cond.instanceMethod yX10_move ∈ Gw := gwc in_5_1 (i := 8) rfl rfl
theorem w1249 : Cond.selects RX10 yX10_move yX10_move ∈ Gw := gwc in_5_1 (i := 9) rfl rfl
theorem w1250 : Cond.code yX10_move cX10_move 4 (some .int) ∈ Gw := gwc in_5_1 (i := 10) rfl rfl
theorem w1251 : Cond.methodLink RX10 149 yX10_isMean ∈ Gw := gwc in_5_1 (i := 11) rfl rfl
theorem w1253 : Cond.instanceMethod yX10_isMean ∈ Gw := gwc in_5_1 (i := 13) rfl rfl
theorem w1254 : Cond.code yX10_isMean cX10_isMean 2 (some .boolean) ∈ Gw := gwc in_5_1 (i := 14) rfl rfl
theorem w1255 : Cond.methodLink RL 169 yX10_carry ∈ Gw := gwc in_5_1 (i := 15) rfl rfl
theorem w1256 : Cond.instanceMethod yX10_carry ∈ Gw := gwc in_5_1 (i := 16) rfl rfl
theorem w1257 : Cond.selects RX10 yX10_carry yX10_carry ∈ Gw := gwc in_5_1 (i := 17) rfl rfl
theorem w1258 : Cond.code yX10_carry cX10_carry 3 (some .int) ∈ Gw := gwc in_5_1 (i := 18) rfl rfl
theorem w1259 : Cond.methodLink RL 172 yX10_teach ∈ Gw := gwc in_5_1 (i := 19) rfl rfl
theorem w1260 : Cond.instanceMethod yX10_teach ∈ Gw := gwc in_5_1 (i := 20) rfl rfl
theorem w1261 : Cond.selects RX10 yX10_teach yX10_teach ∈ Gw := gwc in_5_1 (i := 21) rfl rfl
theorem w1262 : Cond.code yX10_teach cX10_teach 3 (some .boolean) ∈ Gw := gwc in_5_1 (i := 22) rfl rfl
theorem w1263 : Cond.methodLink RL 175 yX10_clean ∈ Gw := gwc in_5_1 (i := 23) rfl rfl
theorem w1264 : Cond.instanceMethod yX10_clean ∈ Gw := gwc in_5_1 (i := 24) rfl rfl
theorem w1265 : Cond.selects RX10 yX10_clean yX10_clean ∈ Gw := gwc in_5_1 (i := 25) rfl rfl
theorem w1266 : Cond.code yX10_clean cX10_clean 7 (some .int) ∈ Gw := gwc in_5_1 (i := 26) rfl rfl
theorem w1267 : Cond.methodLink RL 178 yX10_meanIs ∈ Gw := gwc in_5_1 (i := 27) rfl rfl
theorem w1268 : Cond.instanceMethod yX10_meanIs ∈ Gw := gwc in_5_1 (i := 28) rfl rfl
theorem w1269 : Cond.selects RX10 yX10_meanIs yX10_meanIs ∈ Gw := gwc in_5_1 (i := 29) rfl rfl
theorem w1270 : Cond.code yX10_meanIs cX10_meanIs 3 (some .int) ∈ Gw := gwc in_5_1 (i := 30) rfl rfl
theorem w1271 : Cond.methodLink RL 181 yX10_use ∈ Gw := gwc in_5_1 (i := 31) rfl rfl
theorem w1272 : Cond.instanceMethod yX10_use ∈ Gw := gwc in_5_1 (i := 32) rfl rfl
theorem w1273 : Cond.selects RX10 yX10_use yX10_use ∈ Gw := gwc in_5_1 (i := 33) rfl rfl
theorem w1274 : Cond.code yX10_use cX10_use 4 (some .int) ∈ Gw := gwc in_5_1 (i := 34) rfl rfl
theorem w1275 : Cond.methodLink RX10 155 yX10_rules ∈ Gw := gwc in_5_1 (i := 35) rfl rfl
theorem w1277 : Cond.instanceMethod yX10_rules ∈ Gw := gwc in_5_1 (i := 37) rfl rfl
theorem w1278 : Cond.code yX10_rules cX10_rules 8 (some .int) ∈ Gw := gwc in_5_1 (i := 38) rfl rfl
theorem w1279 : Cond.methodLink RX10 152 yX10_isAgainst ∈ Gw := gwc in_5_1 (i := 39) rfl rfl
theorem w1281 : Cond.instanceMethod yX10_isAgainst ∈ Gw := gwc in_5_2 (i := 1) rfl rfl
theorem w1282 : Cond.code yX10_isAgainst cX10_isAgainst 8 (some .boolean) ∈ Gw := gwc in_5_2 (i := 2) rfl rfl
theorem w1283 : Cond.methodLink RL 184 yX10_why ∈ Gw := gwc in_5_2 (i := 3) rfl rfl
theorem w1284 : Cond.instanceMethod yX10_why ∈ Gw := gwc in_5_2 (i := 4) rfl rfl
theorem w1285 : Cond.selects RX10 yX10_why yX10_why ∈ Gw := gwc in_5_2 (i := 5) rfl rfl
theorem w1286 : Cond.code yX10_why cX10_why 4 (some .int) ∈ Gw := gwc in_5_2 (i := 6) rfl rfl
theorem w1287 : Cond.methodLink RL 187 yX10_birds ∈ Gw := gwc in_5_2 (i := 7) rfl rfl
theorem w1288 : Cond.instanceMethod yX10_birds ∈ Gw := gwc in_5_2 (i := 8) rfl rfl
theorem w1289 : Cond.selects RX10 yX10_birds yX10_birds ∈ Gw := gwc in_5_2 (i := 9) rfl rfl
theorem w1290 : Cond.code yX10_birds cX10_birds 3 (some .int) ∈ Gw := gwc in_5_2 (i := 10) rfl rfl
theorem w1291 : Cond.methodLink RL 190 yX10_wash ∈ Gw := gwc in_5_2 (i := 11) rfl rfl
theorem w1292 : Cond.instanceMethod yX10_wash ∈ Gw := gwc in_5_2 (i := 12) rfl rfl
theorem w1293 : Cond.selects RX10 yX10_wash yX10_wash ∈ Gw := gwc in_5_2 (i := 13) rfl rfl
theorem w1294 : Cond.code yX10_wash cX10_wash 4 (some .int) ∈ Gw := gwc in_5_2 (i := 14) rfl rfl
theorem w1295 : Cond.methodLink RL 193 yX10_sign ∈ Gw := gwc in_5_2 (i := 15) rfl rfl
theorem w1296 : Cond.instanceMethod yX10_sign ∈ Gw := gwc in_5_2 (i := 16) rfl rfl
theorem w1297 : Cond.selects RX10 yX10_sign yX10_sign ∈ Gw := gwc in_5_2 (i := 17) rfl rfl
theorem w1298 : Cond.code yX10_sign cX10_sign 4 (some .boolean) ∈ Gw := gwc in_5_2 (i := 18) rfl rfl
theorem w1299 : Cond.methodLink RL 196 yX10_site ∈ Gw := gwc in_5_2 (i := 19) rfl rfl
theorem w1300 : Cond.instanceMethod yX10_site ∈ Gw := gwc in_5_2 (i := 20) rfl rfl
theorem w1301 : Cond.selects RX10 yX10_site yX10_site ∈ Gw := gwc in_5_2 (i := 21) rfl rfl
theorem w1302 : Cond.code yX10_site cX10_site 3 (some .int) ∈ Gw := gwc in_5_2 (i := 22) rfl rfl
theorem w1303 : Cond.methodLink RL 199 yX10_deliver ∈ Gw := gwc in_5_2 (i := 23) rfl rfl
theorem w1304 : Cond.instanceMethod yX10_deliver ∈ Gw := gwc in_5_2 (i := 24) rfl rfl
theorem w1305 : Cond.selects RX10 yX10_deliver yX10_deliver ∈ Gw := gwc in_5_2 (i := 25) rfl rfl
theorem w1306 : Cond.code yX10_deliver cX10_deliver 4 (some .int) ∈ Gw := gwc in_5_2 (i := 26) rfl rfl
theorem w1307 : Cond.methodLink RL 202 yX10_waste ∈ Gw := gwc in_5_2 (i := 27) rfl rfl
theorem w1308 : Cond.instanceMethod yX10_waste ∈ Gw := gwc in_5_2 (i := 28) rfl rfl
theorem w1309 : Cond.selects RX10 yX10_waste yX10_waste ∈ Gw := gwc in_5_2 (i := 29) rfl rfl
theorem w1310 : Cond.code yX10_waste cX10_waste 2 (some .int) ∈ Gw := gwc in_5_2 (i := 30) rfl rfl
theorem w1311 : Cond.methodLink RL 205 yX10_claim ∈ Gw := gwc in_5_2 (i := 31) rfl rfl
theorem w1312 : Cond.instanceMethod yX10_claim ∈ Gw := gwc in_5_2 (i := 32) rfl rfl
theorem w1313 : Cond.selects RX10 yX10_claim yX10_claim ∈ Gw := gwc in_5_2 (i := 33) rfl rfl
theorem w1314 : Cond.code yX10_claim cX10_claim 2 (some .int) ∈ Gw := gwc in_5_2 (i := 34) rfl rfl
theorem w1315 : Cond.constant RX10 171 1000000 ∈ Gw := gwc in_5_2 (i := 35) rfl rfl
theorem w1316 : Cond.methodLink RL 208 yX10_layers ∈ Gw := gwc in_5_2 (i := 36) rfl rfl
theorem w1317 : Cond.instanceMethod yX10_layers ∈ Gw := gwc in_5_2 (i := 37) rfl rfl
theorem w1318 : Cond.selects RX10 yX10_layers yX10_layers ∈ Gw := gwc in_5_2 (i := 38) rfl rfl
theorem w1319 : Cond.code yX10_layers cX10_layers 4 (some .int) ∈ Gw := gwc in_5_2 (i := 39) rfl rfl
theorem w1320 : Cond.constant RX10 175 10000000 ∈ Gw := gwc in_5_3 (i := 0) rfl rfl
theorem w1321 : Cond.methodLink RL 211 yX10_due ∈ Gw := gwc in_5_3 (i := 1) rfl rfl
theorem w1322 : Cond.instanceMethod yX10_due ∈ Gw := gwc in_5_3 (i := 2) rfl rfl
theorem w1323 : Cond.selects RX10 yX10_due yX10_due ∈ Gw := gwc in_5_3 (i := 3) rfl rfl
theorem w1324 : Cond.code yX10_due cX10_due 7 (some .int) ∈ Gw := gwc in_5_3 (i := 4) rfl rfl
theorem w1325 : Cond.methodLink RL 214 yX10_ahead ∈ Gw := gwc in_5_3 (i := 5) rfl rfl
theorem w1326 : Cond.instanceMethod yX10_ahead ∈ Gw := gwc in_5_3 (i := 6) rfl rfl
theorem w1327 : Cond.selects RX10 yX10_ahead yX10_ahead ∈ Gw := gwc in_5_3 (i := 7) rfl rfl
theorem w1328 : Cond.code yX10_ahead cX10_ahead 5 (some .int) ∈ Gw := gwc in_5_3 (i := 8) rfl rfl
theorem w1329 : Cond.methodLink RL 217 yX10_nextAnew ∈ Gw := gwc in_5_3 (i := 9) rfl rfl
theorem w1330 : Cond.instanceMethod yX10_nextAnew ∈ Gw := gwc in_5_3 (i := 10) rfl rfl
theorem w1331 : Cond.selects RX10 yX10_nextAnew yX10_nextAnew ∈ Gw := gwc in_5_3 (i := 11) rfl rfl
theorem w1332 : Cond.code yX10_nextAnew cX10_nextAnew 10 (some .int) ∈ Gw := gwc in_5_3 (i := 12) rfl rfl
theorem w1333 : Cond.methodLink RX10 189 yX10_strands ∈ Gw := gwc in_5_3 (i := 13) rfl rfl
theorem w1335 : Cond.instanceMethod yX10_strands ∈ Gw := gwc in_5_3 (i := 15) rfl rfl
theorem w1336 : Cond.code yX10_strands cX10_strands 3 (some .int) ∈ Gw := gwc in_5_3 (i := 16) rfl rfl
theorem w1337 : Cond.methodLink RX10 186 yX10_goes ∈ Gw := gwc in_5_3 (i := 17) rfl rfl
theorem w1339 : Cond.instanceMethod yX10_goes ∈ Gw := gwc in_5_3 (i := 19) rfl rfl
theorem w1340 : Cond.code yX10_goes cX10_goes 8 (some .int) ∈ Gw := gwc in_5_3 (i := 20) rfl rfl
theorem w1341 : Cond.methodLink RX10 182 yX10_floats ∈ Gw := gwc in_5_3 (i := 21) rfl rfl
theorem w1343 : Cond.instanceMethod yX10_floats ∈ Gw := gwc in_5_3 (i := 23) rfl rfl
theorem w1344 : Cond.code yX10_floats cX10_floats 5 (some .int) ∈ Gw := gwc in_5_3 (i := 24) rfl rfl
theorem w1345 : Cond.methodLink RL 220 yX10_sum ∈ Gw := gwc in_5_3 (i := 25) rfl rfl
theorem w1346 : Cond.instanceMethod yX10_sum ∈ Gw := gwc in_5_3 (i := 26) rfl rfl
theorem w1347 : Cond.selects RX10 yX10_sum yX10_sum ∈ Gw := gwc in_5_3 (i := 27) rfl rfl
theorem w1348 : Cond.code yX10_sum cX10_sum 4 (some .int) ∈ Gw := gwc in_5_3 (i := 28) rfl rfl
theorem w1349 : Cond.methodLink RX10 192 yX10_over ∈ Gw := gwc in_5_3 (i := 29) rfl rfl
theorem w1351 : Cond.instanceMethod yX10_over ∈ Gw := gwc in_5_3 (i := 31) rfl rfl
theorem w1352 : Cond.code yX10_over cX10_over 5 (some .int) ∈ Gw := gwc in_5_3 (i := 32) rfl rfl
theorem w1353 : Cond.arrayClass .long ∈ Gw := gwc in_5_3 (i := 33) rfl rfl
theorem wp0 : Cond.selects "java/lang/Throwable" ⟨"java/lang/Throwable", "fillInStackTrace", "(I)Ljava/lang/Throwable;"⟩ ⟨"java/lang/Throwable", "fillInStackTrace", "(I)Ljava/lang/Throwable;"⟩ ∈ Gw := gw (i := 0) (by decide +kernel) rfl
theorem wp1 : Cond.selects RX9 yX9_needWater yX9_needWater ∈ Gw := gw (i := 1) (by decide +kernel) rfl
theorem wp2 : Cond.selects RX0 yX0_leak yX0_leak ∈ Gw := gw (i := 2) (by decide +kernel) rfl
theorem wp3 : Cond.selects RX0 yX0_weather yX0_weather ∈ Gw := gw (i := 3) (by decide +kernel) rfl
theorem wp4 : Cond.selects RX0 yX0_drift yX0_drift ∈ Gw := gw (i := 4) (by decide +kernel) rfl
theorem wp5 : Cond.selects RX0 yX0_findWhatGoes yX0_findWhatGoes ∈ Gw := gw (i := 5) (by decide +kernel) rfl
theorem wp6 : Cond.selects RX0 yX0_letGo yX0_letGo ∈ Gw := gw (i := 6) (by decide +kernel) rfl
theorem wp7 : Cond.selects RX0 yX0_giveBack yX0_giveBack ∈ Gw := gw (i := 7) (by decide +kernel) rfl
theorem wp8 : Cond.selects RX0 yX0_skim yX0_skim ∈ Gw := gw (i := 8) (by decide +kernel) rfl
theorem wp9 : Cond.selects RX0 yX0_harmShores yX0_harmShores ∈ Gw := gw (i := 9) (by decide +kernel) rfl
theorem wp10 : Cond.selects RX9 yX9_needRoomForMeans yX9_needRoomForMeans ∈ Gw := gw (i := 10) (by decide +kernel) rfl
theorem wp11 : Cond.selects RX9 yX9_needSort yX9_needSort ∈ Gw := gw (i := 11) (by decide +kernel) rfl
theorem wp12 : Cond.selects RX9 yX9_needShore yX9_needShore ∈ Gw := gw (i := 12) (by decide +kernel) rfl
theorem wp13 : Cond.selects RX4 yX4_hasRested yX4_hasRested ∈ Gw := gw (i := 13) (by decide +kernel) rfl
theorem wp14 : Cond.selects RX7 yX7_isAgainst yX7_isAgainst ∈ Gw := gw (i := 14) (by decide +kernel) rfl
theorem wp15 : Cond.selects RX6 yX6_allGet yX6_allGet ∈ Gw := gw (i := 15) (by decide +kernel) rfl
theorem wp16 : Cond.selects RX5 yX5_weigh yX5_weigh ∈ Gw := gw (i := 16) (by decide +kernel) rfl
theorem wp17 : Cond.selects RX5 yX5_leaksInto yX5_leaksInto ∈ Gw := gw (i := 17) (by decide +kernel) rfl
theorem wp18 : Cond.selects RX5 yX5_waterAgainstWind yX5_waterAgainstWind ∈ Gw := gw (i := 18) (by decide +kernel) rfl
theorem wp19 : Cond.selects RX5 yX5_givenBackTo yX5_givenBackTo ∈ Gw := gw (i := 19) (by decide +kernel) rfl
theorem wp20 : Cond.selects RX5 yX5_isHighTide yX5_isHighTide ∈ Gw := gw (i := 20) (by decide +kernel) rfl
theorem wp21 : Cond.selects RX5 yX5_landedOn yX5_landedOn ∈ Gw := gw (i := 21) (by decide +kernel) rfl
theorem wp22 : Cond.selects RX5 yX5_leftBySkimmers yX5_leftBySkimmers ∈ Gw := gw (i := 22) (by decide +kernel) rfl
theorem wp23 : Cond.selects RX10 yX10_fails yX10_fails ∈ Gw := gw (i := 23) (by decide +kernel) rfl
theorem wp24 : Cond.selects RX10 yX10_isShip yX10_isShip ∈ Gw := gw (i := 24) (by decide +kernel) rfl
theorem wp25 : Cond.selects RX10 yX10_hour yX10_hour ∈ Gw := gw (i := 25) (by decide +kernel) rfl
theorem wp26 : Cond.selects RX10 yX10_leak yX10_leak ∈ Gw := gw (i := 26) (by decide +kernel) rfl
theorem wp27 : Cond.selects RX10 yX10_weather yX10_weather ∈ Gw := gw (i := 27) (by decide +kernel) rfl
theorem wp28 : Cond.selects RX10 yX10_look yX10_look ∈ Gw := gw (i := 28) (by decide +kernel) rfl
theorem wp29 : Cond.selects RX10 yX10_holds yX10_holds ∈ Gw := gw (i := 29) (by decide +kernel) rfl
theorem wp30 : Cond.selects RX10 yX10_boomOn yX10_boomOn ∈ Gw := gw (i := 30) (by decide +kernel) rfl
theorem wp31 : Cond.selects RX10 yX10_drift yX10_drift ∈ Gw := gw (i := 31) (by decide +kernel) rfl
theorem wp32 : Cond.selects RX10 yX10_lowestWater yX10_lowestWater ∈ Gw := gw (i := 32) (by decide +kernel) rfl
theorem wp33 : Cond.selects RX10 yX10_back yX10_back ∈ Gw := gw (i := 33) (by decide +kernel) rfl
theorem wp34 : Cond.selects RX10 yX10_skim yX10_skim ∈ Gw := gw (i := 34) (by decide +kernel) rfl
theorem wp35 : Cond.selects RX10 yX10_suffer yX10_suffer ∈ Gw := gw (i := 35) (by decide +kernel) rfl
theorem wp36 : Cond.selects RX10 yX10_signatures yX10_signatures ∈ Gw := gw (i := 36) (by decide +kernel) rfl
theorem wp37 : Cond.selects RX10 yX10_mean yX10_mean ∈ Gw := gw (i := 37) (by decide +kernel) rfl
theorem wp38 : Cond.selects RX10 yX10_isMean yX10_isMean ∈ Gw := gw (i := 38) (by decide +kernel) rfl
theorem wp39 : Cond.selects RX10 yX10_rules yX10_rules ∈ Gw := gw (i := 39) (by decide +kernel) rfl
theorem wp40 : Cond.selects RX10 yX10_isAgainst yX10_isAgainst ∈ Gw := gw (i := 40) (by decide +kernel) rfl
theorem wp41 : Cond.selects RX10 yX10_strands yX10_strands ∈ Gw := gw (i := 41) (by decide +kernel) rfl
theorem wp42 : Cond.selects RX10 yX10_goes yX10_goes ∈ Gw := gw (i := 42) (by decide +kernel) rfl
theorem wp43 : Cond.selects RX10 yX10_floats yX10_floats ∈ Gw := gw (i := 43) (by decide +kernel) rfl
theorem wp44 : Cond.selects RX10 yX10_over yX10_over ∈ Gw := gw (i := 44) (by decide +kernel) rfl
theorem gwX0 : ∀ w ∈ u_ws RX0 TX0 9, w ∈ Gw := gw_r _ [270, 272, 274, 276, 278, 280, 282, 284, 286] (by decide +kernel) (by decide +kernel)
theorem gwX1 : ∀ w ∈ u_ws RX1 TX1 7, w ∈ Gw := gw_r _ [231, 233, 235, 237, 239, 241, 243] (by decide +kernel) (by decide +kernel)
theorem gwX2 : ∀ w ∈ u_ws RX2 TX2 8, w ∈ Gw := gw_r _ [116, 118, 120, 122, 124, 126, 128, 130] (by decide +kernel) (by decide +kernel)
theorem gwX3 : ∀ w ∈ u_ws RX3 TX3 4, w ∈ Gw := gw_r _ [333, 335, 337, 339] (by decide +kernel) (by decide +kernel)
theorem gwX4 : ∀ w ∈ u_ws RX4 TX4 9, w ∈ Gw := gw_r _ [191, 193, 195, 197, 199, 201, 203, 205, 207] (by decide +kernel) (by decide +kernel)
theorem gwX5 : ∀ w ∈ u_ws RX5 TX5 5, w ∈ Gw := gw_r _ [300, 302, 304, 306, 308] (by decide +kernel) (by decide +kernel)
theorem gwX6 : ∀ w ∈ u_ws RX6 TX6 5, w ∈ Gw := gw_r _ [356, 358, 360, 362, 364] (by decide +kernel) (by decide +kernel)
theorem gwX7 : ∀ w ∈ u_ws RX7 TX7 1, w ∈ Gw := gw_r _ [318] (by decide +kernel) (by decide +kernel)
theorem gwX8 : ∀ w ∈ u_ws RX8 TX8 4, w ∈ Gw := gw_r _ [152, 154, 156, 158] (by decide +kernel) (by decide +kernel)
theorem gwX9 : ∀ w ∈ u_ws RX9 TX9 6, w ∈ Gw := gw_r _ [373, 375, 377, 379, 381, 383] (by decide +kernel) (by decide +kernel)
theorem gwX10 : ∀ w ∈ u_ws RX10 TX10 29, w ∈ Gw := gw_r _ [1102, 1104, 1106, 1108, 1110, 1112, 1114, 1116, 1118, 1120, 1122, 1124, 1126, 1128, 1130, 1132, 1134, 1136, 1138, 1140, 1142, 1144, 1146, 1148, 1150, 1152, 1154, 1156, 1158] (by decide +kernel) (by decide +kernel)
end
section
/-! A LAYER OF MY OWN over the kit's rows: heap, written places and local slots are hidden behind lists: the world w (cells), the locals L (by place), the stack st. A method's contract Ct: from the world w with the arguments as, it comes to an outcome o and a world w' with P o w'. -/
abbrev clX : List vw_C := [(RX0, TX0, 9), (RX1, TX1, 7), (RX2, TX2, 8), (RX3, TX3, 4), (RX4, TX4, 9), (RX5, TX5, 5), (RX6, TX6, 5), (RX7, TX7, 1), (RX8, TX8, 4), (RX9, TX9, 6), (RX10, TX10, 29)]
/-- what is fixed for a whole run: classes and slots; the classes of int[], boolean[], long[]; where the static arrays and the Strings lie -/
abbrev Gd : Type := va_G × (ClassId × ClassId × ClassId) × (Nat → Nat)
abbrev tyG (γ : Gd) : List (ClassId × FieldType) := [(γ.2.1.1, .int), (γ.2.1.2.1, .boolean), (γ.2.1.2.2, .long)]
/-- an outcome: an answer, or the number of an exception -/
abbrev Ro : Type := Option Value ⊕ Nat
def xn : Nat → String
  | 1 => "java/lang/IndexOutOfBoundsException"
  | 2 => "java/lang/IllegalArgumentException"
  | _ => "java/lang/IllegalStateException"
def fH : Nat → Value := fun j => .int (if j = 0 then 0 else if j = 1 then 200 else if j = 2 then 500 else 1000)
def fB : Nat → Value := fun j => .int (if j = 0 then 0 else if j = 1 then 5 else if j = 2 then 10 else 0)
def strs : List (Nat × String) := [(342, "there is none with such a number"), (345, "an argument is out of range"), (63, "the HOUR is not 0"), (87, "a SHIP or a SKIMMER is there"), (347, "the CELL is a SHORE"), (119, "there are 4 SHIPS"), (130, "both SHIPS are the same"), (136, "the SHIP has fewer, or the other one no room"), (138, "the HOUR would be above 2000"), (167, "there is a BOOM on that border"), (351, "there are 20 means"), (353, "the mean is of another sort"), (349, "the CELL is WATER"), (205, "the TEAM cannot clean"), (224, "a rule is against it"), (239, "there would be more than 1000 birds"), (244, "the SHORE has too much STRANDED oil"), (246, "the SHORE was signed by them"), (251, "there are 3 SITES"), (259, "there is less waste of that sort, or less room"), (266, "there are 20 CLAIMS")]
/-- words that the tables decide but that aren't 'good' ones -/
def nwL : List Cond := [.fieldLinkNest RX2 50 "Slickboom" "HOLDS" "[I" "Slickboom", .fieldLinkNest RX2 53 "Slickboom" "BACK_PARTS" "[I" "Slickboom", .castable (xn 1) (xn 1), .castable (xn 2) (xn 2), .castable (xn 3) (xn 3), .declares ⟨"java/lang/RuntimeException", "<init>", "()V"⟩, .declares ⟨"java/lang/RuntimeException", "<init>", "(Ljava/lang/String;)V"⟩, .declares ⟨"java/lang/Exception", "<init>", "()V"⟩, .declares ⟨"java/lang/Exception", "<init>", "(Ljava/lang/String;)V"⟩, .declares ⟨"java/lang/Throwable", "<init>", "()V"⟩, .declares ⟨"java/lang/Throwable", "<init>", "(Ljava/lang/String;)V"⟩]
def ncL : List (String × String) := [(xn 2, xn 1), (xn 3, xn 1), (xn 3, xn 2), (xn 1, xn 2), (xn 1, xn 3), (xn 2, xn 3)]
theorem nwL_ot : ∀ w ∈ nwL, w.onTables = true := by decide +kernel
theorem nwL_warm {s U : State} (hW : s.WarmedH U.vm) : ∀ w ∈ nwL, va_Nw w s → va_Nw w U := by
  intro w hw h
  simp only [nwL, List.mem_cons, List.not_mem_nil, or_false] at hw
  rcases hw with rfl | rfl | rfl | rfl | rfl | rfl | rfl | rfl | rfl | rfl | rfl
  · exact va_Nw.warmF hW h
  · exact va_Nw.warmF hW h
  · exact va_Nw.warmC hW h
  · exact va_Nw.warmC hW h
  · exact va_Nw.warmC hW h
  all_goals exact va_Nw.warmD hW h
/-- what lies outside of the worlds and is only read -/
def GL (γ : Gd) (A : Nat → Prop) (U : State) (H : Heap) : Prop :=
  vx_Zq Bundle.tN "UNASSIGNED_STACK" Bundle.steD A U H ∧ vx_Zq Bundle.tN "SUPPRESSED_SENTINEL" Bundle.listD A U H ∧
  va_Z "Slickboom" "HOLDS" "[I" (.ref (γ.2.2 0)) A U H ∧ va_T .int (γ.2.2 0) 4 fH A U H ∧
  va_Z "Slickboom" "BACK_PARTS" "[I" (.ref (γ.2.2 1)) A U H ∧ va_T .int (γ.2.2 1) 4 fB A U H ∧
  (∀ (i : Nat) (q : Nat × String), strs[i]? = some q → vk_R "Slickboom" q.1 q.2 (γ.2.2 (i + 2)) U) ∧
  (∀ w ∈ nwL, va_Nw w U) ∧ (∀ q ∈ ncL, va_Nc q.1 q.2 U)
theorem GL.pass {γ : Gd} {A B : Nat → Prop} {s U : State} {H : Heap} {locs : List Loc} (h : GL γ A s s.heap) (hW : s.WarmedH U.vm) (hS : va_S A s.heap H locs) (hU : U.heap = H) (hAB : ∀ q, B q → A q) : GL γ B U U.heap := by
  obtain ⟨h1, h2, h3, h4, h5, h6, h7, h8, h9⟩ := h
  rw [hU]
  exact ⟨(vx_Zq.moved hW.alike (h1.kept hS.2.1)).narrow hAB, (vx_Zq.moved hW.alike (h2.kept hS.2.1)).narrow hAB, (va_Z.moved hW.alike (h3.kept hS.2.1)).narrow hAB, (va_T.moved hW.alike (h4.kept hS.2.1)).narrow hAB, (va_Z.moved hW.alike (h5.kept hS.2.1)).narrow hAB, (va_T.moved hW.alike (h6.kept hS.2.1)).narrow hAB, fun i q hq => (h7 i q hq).warm hW, fun w hw => nwL_warm hW w hw (h8 w hw), fun q hq => (h9 q hq).moved hW.alike⟩
theorem GL.blind {γ : Gd} {A : Nat → Prop} {U : State} {g : JFrame} {mk : MethodId} {a : Array Value} (h : GL γ A U U.heap) : GL γ A (U.calling g mk a) (U.calling g mk a).heap := by
  have hW : U.WarmedH (U.calling g mk a).vm := State.WarmedH.refl U
  exact GL.pass (locs := []) h hW va_S.rf rfl (fun _ q => q)
/-- locals by their places -/
def lvs : Nat → List (Option Value) → List (Nat × Value)
  | _, [] => []
  | i, none :: t => lvs (i + 1) t
  | i, some v :: t => (i, v) :: lvs (i + 1) t
theorem lvs_mem {L : List (Option Value)} : ∀ {i : Nat} {q : Nat × Value}, q ∈ lvs i L ↔ ∃ k, L[k]? = some (some q.2) ∧ q.1 = i + k := by
  induction L with
  | nil => intro i q; simp [lvs]
  | cons o t ih =>
    intro i q
    cases o with
    | none =>
      simp only [lvs, ih]
      constructor
      · rintro ⟨k, h1, h2⟩
        exact ⟨k + 1, by simpa using h1, by omega⟩
      · rintro ⟨k, h1, h2⟩
        cases k with
        | zero => simp at h1
        | succ k => exact ⟨k, by simpa using h1, by omega⟩
    | some v =>
      simp only [lvs, List.mem_cons, ih]
      constructor
      · rintro (rfl | ⟨k, h1, h2⟩)
        · exact ⟨0, by simp, by simp⟩
        · exact ⟨k + 1, by simpa using h1, by omega⟩
      · rintro ⟨k, h1, h2⟩
        cases k with
        | zero =>
          left
          simp at h1
          obtain ⟨a, b⟩ := q
          simp only at h1 h2
          subst h1
          simp at h2
          rw [h2]
        | succ k => exact Or.inr ⟨k, by simpa using h1, by omega⟩
theorem lvs_at {ls : Array Slot} {n : Nat} {L : List (Option Value)} (h : lv_has ls n (lvs 0 L)) {i : Nat} {v : Value} (hi : L[i]? = some (some v)) : ls[i]? = some (.val v) :=
  h.2.2 (i, v) (lvs_mem.mpr ⟨i, hi, by simp⟩)
theorem lvs_weak {ls : Array Slot} {n : Nat} {l l' : List (Nat × Value)} (h : lv_has ls n l) (hs : ∀ q ∈ l', q ∈ l) : lv_has ls n l' := ⟨h.1, h.2.1, fun q hq => h.2.2 q (hs q hq)⟩
/-- no value of two slots begins just ahead of i -/
def okL (L : List (Option Value)) (i : Nat) : Bool := match i with
  | 0 => true
  | j + 1 => match L[j]? with
    | some (some v) => v.category == 1
    | _ => true
theorem lvs_st1 {L : List (Option Value)} {i : Nat} {v : Value} (hi : i < L.length) (hok : okL L i = true) : ∀ q ∈ lvs 0 (L.set i (some v)), q ∈ (i, v) :: (lvs 0 L).filter (fun q => !(q.1 == i) && !(q.1 + 1 == i && q.2.category == 2)) := by
  intro q hq
  obtain ⟨k, h1, h2⟩ := lvs_mem.mp hq
  rw [Nat.zero_add] at h2
  by_cases hk : i = k
  · subst hk
    rw [List.getElem?_set_self hi] at h1
    obtain ⟨a, b⟩ := q
    simp only at h2
    simp at h1
    rw [h2, ← h1]
    exact List.mem_cons_self
  · rw [List.getElem?_set_ne hk] at h1
    refine List.mem_cons_of_mem _ (List.mem_filter.mpr ⟨lvs_mem.mpr ⟨k, h1, by omega⟩, ?_⟩)
    have a1 : (q.1 == i) = false := by rw [h2]; simp; omega
    rw [a1]
    by_cases hz : q.1 + 1 = i
    · have : i = k + 1 := by omega
      subst this
      have hok' := hok
      simp only [okL, h1] at hok'
      simp at hok'
      simp [hok']
    · simp [hz]
theorem lvs_st2 {L : List (Option Value)} {i : Nat} {v : Value} (hi : i + 1 < L.length) (hok : okL L i = true) : ∀ q ∈ lvs 0 ((L.set i (some v)).set (i + 1) none), q ∈ (i, v) :: (lvs 0 L).filter (fun q => !(q.1 == i) && (!(q.1 == i + 1) && !(q.1 + 1 == i && q.2.category == 2))) := by
  intro q hq
  obtain ⟨k, h1, h2⟩ := lvs_mem.mp hq
  rw [Nat.zero_add] at h2
  by_cases hk1 : i + 1 = k
  · subst hk1
    rw [List.getElem?_set_self (by simpa using hi)] at h1
    simp at h1
  · rw [List.getElem?_set_ne hk1] at h1
    by_cases hk : i = k
    · subst hk
      rw [List.getElem?_set_self (by omega)] at h1
      obtain ⟨a, b⟩ := q
      simp only at h2
      simp at h1
      rw [h2, ← h1]
      exact List.mem_cons_self
    · rw [List.getElem?_set_ne hk] at h1
      refine List.mem_cons_of_mem _ (List.mem_filter.mpr ⟨lvs_mem.mpr ⟨k, h1, by omega⟩, ?_⟩)
      have a1 : (q.1 == i) = false := by rw [h2]; simp; omega
      have a2 : (q.1 == i + 1) = false := by rw [h2]; simp; omega
      rw [a1, a2]
      by_cases hz : q.1 + 1 = i
      · have : i = k + 1 := by omega
        subst this
        have hok' := hok
        simp only [okL, h1] at hok'
        simp at hok'
        simp [hok']
      · simp [hz]
abbrev CX : Type := Program × Env × Room × State × MethodId × Array Value × List Frame × Method × Code
abbrev kp (X : CX) : Program := X.1
abbrev ke (X : CX) : Env := X.2.1
abbrev kR (X : CX) : Room := X.2.2.1
abbrev ks (X : CX) : State := X.2.2.2.1
abbrev km (X : CX) : MethodId := X.2.2.2.2.1
abbrev ka (X : CX) : Array Value := X.2.2.2.2.2.1
abbrev kb (X : CX) : List Frame := X.2.2.2.2.2.2.1
abbrev kt (X : CX) : Method := X.2.2.2.2.2.2.2.1
abbrev kc (X : CX) : Code := X.2.2.2.2.2.2.2.2
/-- a method's own: the world of its start, and what is owed at its end -/
abbrev MX : Type := va_W × (State → Prop)
abbrev Ax (X : CX) (M : MX) : Nat → Prop := va_A M.1 (ks X).heap.size
def V (l : Launch) (γ : Gd) (X : CX) (M : MX) (w : va_W) (L : List (Option Value)) (cs ss pc : Nat) (st : List Value) : Prop :=
  ∀ (H : Heap) (locs : List Loc) (ls : Array Slot), va_P γ.1 clX w H → va_D (Ax X M) w → va_S (Ax X M) (ks X).heap H locs → lv_has ls (kc X).maxLocals (lvs 0 L) →
    W (kp X) l (ke X) (kR X) (ks X) (km X) (ka X) (kb X) (kt X) (kc X) H locs cs ss M.2 (F0 (km X) pc ls st)
def KX (l : Launch) (γ : Gd) (X : CX) (M : MX) (y : MethodName) (cc : ByteArray) (own : String) (nL : Nat) (rm : Room) (ret : Option FieldType) (tb : List ExceptionTableEntry) : Prop :=
  (kp X).tables.exec = Jvm.exec ∧ (kc X).code = cc ∧ (kc X).maxLocals = nL ∧ (ks X).vm.findClass own = some (km X).cls ∧ (∀ w ∈ Gw, w.before (ka X) (ks X) = true) ∧ (kt X).locks = false ∧
  va_K γ.1 clX (tyG γ) (ks X) ∧ GL γ (Ax X M) (ks X) (ks X).heap ∧ l.stackTraces = false ∧ kR X = rm ∧ (kt X).sig.returnType = ret ∧ (kc X).exceptionTable.toList = tb ∧ (kt X).name = y.name
/-! contracts -/
def PcX (γ : Gd) (as : List Value) (w : va_W) (sz : Nat) : Array Value → State → Prop := va_Pc as (fun U => U.heap.size = sz ∧ va_P γ.1 clX w U.heap ∧ va_K γ.1 clX (tyG γ) U ∧ va_D (va_A w sz) w ∧ GL γ (va_A w sz) U U.heap)
def QcX (γ : Gd) (w : va_W) (sz : Nat) (P : Ro → va_W → Prop) : Array Value → State → Outcome → State → Prop := fun _ st oc t => ∃ (v : Option Value) (w' : va_W), oc = .returned v ∧ P (.inl v) w' ∧ va_P γ.1 clX w' t.heap ∧ va_D (va_A w sz) w' ∧ va_F (va_A w sz) st t
def XcX (γ : Gd) (w : va_W) (sz : Nat) (P : Ro → va_W → Prop) : String → State → State → Prop := fun E st t => ∃ (k : Nat) (w' : va_W), E = xn k ∧ P (.inr k) w' ∧ va_P γ.1 clX w' t.heap ∧ va_D (va_A w sz) w' ∧ va_F (va_A w sz) st t
def Ct (l : Launch) (γ : Gd) (y : MethodName) (cw : Cond) (rm : Room) (as : List Value) (w : va_W) (P : Ro → va_W → Prop) (mc ms : Nat) : Prop :=
  ∀ sz : Nat, vx_Met l y (cw :: Gw) rm (PcX γ as w sz) (QcX γ w sz P) (XcX γ w sz P) mc ms (va_A w sz)
/-- what the body owes at its end -/
def HQ (X : CX) (M : MX) (γ : Gd) (P : Ro → va_W → Prop) (mc ms : Nat) : Prop :=
  M.2 = vx_MQ (kb X) (QcX γ M.1 (ks X).heap.size P) (XcX γ M.1 (ks X).heap.size P) (ka X) (ks X) mc ms (Ax X M)
theorem PcX.blind {γ : Gd} {as : List Value} {w : va_W} {sz : Nat} : FrameBlind (PcX γ as w sz) := by
  rintro a U g mk ⟨h1, h2, h3, h4, h5, h6⟩
  exact ⟨h1, h2, h3, va_K.moved (u := U) (U := U.calling g mk a) (Vm.Alike.refl U.vm) h4, h5, h6.blind⟩
theorem Ct_of {l : Launch} {γ : Gd} {y : MethodName} {cc : ByteArray} {nL : Nat} {ret : Option FieldType} {own : String} {rm : Room} {as : List Value} {w : va_W} {P : Ro → va_W → Prop} {mc ms : Nat} {L : List (Option Value)}
    (hl : l.stackTraces = false) (hy : plainName y.cls = true) (hown : y.cls = own) (hn : (lg_sl as).length ≤ nL) (hL : lvs 0 L = lv_args 0 as)
    (body : ∀ (X : CX) (Q : State → Prop), KX l γ X (w, Q) y cc own nL rm ret [] → HQ X (w, Q) γ P mc ms → V l γ X (w, Q) w L 0 0 0 []) : Ct l γ y (Cond.code y cc nL ret) rm as w P mc ms := by
  intro sz
  refine vx_ofW (cc := cc) (maxL := nL) (ret := ret) hy rfl ?_
  intro p e s m args below meth c s₁ B hml ht hv
  obtain ⟨rfl, hsz, hP, hK, hD, hG⟩ := hv
  subst hsz
  have hts := atoms_spec (ws := Cond.code y cc nL ret :: Gw) B.pre
  have hl0 := lv_entry as (n := nL) hn
  rw [lg_entry_eq]
  generalize (lg_sl as ++ List.replicate (nL - (lg_sl as).length) Slot.unset).toArray = ls at hl0 ⊢
  have hl1 : lv_has ls nL (lvs 0 L) := by rw [hL]; exact hl0
  have b := body (p, e, (headSpec (Cond.code y cc nL ret :: Gw) rm).room, s, m, as.toArray, below, meth, c) (vx_MQ below (QcX γ w s.heap.size P) (XcX γ w s.heap.size P) as.toArray s mc ms (va_A w s.heap.size))
    ⟨B.exec, B.bytes, hml, by rw [← hown]; exact findClass_of_methodNamed B.named, fun w hw => hts w (List.mem_cons_of_mem _ hw), B.notSynchronized, hK, hG, hl, rfl, B.returns, List.eq_nil_iff_forall_not_mem.mpr (fun x hx => ht x hx), (name_of_methodNamed B.named B.method).1⟩ rfl
  have b' := b s.heap [] ls hP hD va_S.rf (by rw [show (kc (p, e, (headSpec (Cond.code y cc nL ret :: Gw) rm).room, s, m, as.toArray, below, meth, c)).maxLocals = nL from hml]; exact hl1)
  exact b'
/-- .. of a method with handlers -/
theorem Ct_ofH {l : Launch} {γ : Gd} {y : MethodName} {cc : ByteArray} {nL : Nat} {ret : Option FieldType} {hh : List (Nat × Nat × Nat × Nat)} {own : String} {rm : Room} {as : List Value} {w : va_W} {P : Ro → va_W → Prop} {mc ms : Nat} {L : List (Option Value)}
    (hl : l.stackTraces = false) (hy : plainName y.cls = true) (hown : y.cls = own) (hn : (lg_sl as).length ≤ nL) (hL : lvs 0 L = lv_args 0 as)
    (body : ∀ (X : CX) (Q : State → Prop), KX l γ X (w, Q) y cc own nL rm ret (tableOf hh) → HQ X (w, Q) γ P mc ms → V l γ X (w, Q) w L 0 0 0 []) : Ct l γ y (Cond.codeWith y cc nL ret hh) rm as w P mc ms := by
  intro sz
  refine vx_ofWH (cc := cc) (maxL := nL) (ret := ret) (hh := hh) hy rfl ?_
  intro p e s m args below meth c s₁ B hml hv
  obtain ⟨rfl, hsz, hP, hK, hD, hG⟩ := hv
  subst hsz
  have hts := atoms_spec (ws := Cond.codeWith y cc nL ret hh :: Gw) B.pre
  have hl0 := lv_entry as (n := nL) hn
  rw [lg_entry_eq]
  generalize (lg_sl as ++ List.replicate (nL - (lg_sl as).length) Slot.unset).toArray = ls at hl0 ⊢
  have hl1 : lv_has ls nL (lvs 0 L) := by rw [hL]; exact hl0
  have b := body (p, e, (headSpec (Cond.codeWith y cc nL ret hh :: Gw) rm).room, s, m, as.toArray, below, meth, c) (vx_MQ below (QcX γ w s.heap.size P) (XcX γ w s.heap.size P) as.toArray s mc ms (va_A w s.heap.size))
    ⟨B.exec, B.bytes, hml, by rw [← hown]; exact findClass_of_methodNamed B.named, fun w hw => hts w (List.mem_cons_of_mem _ hw), B.notSynchronized, hK, hG, hl, rfl, B.returns, vx_table (x := y) B (hts _ List.mem_cons_self), (name_of_methodNamed B.named B.method).1⟩ rfl
  have b' := b s.heap [] ls hP hD va_S.rf (by rw [show (kc (p, e, (headSpec (Cond.codeWith y cc nL ret hh :: Gw) rm).room, s, m, as.toArray, below, meth, c)).maxLocals = nL from hml]; exact hl1)
  exact b'
/-! what a spec says at a branch, a check, a call -/
theorem nn_ {α : Type} {z : α} {C : Prop} (h : some z = none) : C := by cases h
def b1 {α β : Type} (x : Option α) (f : α → Option β) : Option β := match x with
  | some a => f a
  | none => none
def b2 {α β κ : Type} (x : Option (α × β)) (f : α → β → Option κ) : Option κ := match x with
  | some (a, b) => f a b
  | none => none
def b3 {α β δ κ : Type} (x : Option (α × β × δ)) (f : α → β → δ → Option κ) : Option κ := match x with
  | some (a, b, d) => f a b d
  | none => none
def bx {α κ : Type} (x : Option (α ⊕ Nat)) (f : α → Option (κ ⊕ Nat)) : Option (κ ⊕ Nat) := match x with
  | some (.inl a) => f a
  | some (.inr k) => some (.inr k)
  | none => none
def bc {α κ : Type} (x : Option (α ⊕ Nat)) (f : α → Option κ) (g : Nat → Option κ) : Option κ := match x with
  | some (.inl a) => f a
  | some (.inr k) => g k
  | none => none
theorem o1 {α β : Type} {x : Option α} {f : α → Option β} {z : β} (h : some z = b1 x f) : ∃ a, x = some a ∧ some z = f a := by
  cases x with
  | none => cases h
  | some a => exact ⟨a, rfl, h⟩
theorem o2 {α β κ : Type} {x : Option (α × β)} {f : α → β → Option κ} {z : κ} (h : some z = b2 x f) : ∃ a b, x = some (a, b) ∧ some z = f a b := by
  cases x with
  | none => cases h
  | some a => obtain ⟨a, b⟩ := a; exact ⟨a, b, rfl, h⟩
theorem o3 {α β δ κ : Type} {x : Option (α × β × δ)} {f : α → β → δ → Option κ} {z : κ} (h : some z = b3 x f) : ∃ a b d, x = some (a, b, d) ∧ some z = f a b d := by
  cases x with
  | none => cases h
  | some a => obtain ⟨a, b, d⟩ := a; exact ⟨a, b, d, rfl, h⟩
theorem ox {α κ : Type} {x : Option (α ⊕ Nat)} {f : α → Option (κ ⊕ Nat)} {z : κ ⊕ Nat} (h : some z = bx x f) : (∃ a, x = some (.inl a) ∧ some z = f a) ∨ (∃ k, x = some (.inr k) ∧ z = .inr k) := by
  cases x with
  | none => cases h
  | some a =>
    cases a with
    | inl a => exact Or.inl ⟨a, rfl, h⟩
    | inr k => exact Or.inr ⟨k, rfl, Option.some.inj h⟩
theorem oc {α κ : Type} {x : Option (α ⊕ Nat)} {f : α → Option κ} {g : Nat → Option κ} {z : κ} (h : some z = bc x f g) : (∃ a, x = some (.inl a) ∧ some z = f a) ∨ (∃ k, x = some (.inr k) ∧ some z = g k) := by
  cases x with
  | none => cases h
  | some a =>
    cases a with
    | inl a => exact Or.inl ⟨a, rfl, h⟩
    | inr k => exact Or.inr ⟨k, rfl, h⟩
end
section
section RWS
variable {l : Launch} {γ : Gd} {X : CX} {M : MX} {w w' : va_W} {L L' : List (Option Value)} {cs ss : Nat} {st : List Value} {y : MethodName} {cc : ByteArray} {own : String} {nL : Nat} {rm : Room} {ret : Option FieldType} {tb : List ExceptionTableEntry}
theorem r_iconst (pc : Nat) (v : Int32) (K : KX l γ X M y cc own nL rm ret tb) {n : Int} (d : decode cc pc = .ok (.iconst n, 1)) (hv : Int32.ofInt n = v) (k : V l γ X M w L cs ss (pc + 1) (.int v :: st)) : V l γ X M w L cs ss (pc) (st) := fun H locs ls hP hD hS hl => lv_iconst K.1 K.2.1 d hv (k H locs ls hP hD hS hl)
theorem r_bipush (pc : Nat) (v : Int32) (K : KX l γ X M y cc own nL rm ret tb) {n : Int} (d : decode cc pc = .ok (.bipush n, 2)) (hv : (Int8.ofInt n).toInt32 = v) (k : V l γ X M w L cs ss (pc + 2) (.int v :: st)) : V l γ X M w L cs ss (pc) (st) := fun H locs ls hP hD hS hl => lv_bipush K.1 K.2.1 d hv (k H locs ls hP hD hS hl)
theorem r_sipush (pc : Nat) (v : Int32) (K : KX l γ X M y cc own nL rm ret tb) {n : Int} (d : decode cc pc = .ok (.sipush n, 3)) (hv : (Int16.ofInt n).toInt32 = v) (k : V l γ X M w L cs ss (pc + 3) (.int v :: st)) : V l γ X M w L cs ss (pc) (st) := fun H locs ls hP hD hS hl => lv_sipush K.1 K.2.1 d hv (k H locs ls hP hD hS hl)
theorem r_lconst (pc : Nat) (v : Int64) (K : KX l γ X M y cc own nL rm ret tb) {n : Fin 2} (d : decode cc pc = .ok (.lconst n, 1)) (hv : Int64.ofNat (n : Nat) = v) (k : V l γ X M w L cs ss (pc + 1) (.long v :: st)) : V l γ X M w L cs ss (pc) (st) := fun H locs ls hP hD hS hl => lv_lconst K.1 K.2.1 d hv (k H locs ls hP hD hS hl)
theorem r_ldc (pc : Nat) (v : Int32) (K : KX l γ X M y cc own nL rm ret tb) {ix : Nat} (d : decode cc pc = .ok (.ldc ix, 2)) (hc : Cond.constant own ix v ∈ Gw) (k : V l γ X M w L cs ss (pc + 2) (.int v :: st)) : V l γ X M w L cs ss (pc) (st) := fun H locs ls hP hD hS hl => lv_ldc K.1 K.2.1 K.2.2.2.1 (K.2.2.2.2.1 _ hc) d (k H locs ls hP hD hS hl)
theorem r_ldcw (pc : Nat) (v : Int32) (K : KX l γ X M y cc own nL rm ret tb) {ix : Nat} (d : decode cc pc = .ok (.ldc_w ix, 3)) (hc : Cond.constant own ix v ∈ Gw) (k : V l γ X M w L cs ss (pc + 3) (.int v :: st)) : V l γ X M w L cs ss (pc) (st) := fun H locs ls hP hD hS hl => lv_ldcw K.1 K.2.1 K.2.2.2.1 (K.2.2.2.2.1 _ hc) d (k H locs ls hP hD hS hl)
theorem r_iload_n (pc i : Nat) (K : KX l γ X M y cc own nL rm ret tb) {q : Fin 4} {x : Int32} (d : decode cc pc = .ok (.iload_n q, 1)) (hi : (q : Nat) = i) (hL : L[i]? = some (some (.int x))) (k : V l γ X M w L cs ss (pc + 1) (.int x :: st)) : V l γ X M w L cs ss (pc) (st) := fun H locs ls hP hD hS hl => lv_iload_n K.1 K.2.1 d hi (lvs_at hl hL) (k H locs ls hP hD hS hl)
theorem r_iload (pc i : Nat) (K : KX l γ X M y cc own nL rm ret tb) {x : Int32} (d : decode cc pc = .ok (.iload i, 2)) (hL : L[i]? = some (some (.int x))) (k : V l γ X M w L cs ss (pc + 2) (.int x :: st)) : V l γ X M w L cs ss (pc) (st) := fun H locs ls hP hD hS hl => lv_iload K.1 K.2.1 d (lvs_at hl hL) (k H locs ls hP hD hS hl)
theorem r_lload_n (pc i : Nat) (K : KX l γ X M y cc own nL rm ret tb) {q : Fin 4} {x : Int64} (d : decode cc pc = .ok (.lload_n q, 1)) (hi : (q : Nat) = i) (hL : L[i]? = some (some (.long x))) (k : V l γ X M w L cs ss (pc + 1) (.long x :: st)) : V l γ X M w L cs ss (pc) (st) := fun H locs ls hP hD hS hl => lv_lload_n K.1 K.2.1 d hi (lvs_at hl hL) (k H locs ls hP hD hS hl)
theorem r_lload (pc i : Nat) (K : KX l γ X M y cc own nL rm ret tb) {x : Int64} (d : decode cc pc = .ok (.lload i, 2)) (hL : L[i]? = some (some (.long x))) (k : V l γ X M w L cs ss (pc + 2) (.long x :: st)) : V l γ X M w L cs ss (pc) (st) := fun H locs ls hP hD hS hl => lv_lload K.1 K.2.1 d (lvs_at hl hL) (k H locs ls hP hD hS hl)
theorem r_aload_n (pc i : Nat) (K : KX l γ X M y cc own nL rm ret tb) {q : Fin 4} {x : Nat} (d : decode cc pc = .ok (.aload_n q, 1)) (hi : (q : Nat) = i) (hL : L[i]? = some (some (.ref x))) (k : V l γ X M w L cs ss (pc + 1) (.ref x :: st)) : V l γ X M w L cs ss (pc) (st) := fun H locs ls hP hD hS hl => lv_aload_n K.1 K.2.1 d hi (lvs_at hl hL) (k H locs ls hP hD hS hl)
theorem r_aload (pc i : Nat) (K : KX l γ X M y cc own nL rm ret tb) {x : Nat} (d : decode cc pc = .ok (.aload i, 2)) (hL : L[i]? = some (some (.ref x))) (k : V l γ X M w L cs ss (pc + 2) (.ref x :: st)) : V l γ X M w L cs ss (pc) (st) := fun H locs ls hP hD hS hl => lv_aload K.1 K.2.1 d (lvs_at hl hL) (k H locs ls hP hD hS hl)
theorem r_istore_n (pc i : Nat) (L' : List (Option Value)) (K : KX l γ X M y cc own nL rm ret tb) {q : Fin 4} {x : Int32} (d : decode cc pc = .ok (.istore_n q, 1)) (hq : (q : Nat) = i) (hL : L.set i (some (.int x)) = L') (hi : (Nat.blt i L.length && okL L i) = true) (hn : i < nL) (k : V l γ X M w L' cs ss (pc + 1) (st)) : V l γ X M w L cs ss (pc) (.int x :: st) := fun H locs ls hP hD hS hl => lv_istore_n K.1 K.2.1 d hq hl (by rw [K.2.2.1]; exact hn) rfl (fun ls' hl' => k H locs ls' hP hD hS (lvs_weak hl' (by subst hL; exact lvs_st1 (Nat.le_of_ble_eq_true (Bool.and_eq_true_iff.mp hi).1) (Bool.and_eq_true_iff.mp hi).2)))
theorem r_istore (pc i : Nat) (L' : List (Option Value)) (K : KX l γ X M y cc own nL rm ret tb) {x : Int32} (d : decode cc pc = .ok (.istore i, 2)) (hL : L.set i (some (.int x)) = L') (hi : (Nat.blt i L.length && okL L i) = true) (hn : i < nL) (k : V l γ X M w L' cs ss (pc + 2) (st)) : V l γ X M w L cs ss (pc) (.int x :: st) := fun H locs ls hP hD hS hl => lv_istore K.1 K.2.1 d  hl (by rw [K.2.2.1]; exact hn) rfl (fun ls' hl' => k H locs ls' hP hD hS (lvs_weak hl' (by subst hL; exact lvs_st1 (Nat.le_of_ble_eq_true (Bool.and_eq_true_iff.mp hi).1) (Bool.and_eq_true_iff.mp hi).2)))
theorem r_astore_n (pc i : Nat) (L' : List (Option Value)) (K : KX l γ X M y cc own nL rm ret tb) {q : Fin 4} {x : Nat} (d : decode cc pc = .ok (.astore_n q, 1)) (hq : (q : Nat) = i) (hL : L.set i (some (.ref x)) = L') (hi : (Nat.blt i L.length && okL L i) = true) (hn : i < nL) (k : V l γ X M w L' cs ss (pc + 1) (st)) : V l γ X M w L cs ss (pc) (.ref x :: st) := fun H locs ls hP hD hS hl => lv_astore_n K.1 K.2.1 d hq hl (by rw [K.2.2.1]; exact hn) rfl (fun ls' hl' => k H locs ls' hP hD hS (lvs_weak hl' (by subst hL; exact lvs_st1 (Nat.le_of_ble_eq_true (Bool.and_eq_true_iff.mp hi).1) (Bool.and_eq_true_iff.mp hi).2)))
theorem r_astore (pc i : Nat) (L' : List (Option Value)) (K : KX l γ X M y cc own nL rm ret tb) {x : Nat} (d : decode cc pc = .ok (.astore i, 2)) (hL : L.set i (some (.ref x)) = L') (hi : (Nat.blt i L.length && okL L i) = true) (hn : i < nL) (k : V l γ X M w L' cs ss (pc + 2) (st)) : V l γ X M w L cs ss (pc) (.ref x :: st) := fun H locs ls hP hD hS hl => lv_astore K.1 K.2.1 d  hl (by rw [K.2.2.1]; exact hn) rfl (fun ls' hl' => k H locs ls' hP hD hS (lvs_weak hl' (by subst hL; exact lvs_st1 (Nat.le_of_ble_eq_true (Bool.and_eq_true_iff.mp hi).1) (Bool.and_eq_true_iff.mp hi).2)))
theorem r_lstore_n (pc i : Nat) (L' : List (Option Value)) (K : KX l γ X M y cc own nL rm ret tb) {q : Fin 4} {x : Int64} (d : decode cc pc = .ok (.lstore_n q, 1)) (hq : (q : Nat) = i) (hL : (L.set i (some (.long x))).set (i + 1) none = L') (hi : (Nat.blt (i + 1) L.length && okL L i) = true) (hn : i + 1 < nL) (k : V l γ X M w L' cs ss (pc + 1) (st)) : V l γ X M w L cs ss (pc) (.long x :: st) := fun H locs ls hP hD hS hl => lv_lstore_n K.1 K.2.1 d hq hl (by rw [K.2.2.1]; exact hn) rfl (fun ls' hl' => k H locs ls' hP hD hS (lvs_weak hl' (by subst hL; exact lvs_st2 (Nat.le_of_ble_eq_true (Bool.and_eq_true_iff.mp hi).1) (Bool.and_eq_true_iff.mp hi).2)))
theorem r_lstore (pc i : Nat) (L' : List (Option Value)) (K : KX l γ X M y cc own nL rm ret tb) {x : Int64} (d : decode cc pc = .ok (.lstore i, 2)) (hL : (L.set i (some (.long x))).set (i + 1) none = L') (hi : (Nat.blt (i + 1) L.length && okL L i) = true) (hn : i + 1 < nL) (k : V l γ X M w L' cs ss (pc + 2) (st)) : V l γ X M w L cs ss (pc) (.long x :: st) := fun H locs ls hP hD hS hl => lv_lstore K.1 K.2.1 d  hl (by rw [K.2.2.1]; exact hn) rfl (fun ls' hl' => k H locs ls' hP hD hS (lvs_weak hl' (by subst hL; exact lvs_st2 (Nat.le_of_ble_eq_true (Bool.and_eq_true_iff.mp hi).1) (Bool.and_eq_true_iff.mp hi).2)))
theorem r_iinc (pc i : Nat) (v : Int32) (L' : List (Option Value)) (K : KX l γ X M y cc own nL rm ret tb) {n : Int} {x : Int32} (d : decode cc pc = .ok (.iinc i n, 3)) (hx : L[i]? = some (some (.int x))) (hv : x + Int32.ofInt n = v) (hL : L.set i (some (.int v)) = L') (hi : (Nat.blt i L.length && okL L i) = true) (hn : i < nL) (k : V l γ X M w L' cs ss (pc + 3) (st)) : V l γ X M w L cs ss (pc) (st) := by
  intro H locs ls hP hD hS hl
  obtain ⟨j, hj⟩ := List.getElem?_of_mem (lvs_mem.mpr ⟨i, hx, by simp⟩ : (i, Value.int x) ∈ lvs 0 L)
  exact lv_iinc K.1 K.2.1 d hl hj hv (by rw [K.2.2.1]; exact hn) rfl (fun ls' hl' => k H locs ls' hP hD hS (lvs_weak hl' (by subst hL; exact lvs_st1 (Nat.le_of_ble_eq_true (Bool.and_eq_true_iff.mp hi).1) (Bool.and_eq_true_iff.mp hi).2)))
theorem r_iadd (pc : Nat) (K : KX l γ X M y cc own nL rm ret tb) {x z : Int32} (d : decode cc pc = .ok (.iadd, 1)) (k : V l γ X M w L cs ss (pc + 1) (.int (x + z) :: st)) : V l γ X M w L cs ss (pc) (.int z :: .int x :: st) := fun H locs ls hP hD hS hl => lv_iadd K.1 K.2.1 d (k H locs ls hP hD hS hl)
theorem r_isub (pc : Nat) (K : KX l γ X M y cc own nL rm ret tb) {x z : Int32} (d : decode cc pc = .ok (.isub, 1)) (k : V l γ X M w L cs ss (pc + 1) (.int (x - z) :: st)) : V l γ X M w L cs ss (pc) (.int z :: .int x :: st) := fun H locs ls hP hD hS hl => lv_isub K.1 K.2.1 d (k H locs ls hP hD hS hl)
theorem r_imul (pc : Nat) (K : KX l γ X M y cc own nL rm ret tb) {x z : Int32} (d : decode cc pc = .ok (.imul, 1)) (k : V l γ X M w L cs ss (pc + 1) (.int (x * z) :: st)) : V l γ X M w L cs ss (pc) (.int z :: .int x :: st) := fun H locs ls hP hD hS hl => lv_imul K.1 K.2.1 d (k H locs ls hP hD hS hl)
theorem r_iand (pc : Nat) (K : KX l γ X M y cc own nL rm ret tb) {x z : Int32} (d : decode cc pc = .ok (.iand, 1)) (k : V l γ X M w L cs ss (pc + 1) (.int (x &&& z) :: st)) : V l γ X M w L cs ss (pc) (.int z :: .int x :: st) := fun H locs ls hP hD hS hl => lv_iand K.1 K.2.1 d (k H locs ls hP hD hS hl)
theorem r_ior (pc : Nat) (K : KX l γ X M y cc own nL rm ret tb) {x z : Int32} (d : decode cc pc = .ok (.ior, 1)) (k : V l γ X M w L cs ss (pc + 1) (.int (x ||| z) :: st)) : V l γ X M w L cs ss (pc) (.int z :: .int x :: st) := fun H locs ls hP hD hS hl => lv_ior K.1 K.2.1 d (k H locs ls hP hD hS hl)
theorem r_ixor (pc : Nat) (K : KX l γ X M y cc own nL rm ret tb) {x z : Int32} (d : decode cc pc = .ok (.ixor, 1)) (k : V l γ X M w L cs ss (pc + 1) (.int (x ^^^ z) :: st)) : V l γ X M w L cs ss (pc) (.int z :: .int x :: st) := fun H locs ls hP hD hS hl => lv_ixor K.1 K.2.1 d (k H locs ls hP hD hS hl)
theorem r_ishl (pc : Nat) (K : KX l γ X M y cc own nL rm ret tb) {x z : Int32} (d : decode cc pc = .ok (.ishl, 1)) (k : V l γ X M w L cs ss (pc + 1) (.int (x <<< (z &&& 31)) :: st)) : V l γ X M w L cs ss (pc) (.int z :: .int x :: st) := fun H locs ls hP hD hS hl => lv_ishl K.1 K.2.1 d (k H locs ls hP hD hS hl)
theorem r_ishr (pc : Nat) (K : KX l γ X M y cc own nL rm ret tb) {x z : Int32} (d : decode cc pc = .ok (.ishr, 1)) (k : V l γ X M w L cs ss (pc + 1) (.int (x >>> (z &&& 31)) :: st)) : V l γ X M w L cs ss (pc) (.int z :: .int x :: st) := fun H locs ls hP hD hS hl => lv_ishr K.1 K.2.1 d (k H locs ls hP hD hS hl)
theorem r_ladd (pc : Nat) (K : KX l γ X M y cc own nL rm ret tb) {x z : Int64} (d : decode cc pc = .ok (.ladd, 1)) (k : V l γ X M w L cs ss (pc + 1) (.long (x + z) :: st)) : V l γ X M w L cs ss (pc) (.long z :: .long x :: st) := fun H locs ls hP hD hS hl => lv_ladd K.1 K.2.1 d (k H locs ls hP hD hS hl)
theorem r_lsub (pc : Nat) (K : KX l γ X M y cc own nL rm ret tb) {x z : Int64} (d : decode cc pc = .ok (.lsub, 1)) (k : V l γ X M w L cs ss (pc + 1) (.long (x - z) :: st)) : V l γ X M w L cs ss (pc) (.long z :: .long x :: st) := fun H locs ls hP hD hS hl => lv_lsub K.1 K.2.1 d (k H locs ls hP hD hS hl)
theorem r_lmul (pc : Nat) (K : KX l γ X M y cc own nL rm ret tb) {x z : Int64} (d : decode cc pc = .ok (.lmul, 1)) (k : V l γ X M w L cs ss (pc + 1) (.long (x * z) :: st)) : V l γ X M w L cs ss (pc) (.long z :: .long x :: st) := fun H locs ls hP hD hS hl => lv_lmul K.1 K.2.1 d (k H locs ls hP hD hS hl)
theorem r_iushr (pc : Nat) (K : KX l γ X M y cc own nL rm ret tb) {x z : Int32} (d : decode cc pc = .ok (.iushr, 1)) (k : V l γ X M w L cs ss (pc + 1) (.int (x.toUInt32 >>> (z.toUInt32 &&& Int32.toUInt32 31)).toInt32 :: st)) : V l γ X M w L cs ss (pc) (.int z :: .int x :: st) := fun H locs ls hP hD hS hl => lv_iushr K.1 K.2.1 d rfl (k H locs ls hP hD hS hl)
theorem r_i2l (pc : Nat) (K : KX l γ X M y cc own nL rm ret tb) {x : Int32} (d : decode cc pc = .ok (.i2l, 1)) (k : V l γ X M w L cs ss (pc + 1) (.long x.toInt64 :: st)) : V l γ X M w L cs ss (pc) (.int x :: st) := fun H locs ls hP hD hS hl => lv_i2l K.1 K.2.1 d rfl (k H locs ls hP hD hS hl)
theorem r_l2i (pc : Nat) (K : KX l γ X M y cc own nL rm ret tb) {x : Int64} (d : decode cc pc = .ok (.l2i, 1)) (k : V l γ X M w L cs ss (pc + 1) (.int x.toInt32 :: st)) : V l γ X M w L cs ss (pc) (.long x :: st) := fun H locs ls hP hD hS hl => lv_l2i K.1 K.2.1 d rfl (k H locs ls hP hD hS hl)
theorem r_lcmp (pc : Nat) (K : KX l γ X M y cc own nL rm ret tb) {x z : Int64} (d : decode cc pc = .ok (.lcmp, 1)) (k : V l γ X M w L cs ss (pc + 1) (.int (lg_cmp x z) :: st)) : V l γ X M w L cs ss (pc) (.long z :: .long x :: st) := fun H locs ls hP hD hS hl => W.lcmp K.1 K.2.1 d (k H locs ls hP hD hS hl)
theorem r_idiv (pc : Nat) (K : KX l γ X M y cc own nL rm ret tb) {x z : Int32} (d : decode cc pc = .ok (.idiv, 1)) (hz : ¬ z = 0) (k : V l γ X M w L cs ss (pc + 1) (.int (x / z) :: st)) : V l γ X M w L cs ss (pc) (.int z :: .int x :: st) := fun H locs ls hP hD hS hl => lv_idiv K.1 K.2.1 d hz (k H locs ls hP hD hS hl)
theorem r_idivR (pc : Nat) (K : KX l γ X M y cc own nL rm ret tb) {x z : Int32} {α : Type} {u : α} {A : Option α} (d : decode cc pc = .ok (.idiv, 1)) (hR : some u = if z = 0 then none else A) (k : some u = A → V l γ X M w L cs ss (pc + 1) (.int (x / z) :: st)) : V l γ X M w L cs ss (pc) (.int z :: .int x :: st) := by
  by_cases hz : z = 0
  · rw [if_pos hz] at hR; cases hR
  · rw [if_neg hz] at hR; exact r_idiv pc K d hz (k hR)
theorem r_irem (pc : Nat) (K : KX l γ X M y cc own nL rm ret tb) {x z : Int32} (d : decode cc pc = .ok (.irem, 1)) (hz : ¬ z = 0) (k : V l γ X M w L cs ss (pc + 1) (.int (x - x / z * z) :: st)) : V l γ X M w L cs ss (pc) (.int z :: .int x :: st) := fun H locs ls hP hD hS hl => lv_irem K.1 K.2.1 d hz (k H locs ls hP hD hS hl)
theorem r_iremR (pc : Nat) (K : KX l γ X M y cc own nL rm ret tb) {x z : Int32} {α : Type} {u : α} {A : Option α} (d : decode cc pc = .ok (.irem, 1)) (hR : some u = if z = 0 then none else A) (k : some u = A → V l γ X M w L cs ss (pc + 1) (.int (x - x / z * z) :: st)) : V l γ X M w L cs ss (pc) (.int z :: .int x :: st) := by
  by_cases hz : z = 0
  · rw [if_pos hz] at hR; cases hR
  · rw [if_neg hz] at hR; exact r_irem pc K d hz (k hR)
theorem r_ldiv (pc : Nat) (K : KX l γ X M y cc own nL rm ret tb) {x z : Int64} (d : decode cc pc = .ok (.ldiv, 1)) (hz : ¬ z = 0) (k : V l γ X M w L cs ss (pc + 1) (.long (x / z) :: st)) : V l γ X M w L cs ss (pc) (.long z :: .long x :: st) := fun H locs ls hP hD hS hl => lv_ldiv K.1 K.2.1 d hz (k H locs ls hP hD hS hl)
theorem r_ldivR (pc : Nat) (K : KX l γ X M y cc own nL rm ret tb) {x z : Int64} {α : Type} {u : α} {A : Option α} (d : decode cc pc = .ok (.ldiv, 1)) (hR : some u = if z = 0 then none else A) (k : some u = A → V l γ X M w L cs ss (pc + 1) (.long (x / z) :: st)) : V l γ X M w L cs ss (pc) (.long z :: .long x :: st) := by
  by_cases hz : z = 0
  · rw [if_pos hz] at hR; cases hR
  · rw [if_neg hz] at hR; exact r_ldiv pc K d hz (k hR)
theorem r_dup (pc : Nat) (K : KX l γ X M y cc own nL rm ret tb) {a : Value} (d : decode cc pc = .ok (.dup, 1)) (ha : a.category = 1) (k : V l γ X M w L cs ss (pc + 1) (a :: a :: st)) : V l γ X M w L cs ss (pc) (a :: st) := fun H locs ls hP hD hS hl => lv_dup K.1 K.2.1 d ha (k H locs ls hP hD hS hl)
theorem r_pop (pc : Nat) (K : KX l γ X M y cc own nL rm ret tb) {a : Value} (d : decode cc pc = .ok (.pop, 1)) (ha : a.category = 1) (k : V l γ X M w L cs ss (pc + 1) (st)) : V l γ X M w L cs ss (pc) (a :: st) := fun H locs ls hP hD hS hl => lv_pop K.1 K.2.1 d ha (k H locs ls hP hD hS hl)
theorem r_dup2 (pc : Nat) (K : KX l γ X M y cc own nL rm ret tb) {a b : Value} (d : decode cc pc = .ok (.dup2, 1)) (ha : a.category = 1) (hb : b.category = 1) (k : V l γ X M w L cs ss (pc + 1) (a :: b :: a :: b :: st)) : V l γ X M w L cs ss (pc) (a :: b :: st) := fun H locs ls hP hD hS hl => lv_dup2_11 K.1 K.2.1 d ha hb (k H locs ls hP hD hS hl)
theorem r_dup_x1 (pc : Nat) (K : KX l γ X M y cc own nL rm ret tb) {a b : Value} (d : decode cc pc = .ok (.dup_x1, 1)) (ha : a.category = 1) (hb : b.category = 1) (k : V l γ X M w L cs ss (pc + 1) (a :: b :: a :: st)) : V l γ X M w L cs ss (pc) (a :: b :: st) := fun H locs ls hP hD hS hl => lv_dup_x1 K.1 K.2.1 d ha hb (k H locs ls hP hD hS hl)
theorem r_goto (pc tgt : Nat) (K : KX l γ X M y cc own nL rm ret tb) {off : Int} (d : decode cc pc = .ok (.goto off, 3)) (ht : (pc : Int) + off = (tgt : Int)) (k : V l γ X M w L cs ss (tgt) (st)) : V l γ X M w L cs ss (pc) (st) := fun H locs ls hP hD hS hl => lv_goto K.1 K.2.1 d ht (k H locs ls hP hD hS hl)
theorem r_if_eq (pc tgt : Nat) (K : KX l γ X M y cc own nL rm ret tb) {x : Int32} {off : Int} {α : Type} {u : α} {A B : Option α} (d : decode cc pc = .ok (.ifCond .eq off, 3)) (ht : (pc : Int) + off = (tgt : Int)) (hR : some u = if x = 0 then A else B) (kt : some u = A → V l γ X M w L cs ss (tgt) (st)) (kf : some u = B → V l γ X M w L cs ss (pc + 3) (st)) : V l γ X M w L cs ss (pc) (.int x :: st) := fun H locs ls hP hD hS hl => lv_if_eq K.1 K.2.1 d ht (fun c => kt (hR.trans (if_pos c)) H locs ls hP hD hS hl) (fun c => kf (hR.trans (if_neg c)) H locs ls hP hD hS hl)
theorem r_if_ne (pc tgt : Nat) (K : KX l γ X M y cc own nL rm ret tb) {x : Int32} {off : Int} {α : Type} {u : α} {A B : Option α} (d : decode cc pc = .ok (.ifCond .ne off, 3)) (ht : (pc : Int) + off = (tgt : Int)) (hR : some u = if x = 0 then A else B) (kt : some u = A → V l γ X M w L cs ss (pc + 3) (st)) (kf : some u = B → V l γ X M w L cs ss (tgt) (st)) : V l γ X M w L cs ss (pc) (.int x :: st) := fun H locs ls hP hD hS hl => lv_if_ne K.1 K.2.1 d ht (fun c => kf (hR.trans (if_neg c)) H locs ls hP hD hS hl) (fun c => kt (hR.trans (if_pos c)) H locs ls hP hD hS hl)
theorem r_if_lt (pc tgt : Nat) (K : KX l γ X M y cc own nL rm ret tb) {x : Int32} {off : Int} {α : Type} {u : α} {A B : Option α} (d : decode cc pc = .ok (.ifCond .lt off, 3)) (ht : (pc : Int) + off = (tgt : Int)) (hR : some u = if x < 0 then A else B) (kt : some u = A → V l γ X M w L cs ss (tgt) (st)) (kf : some u = B → V l γ X M w L cs ss (pc + 3) (st)) : V l γ X M w L cs ss (pc) (.int x :: st) := fun H locs ls hP hD hS hl => lv_if_lt K.1 K.2.1 d ht (fun c => kt (hR.trans (if_pos c)) H locs ls hP hD hS hl) (fun c => kf (hR.trans (if_neg c)) H locs ls hP hD hS hl)
theorem r_if_ge (pc tgt : Nat) (K : KX l γ X M y cc own nL rm ret tb) {x : Int32} {off : Int} {α : Type} {u : α} {A B : Option α} (d : decode cc pc = .ok (.ifCond .ge off, 3)) (ht : (pc : Int) + off = (tgt : Int)) (hR : some u = if 0 ≤ x then A else B) (kt : some u = A → V l γ X M w L cs ss (tgt) (st)) (kf : some u = B → V l γ X M w L cs ss (pc + 3) (st)) : V l γ X M w L cs ss (pc) (.int x :: st) := fun H locs ls hP hD hS hl => lv_if_ge K.1 K.2.1 d ht (fun c => kt (hR.trans (if_pos c)) H locs ls hP hD hS hl) (fun c => kf (hR.trans (if_neg c)) H locs ls hP hD hS hl)
theorem r_if_gt (pc tgt : Nat) (K : KX l γ X M y cc own nL rm ret tb) {x : Int32} {off : Int} {α : Type} {u : α} {A B : Option α} (d : decode cc pc = .ok (.ifCond .gt off, 3)) (ht : (pc : Int) + off = (tgt : Int)) (hR : some u = if 0 < x then A else B) (kt : some u = A → V l γ X M w L cs ss (tgt) (st)) (kf : some u = B → V l γ X M w L cs ss (pc + 3) (st)) : V l γ X M w L cs ss (pc) (.int x :: st) := fun H locs ls hP hD hS hl => lv_if_gt K.1 K.2.1 d ht (fun c => kt (hR.trans (if_pos c)) H locs ls hP hD hS hl) (fun c => kf (hR.trans (if_neg c)) H locs ls hP hD hS hl)
theorem r_if_le (pc tgt : Nat) (K : KX l γ X M y cc own nL rm ret tb) {x : Int32} {off : Int} {α : Type} {u : α} {A B : Option α} (d : decode cc pc = .ok (.ifCond .le off, 3)) (ht : (pc : Int) + off = (tgt : Int)) (hR : some u = if x ≤ 0 then A else B) (kt : some u = A → V l γ X M w L cs ss (tgt) (st)) (kf : some u = B → V l γ X M w L cs ss (pc + 3) (st)) : V l γ X M w L cs ss (pc) (.int x :: st) := fun H locs ls hP hD hS hl => lv_if_le K.1 K.2.1 d ht (fun c => kt (hR.trans (if_pos c)) H locs ls hP hD hS hl) (fun c => kf (hR.trans (if_neg c)) H locs ls hP hD hS hl)
theorem r_ic_eq (pc tgt : Nat) (K : KX l γ X M y cc own nL rm ret tb) {x z : Int32} {off : Int} {α : Type} {u : α} {A B : Option α} (d : decode cc pc = .ok (.if_icmp .eq off, 3)) (ht : (pc : Int) + off = (tgt : Int)) (hR : some u = if x = z then A else B) (kt : some u = A → V l γ X M w L cs ss (tgt) (st)) (kf : some u = B → V l γ X M w L cs ss (pc + 3) (st)) : V l γ X M w L cs ss (pc) (.int z :: .int x :: st) := fun H locs ls hP hD hS hl => lv_icmp_eq K.1 K.2.1 d ht (fun c => kt (hR.trans (if_pos c)) H locs ls hP hD hS hl) (fun c => kf (hR.trans (if_neg c)) H locs ls hP hD hS hl)
theorem r_ic_ne (pc tgt : Nat) (K : KX l γ X M y cc own nL rm ret tb) {x z : Int32} {off : Int} {α : Type} {u : α} {A B : Option α} (d : decode cc pc = .ok (.if_icmp .ne off, 3)) (ht : (pc : Int) + off = (tgt : Int)) (hR : some u = if x = z then A else B) (kt : some u = A → V l γ X M w L cs ss (pc + 3) (st)) (kf : some u = B → V l γ X M w L cs ss (tgt) (st)) : V l γ X M w L cs ss (pc) (.int z :: .int x :: st) := fun H locs ls hP hD hS hl => lv_icmp_ne K.1 K.2.1 d ht (fun c => kf (hR.trans (if_neg c)) H locs ls hP hD hS hl) (fun c => kt (hR.trans (if_pos c)) H locs ls hP hD hS hl)
theorem r_ic_lt (pc tgt : Nat) (K : KX l γ X M y cc own nL rm ret tb) {x z : Int32} {off : Int} {α : Type} {u : α} {A B : Option α} (d : decode cc pc = .ok (.if_icmp .lt off, 3)) (ht : (pc : Int) + off = (tgt : Int)) (hR : some u = if x < z then A else B) (kt : some u = A → V l γ X M w L cs ss (tgt) (st)) (kf : some u = B → V l γ X M w L cs ss (pc + 3) (st)) : V l γ X M w L cs ss (pc) (.int z :: .int x :: st) := fun H locs ls hP hD hS hl => lv_icmp_lt K.1 K.2.1 d ht (fun c => kt (hR.trans (if_pos c)) H locs ls hP hD hS hl) (fun c => kf (hR.trans (if_neg c)) H locs ls hP hD hS hl)
theorem r_ic_ge (pc tgt : Nat) (K : KX l γ X M y cc own nL rm ret tb) {x z : Int32} {off : Int} {α : Type} {u : α} {A B : Option α} (d : decode cc pc = .ok (.if_icmp .ge off, 3)) (ht : (pc : Int) + off = (tgt : Int)) (hR : some u = if z ≤ x then A else B) (kt : some u = A → V l γ X M w L cs ss (tgt) (st)) (kf : some u = B → V l γ X M w L cs ss (pc + 3) (st)) : V l γ X M w L cs ss (pc) (.int z :: .int x :: st) := fun H locs ls hP hD hS hl => lv_icmp_ge K.1 K.2.1 d ht (fun c => kt (hR.trans (if_pos c)) H locs ls hP hD hS hl) (fun c => kf (hR.trans (if_neg c)) H locs ls hP hD hS hl)
theorem r_ic_gt (pc tgt : Nat) (K : KX l γ X M y cc own nL rm ret tb) {x z : Int32} {off : Int} {α : Type} {u : α} {A B : Option α} (d : decode cc pc = .ok (.if_icmp .gt off, 3)) (ht : (pc : Int) + off = (tgt : Int)) (hR : some u = if z < x then A else B) (kt : some u = A → V l γ X M w L cs ss (tgt) (st)) (kf : some u = B → V l γ X M w L cs ss (pc + 3) (st)) : V l γ X M w L cs ss (pc) (.int z :: .int x :: st) := fun H locs ls hP hD hS hl => lv_icmp_gt K.1 K.2.1 d ht (fun c => kt (hR.trans (if_pos c)) H locs ls hP hD hS hl) (fun c => kf (hR.trans (if_neg c)) H locs ls hP hD hS hl)
theorem r_ic_le (pc tgt : Nat) (K : KX l γ X M y cc own nL rm ret tb) {x z : Int32} {off : Int} {α : Type} {u : α} {A B : Option α} (d : decode cc pc = .ok (.if_icmp .le off, 3)) (ht : (pc : Int) + off = (tgt : Int)) (hR : some u = if x ≤ z then A else B) (kt : some u = A → V l γ X M w L cs ss (tgt) (st)) (kf : some u = B → V l γ X M w L cs ss (pc + 3) (st)) : V l γ X M w L cs ss (pc) (.int z :: .int x :: st) := fun H locs ls hP hD hS hl => lv_icmp_le K.1 K.2.1 d ht (fun c => kt (hR.trans (if_pos c)) H locs ls hP hD hS hl) (fun c => kf (hR.trans (if_neg c)) H locs ls hP hD hS hl)
theorem r_case {α : Type} {u : α} {c : Prop} {ci : Decidable c} {A B : Option α} {G : Prop} (hR : some u = if c then A else B) (kt : c → some u = A → G) (kf : ¬ c → some u = B → G) : G := by
  by_cases h : c
  · exact kt h (hR.trans (if_pos h))
  · exact kf h (hR.trans (if_neg h))
theorem r_tswIn (pc tgt : Nat) (K : KX l γ X M y cc own nL rm ret tb) {x v : Int32} {dflt lo hi off : Int} {offs : Array Int} {len : Nat} (hx : x = v) (d : decode cc pc = .ok (.tableswitch dflt lo hi offs, len)) (h1 : ¬ v.toInt < lo) (h2 : ¬ hi < v.toInt) (ho : offs[(v.toInt - lo).toNat]? = some off) (ht : (pc : Int) + off = (tgt : Int)) (k : V l γ X M w L cs ss (tgt) (st)) : V l γ X M w L cs ss (pc) (.int x :: st) := by
  subst hx
  exact fun H locs ls hP hD hS hl => lv_tableIn K.1 K.2.1 d h1 h2 ho ht (k H locs ls hP hD hS hl)
theorem r_tswOut (pc tgt : Nat) (K : KX l γ X M y cc own nL rm ret tb) {x : Int32} {dflt lo hi : Int} {offs : Array Int} {len : Nat} (d : decode cc pc = .ok (.tableswitch dflt lo hi offs, len)) (h : x.toInt < lo ∨ hi < x.toInt) (ht : (pc : Int) + dflt = (tgt : Int)) (k : V l γ X M w L cs ss (tgt) (st)) : V l γ X M w L cs ss (pc) (.int x :: st) := fun H locs ls hP hD hS hl => lv_tableOut K.1 K.2.1 d h ht (k H locs ls hP hD hS hl)
theorem r_lsw (pc tgt : Nat) (K : KX l γ X M y cc own nL rm ret tb) {x : Int32} {dflt off : Int} {ps : Array (Int × Int)} {len : Nat} (d : decode cc pc = .ok (.lookupswitch dflt ps, len)) (hp : (ps.toList.zip (ps.toList.drop 1)).all (fun (a, next) => a.1 < next.1) = true) (ho : Op.lookupswitch.offset ps.toList dflt x.toInt = off) (ht : (pc : Int) + off = (tgt : Int)) (k : V l γ X M w L cs ss (tgt) (st)) : V l γ X M w L cs ss (pc) (.int x :: st) := fun H locs ls hP hD hS hl => lv_lookup K.1 K.2.1 d hp ho ht (k H locs ls hP hD hS hl)
theorem r_getf (pc q0 k0 : Nat) (K : KX l γ X M y cc own nL rm ret tb) {a ci N ix : Nat} {C : String} {T : u_T} {fs : List Value} {v : Value} (d : decode cc pc = .ok (.getfield ix, 3)) (hlk : Cond.fieldLink own ix (T k0).1 (T k0).2.1 (T k0).2.2.1 ∈ Gw) (hin : ∀ w ∈ u_ws C T N, w ∈ Gw) (he : w[q0]? = some (a, .inr (ci, fs))) (hc : clX[ci]? = some (C, T, N)) (hk : k0 < N) (hv : fs[k0]? = some v) (k : V l γ X M w L cs ss (pc + 3) (v :: st)) : V l γ X M w L cs ss (pc) (.ref a :: st) := fun H locs ls hP hD hS hl => va_get K.1 K.2.1 K.2.2.2.2.1 hin K.2.2.2.1 K.2.2.2.2.2.2.1 hP q0 he hc k0 hk (K.2.2.2.2.1 _ hlk) (fun _ h9 => h9) hv d (k H locs ls hP hD hS hl)
theorem r_putf (pc q0 k0 : Nat) (K : KX l γ X M y cc own nL rm ret tb) {a ci N ix : Nat} {C : String} {T : u_T} {tyT : Nat → FieldType} {fs : List Value} {v : Value} {ty : FieldType} (d : decode cc pc = .ok (.putfield ix, 3)) (hlk : Cond.fieldLink own ix (T k0).1 (T k0).2.1 (T k0).2.2.1 ∈ Gw) (hin : ∀ w ∈ u_ws C T N, w ∈ Gw) (hty : ∀ k, k < N → parseFieldDescriptor (T k).2.2.1 = some (tyT k)) (hnm : ∀ a, a < N → ∀ b, b < N → a ≠ b → (T a).2.1 ≠ (T b).2.1) (he : w[q0]? = some (a, .inr (ci, fs))) (hc : clX[ci]? = some (C, T, N)) (hk : k0 < N) (hfin : (T k0).2.2.2 = false) (hd : parseFieldDescriptor (T k0).2.2.1 = some ty) (hnar : narrow ty v = v) (hfit : fits ty v = true) (hlen : k0 < fs.length) (hw : w.set q0 (a, .inr (ci, fs.set k0 v)) = w') (k : V l γ X M w' L cs ss (pc + 3) (st)) : V l γ X M w L cs ss (pc) (v :: .ref a :: st) := fun H locs ls hP hD hS hl => va_put K.1 K.2.1 K.2.2.2.2.1 hin tyT hty hnm K.2.2.2.1 K.2.2.2.2.2.2.1 hP hD hS q0 he hc k0 hk (K.2.2.2.2.1 _ hlk) (fun _ h9 => h9) hfin hd hnar hfit hlen d (fun H1 locs1 hP1 hD1 hS1 => k H1 locs1 ls (hw ▸ hP1) (hw ▸ hD1) hS1 hl)
theorem r_putF (pc q0 k0 : Nat) (K : KX l γ X M y cc own nL rm ret tb) {a ci N ix : Nat} {C : String} {T : u_T} {tyT : Nat → FieldType} {fs : List Value} {v : Value} {ty : FieldType} (d : decode cc pc = .ok (.putfield ix, 3)) (hlk : Cond.fieldLink own ix (T k0).1 (T k0).2.1 (T k0).2.2.1 ∈ Gw) (hin : ∀ w ∈ u_ws C T N, w ∈ Gw) (hty : ∀ k, k < N → parseFieldDescriptor (T k).2.2.1 = some (tyT k)) (hnm : ∀ a, a < N → ∀ b, b < N → a ≠ b → (T a).2.1 ≠ (T b).2.1) (he : w[q0]? = some (a, .inr (ci, fs))) (hc : clX[ci]? = some (C, T, N)) (hk : k0 < N) (hfin : (T k0).2.2.2 = true) (hyn : y.name = "<init>") (hdc : (T k0).1 = own) (hd : parseFieldDescriptor (T k0).2.2.1 = some ty) (hnar : narrow ty v = v) (hfit : fits ty v = true) (hlen : k0 < fs.length) (hw : w.set q0 (a, .inr (ci, fs.set k0 v)) = w') (k : V l γ X M w' L cs ss (pc + 3) (st)) : V l γ X M w L cs ss (pc) (v :: .ref a :: st) := fun H locs ls hP hD hS hl => va_putF K.1 K.2.1 K.2.2.2.2.1 hin tyT hty hnm K.2.2.2.1 K.2.2.2.2.2.2.1 hP hD hS q0 he hc k0 hk (K.2.2.2.2.1 _ hlk) (fun _ h9 => h9) hfin (K.2.2.2.2.2.2.2.2.2.2.2.2.trans hyn) hdc hd hnar hfit hlen d (fun H1 locs1 hP1 hD1 hS1 => k H1 locs1 ls (hw ▸ hP1) (hw ▸ hD1) hS1 hl)
theorem r_iald (pc q0 : Nat) (K : KX l γ X M y cc own nL rm ret tb) {a n : Nat} {f : Nat → Int32} {i : Int32} (d : decode cc pc = .ok (.iaload, 1)) (he : w[q0]? = some (a, .inl (γ.2.1.1, n, .inl f))) (hin : vp_in i n) (k : V l γ X M w L cs ss (pc + 1) (.int (f i.toNatClampNeg) :: st)) : V l γ X M w L cs ss (pc) (.int i :: .ref a :: st) := fun H locs ls hP hD hS hl => va_iald K.1 K.2.1 K.2.2.2.2.2.2.1 hP q0 0 he rfl hin d (k H locs ls hP hD hS hl)
theorem r_ialdR (pc q0 : Nat) (K : KX l γ X M y cc own nL rm ret tb) {a n : Nat} {f : Nat → Int32} {i : Int32} {α : Type} {u : α} {A : Option α} (d : decode cc pc = .ok (.iaload, 1)) (he : w[q0]? = some (a, .inl (γ.2.1.1, n, .inl f))) (hR : some u = if i < 0 ∨ n ≤ i.toNatClampNeg then none else A) (k : some u = A → V l γ X M w L cs ss (pc + 1) (.int (f i.toNatClampNeg) :: st)) : V l γ X M w L cs ss (pc) (.int i :: .ref a :: st) := by
  by_cases hz : i < 0 ∨ n ≤ i.toNatClampNeg
  · rw [if_pos hz] at hR; cases hR
  · rw [if_neg hz] at hR; exact r_iald pc q0 K d he hz (k hR)
theorem r_zald (pc q0 : Nat) (K : KX l γ X M y cc own nL rm ret tb) {a n : Nat} {f : Nat → Int32} {i : Int32} (d : decode cc pc = .ok (.baload, 1)) (he : w[q0]? = some (a, .inl (γ.2.1.2.1, n, .inl f))) (hin : vp_in i n) (k : V l γ X M w L cs ss (pc + 1) (.int (f i.toNatClampNeg) :: st)) : V l γ X M w L cs ss (pc) (.int i :: .ref a :: st) := fun H locs ls hP hD hS hl => va_zald K.1 K.2.1 K.2.2.2.2.2.2.1 hP q0 1 he rfl hin d (k H locs ls hP hD hS hl)
theorem r_zaldR (pc q0 : Nat) (K : KX l γ X M y cc own nL rm ret tb) {a n : Nat} {f : Nat → Int32} {i : Int32} {α : Type} {u : α} {A : Option α} (d : decode cc pc = .ok (.baload, 1)) (he : w[q0]? = some (a, .inl (γ.2.1.2.1, n, .inl f))) (hR : some u = if i < 0 ∨ n ≤ i.toNatClampNeg then none else A) (k : some u = A → V l γ X M w L cs ss (pc + 1) (.int (f i.toNatClampNeg) :: st)) : V l γ X M w L cs ss (pc) (.int i :: .ref a :: st) := by
  by_cases hz : i < 0 ∨ n ≤ i.toNatClampNeg
  · rw [if_pos hz] at hR; cases hR
  · rw [if_neg hz] at hR; exact r_zald pc q0 K d he hz (k hR)
theorem r_lald (pc q0 : Nat) (K : KX l γ X M y cc own nL rm ret tb) {a n : Nat} {f : Nat → Int64} {i : Int32} (d : decode cc pc = .ok (.laload, 1)) (he : w[q0]? = some (a, .inl (γ.2.1.2.2, n, .inr (.inl f)))) (hin : vp_in i n) (k : V l γ X M w L cs ss (pc + 1) (.long (f i.toNatClampNeg) :: st)) : V l γ X M w L cs ss (pc) (.int i :: .ref a :: st) := fun H locs ls hP hD hS hl => va_lald K.1 K.2.1 K.2.2.2.2.2.2.1 hP q0 2 he rfl hin d (k H locs ls hP hD hS hl)
theorem r_laldR (pc q0 : Nat) (K : KX l γ X M y cc own nL rm ret tb) {a n : Nat} {f : Nat → Int64} {i : Int32} {α : Type} {u : α} {A : Option α} (d : decode cc pc = .ok (.laload, 1)) (he : w[q0]? = some (a, .inl (γ.2.1.2.2, n, .inr (.inl f)))) (hR : some u = if i < 0 ∨ n ≤ i.toNatClampNeg then none else A) (k : some u = A → V l γ X M w L cs ss (pc + 1) (.long (f i.toNatClampNeg) :: st)) : V l γ X M w L cs ss (pc) (.int i :: .ref a :: st) := by
  by_cases hz : i < 0 ∨ n ≤ i.toNatClampNeg
  · rw [if_pos hz] at hR; cases hR
  · rw [if_neg hz] at hR; exact r_lald pc q0 K d he hz (k hR)
theorem r_iast (pc q0 : Nat) (K : KX l γ X M y cc own nL rm ret tb) {a n : Nat} {f : Nat → Int32} {i : Int32} {x : Int32} (d : decode cc pc = .ok (.iastore, 1)) (he : w[q0]? = some (a, .inl (γ.2.1.1, n, .inl f))) (hin : vp_in i n) (hw : w.set q0 (a, .inl (γ.2.1.1, n, .inl (upd f i.toNatClampNeg x))) = w') (k : V l γ X M w' L cs ss (pc + 1) (st)) : V l γ X M w L cs ss (pc) (.int x :: .int i :: .ref a :: st) := fun H locs ls hP hD hS hl => va_iast K.1 K.2.1 K.2.2.2.2.2.2.1 hP hD hS q0 0 he rfl hin d (fun H1 locs1 hP1 hD1 hS1 => k H1 locs1 ls (hw ▸ hP1) (hw ▸ hD1) hS1 hl)
theorem r_iastR (pc q0 : Nat) (K : KX l γ X M y cc own nL rm ret tb) {a n : Nat} {f : Nat → Int32} {i : Int32} {x : Int32} {α : Type} {u : α} {A : Option α} (d : decode cc pc = .ok (.iastore, 1)) (he : w[q0]? = some (a, .inl (γ.2.1.1, n, .inl f))) (hw : w.set q0 (a, .inl (γ.2.1.1, n, .inl (upd f i.toNatClampNeg x))) = w') (hR : some u = if i < 0 ∨ n ≤ i.toNatClampNeg then none else A) (k : some u = A → V l γ X M w' L cs ss (pc + 1) (st)) : V l γ X M w L cs ss (pc) (.int x :: .int i :: .ref a :: st) := by
  by_cases hz : i < 0 ∨ n ≤ i.toNatClampNeg
  · rw [if_pos hz] at hR; cases hR
  · rw [if_neg hz] at hR; exact r_iast pc q0 K d he hz hw (k hR)
theorem r_zast (pc q0 : Nat) (K : KX l γ X M y cc own nL rm ret tb) {a n : Nat} {f : Nat → Int32} {i : Int32} {x : Int32} (d : decode cc pc = .ok (.bastore, 1)) (he : w[q0]? = some (a, .inl (γ.2.1.2.1, n, .inl f))) (hin : vp_in i n) (hw : w.set q0 (a, .inl (γ.2.1.2.1, n, .inl (upd f i.toNatClampNeg (vp_nar .boolean x)))) = w') (k : V l γ X M w' L cs ss (pc + 1) (st)) : V l γ X M w L cs ss (pc) (.int x :: .int i :: .ref a :: st) := fun H locs ls hP hD hS hl => va_zast K.1 K.2.1 K.2.2.2.2.2.2.1 hP hD hS q0 1 he rfl hin d (fun H1 locs1 hP1 hD1 hS1 => k H1 locs1 ls (hw ▸ hP1) (hw ▸ hD1) hS1 hl)
theorem r_zastR (pc q0 : Nat) (K : KX l γ X M y cc own nL rm ret tb) {a n : Nat} {f : Nat → Int32} {i : Int32} {x : Int32} {α : Type} {u : α} {A : Option α} (d : decode cc pc = .ok (.bastore, 1)) (he : w[q0]? = some (a, .inl (γ.2.1.2.1, n, .inl f))) (hw : w.set q0 (a, .inl (γ.2.1.2.1, n, .inl (upd f i.toNatClampNeg (vp_nar .boolean x)))) = w') (hR : some u = if i < 0 ∨ n ≤ i.toNatClampNeg then none else A) (k : some u = A → V l γ X M w' L cs ss (pc + 1) (st)) : V l γ X M w L cs ss (pc) (.int x :: .int i :: .ref a :: st) := by
  by_cases hz : i < 0 ∨ n ≤ i.toNatClampNeg
  · rw [if_pos hz] at hR; cases hR
  · rw [if_neg hz] at hR; exact r_zast pc q0 K d he hz hw (k hR)
theorem r_last (pc q0 : Nat) (K : KX l γ X M y cc own nL rm ret tb) {a n : Nat} {f : Nat → Int64} {i : Int32} {x : Int64} (d : decode cc pc = .ok (.lastore, 1)) (he : w[q0]? = some (a, .inl (γ.2.1.2.2, n, .inr (.inl f)))) (hin : vp_in i n) (hw : w.set q0 (a, .inl (γ.2.1.2.2, n, .inr (.inl (vp_updL f i.toNatClampNeg x)))) = w') (k : V l γ X M w' L cs ss (pc + 1) (st)) : V l γ X M w L cs ss (pc) (.long x :: .int i :: .ref a :: st) := fun H locs ls hP hD hS hl => va_last K.1 K.2.1 K.2.2.2.2.2.2.1 hP hD hS q0 2 he rfl hin d (fun H1 locs1 hP1 hD1 hS1 => k H1 locs1 ls (hw ▸ hP1) (hw ▸ hD1) hS1 hl)
theorem r_lastR (pc q0 : Nat) (K : KX l γ X M y cc own nL rm ret tb) {a n : Nat} {f : Nat → Int64} {i : Int32} {x : Int64} {α : Type} {u : α} {A : Option α} (d : decode cc pc = .ok (.lastore, 1)) (he : w[q0]? = some (a, .inl (γ.2.1.2.2, n, .inr (.inl f)))) (hw : w.set q0 (a, .inl (γ.2.1.2.2, n, .inr (.inl (vp_updL f i.toNatClampNeg x)))) = w') (hR : some u = if i < 0 ∨ n ≤ i.toNatClampNeg then none else A) (k : some u = A → V l γ X M w' L cs ss (pc + 1) (st)) : V l γ X M w L cs ss (pc) (.long x :: .int i :: .ref a :: st) := by
  by_cases hz : i < 0 ∨ n ≤ i.toNatClampNeg
  · rw [if_pos hz] at hR; cases hR
  · rw [if_neg hz] at hR; exact r_last pc q0 K d he hz hw (k hR)
theorem r_alen (pc q0 : Nat) (v : Int32) (K : KX l γ X M y cc own nL rm ret tb) {a n : Nat} {f : Nat → Int32} (d : decode cc pc = .ok (.arraylength, 1)) (he : w[q0]? = some (a, .inl (γ.2.1.1, n, .inl f))) (hv : Int32.ofNat n = v) (k : V l γ X M w L cs ss (pc + 1) (.int v :: st)) : V l γ X M w L cs ss (pc) (.ref a :: st) := fun H locs ls hP hD hS hl => va_alen K.1 K.2.1 K.2.2.2.2.2.2.1 hP q0 he (t0 := 0) rfl hv d (k H locs ls hP hD hS hl)
def tabH (i : Int32) : Int32 := if i.toNatClampNeg = 0 then 0 else if i.toNatClampNeg = 1 then 200 else if i.toNatClampNeg = 2 then 500 else 1000
def tabB (i : Int32) : Int32 := if i.toNatClampNeg = 0 then 0 else if i.toNatClampNeg = 1 then 5 else if i.toNatClampNeg = 2 then 10 else 0
theorem r_gets0 (pc : Nat) (K : KX l γ X M y cc RX2 nL rm ret tb) (d : decode cc pc = .ok (.getstatic 50, 3)) (k : V l γ X M w L cs ss (pc + 3) (.ref (γ.2.2 0) :: st)) : V l γ X M w L cs ss (pc) (st) := fun H locs ls hP hD hS hl => va_getsN K.1 K.2.1 K.2.2.2.2.2.2.2.1.2.2.1 hS K.2.2.2.1 (va_Nw.use rfl (K.2.2.2.2.2.2.2.1.2.2.2.2.2.2.2.1 _ (List.mem_of_getElem? (i := 0) rfl))) (fun _ h9 => h9) d (k H locs ls hP hD hS hl)
theorem r_tab0R (pc : Nat) (K : KX l γ X M y cc own nL rm ret tb) {i : Int32} {α : Type} {u : α} {A : Option α} (d : decode cc pc = .ok (.iaload, 1)) (hR : some u = if i < 0 ∨ 4 ≤ i.toNatClampNeg then none else A) (k : some u = A → V l γ X M w L cs ss (pc + 1) (.int (tabH i) :: st)) : V l γ X M w L cs ss (pc) (.int i :: .ref (γ.2.2 0) :: st) := by
  by_cases hz : i < 0 ∨ 4 ≤ i.toNatClampNeg
  · rw [if_pos hz] at hR; cases hR
  · rw [if_neg hz] at hR; exact fun H locs ls hP hD hS hl => va_ti (v := .int (tabH i)) K.1 K.2.1 K.2.2.2.2.2.2.2.1.2.2.2.1 hS hz rfl d (k hR H locs ls hP hD hS hl)
theorem r_gets1 (pc : Nat) (K : KX l γ X M y cc RX2 nL rm ret tb) (d : decode cc pc = .ok (.getstatic 53, 3)) (k : V l γ X M w L cs ss (pc + 3) (.ref (γ.2.2 1) :: st)) : V l γ X M w L cs ss (pc) (st) := fun H locs ls hP hD hS hl => va_getsN K.1 K.2.1 K.2.2.2.2.2.2.2.1.2.2.2.2.1 hS K.2.2.2.1 (va_Nw.use rfl (K.2.2.2.2.2.2.2.1.2.2.2.2.2.2.2.1 _ (List.mem_of_getElem? (i := 1) rfl))) (fun _ h9 => h9) d (k H locs ls hP hD hS hl)
theorem r_tab1R (pc : Nat) (K : KX l γ X M y cc own nL rm ret tb) {i : Int32} {α : Type} {u : α} {A : Option α} (d : decode cc pc = .ok (.iaload, 1)) (hR : some u = if i < 0 ∨ 4 ≤ i.toNatClampNeg then none else A) (k : some u = A → V l γ X M w L cs ss (pc + 1) (.int (tabB i) :: st)) : V l γ X M w L cs ss (pc) (.int i :: .ref (γ.2.2 1) :: st) := by
  by_cases hz : i < 0 ∨ 4 ≤ i.toNatClampNeg
  · rw [if_pos hz] at hR; cases hR
  · rw [if_neg hz] at hR; exact fun H locs ls hP hD hS hl => va_ti (v := .int (tabB i)) K.1 K.2.1 K.2.2.2.2.2.2.2.1.2.2.2.2.2.1 hS hz rfl d (k hR H locs ls hP hD hS hl)
theorem va_P.perm {D : va_G} {cl : List vw_C} {w w' : va_W} {H : Heap} (h : va_P D cl w H) (p : w.Perm w') : va_P D cl w' H := by
  intro k q hk
  obtain ⟨i, hi⟩ := List.getElem?_of_mem (p.mem_iff.mpr (List.mem_of_getElem? hk))
  exact h i q hi
theorem va_D.nd {A : Nat → Prop} {w : va_W} : va_D A w ↔ (w.map Prod.fst).Pairwise (· ≠ ·) ∧ ∀ q ∈ w, A q.1 := by
  constructor
  · rintro ⟨h1, h2⟩
    refine ⟨List.pairwise_iff_getElem.mpr (fun i j hi hj hij => ?_), fun q hq => ?_⟩
    · intro e
      have li : i < w.length := by simpa using hi
      have lj : j < w.length := by simpa using hj
      have e2 : w[i].1 = w[j].1 := by simpa using e
      have := h1 i j _ _ (List.getElem?_eq_getElem li) (List.getElem?_eq_getElem lj) e2
      omega
    · obtain ⟨i, hi⟩ := List.getElem?_of_mem hq
      exact h2 i q hi
  · rintro ⟨h1, h2⟩
    have h3 := List.pairwise_iff_getElem.mp h1
    refine ⟨fun i j p q hi hj e => ?_, fun k q hk => h2 q (List.mem_of_getElem? hk)⟩
    obtain ⟨li, ei⟩ := List.getElem?_eq_some_iff.mp hi
    obtain ⟨lj, ej⟩ := List.getElem?_eq_some_iff.mp hj
    have e2 : w[i].1 = w[j].1 := by rw [ei, ej]; exact e
    rcases Nat.lt_trichotomy i j with h | h | h
    · exact (h3 i j (by simpa using li) (by simpa using lj) h (by simp only [List.getElem_map]; exact e2)).elim
    · exact h
    · exact (h3 j i (by simpa using lj) (by simpa using li) h (by simp only [List.getElem_map]; exact e2.symm)).elim
theorem va_D.perm {A : Nat → Prop} {w w' : va_W} (h : va_D A w) (p : w.Perm w') : va_D A w' := by
  rw [va_D.nd] at h ⊢
  exact ⟨((p.map Prod.fst).pairwise_iff (fun h => Ne.symm h)).mp h.1, fun q hq => h.2 q (p.mem_iff.mpr hq)⟩
theorem r_perm (w' : va_W) (p : w.Perm w') (pc : Nat) (k : V l γ X M w' L cs ss (pc) (st)) : V l γ X M w L cs ss (pc) (st) := fun H locs ls hP hD hS hl => k H locs ls (hP.perm p) (hD.perm p) hS hl
end RWS
end
section
section VXIA
variable {p : Program} {l : Launch} {e : Env} {R : Room} {s : State} {m : MethodId} {args : Array Value} {below : List Frame} {meth : Method} {c : Code} {T : State} {locs : List Loc} {cells slots : Nat}
theorem vx_callI (X : Stand p l e R s m args below meth c T locs cells slots) (hexec : p.tables.exec = Jvm.exec) {own : String} {index : Nat} {y : MethodName} {bytes : ByteArray} {maxL : Nat}
    (hown : s.vm.findClass own = some m.cls) (hy1 : y.name = "<init>") (hlink : (Cond.methodLink own index y).before args s = true) (hinst : (Cond.instanceMethod y).before args s = true)
    (hcode : (Cond.code y bytes maxL none).before args s = true) (hy : y.cls ≠ "java/lang/invoke/MethodHandle" ∧ y.cls ≠ "java/lang/invoke/VarHandle")
    {W9 : Nat} {Pre : Pt → Array Value → Prop} {Post : Pt → Array Value → Option Value → Pt → Prop} {PostX : Pt → Array Value → Addr → Pt → Prop} (hK : vx_Back l R p e below s args y 3 W9 Pre Post PostX)
    {g : JFrame} (hg : g.method = m) (hsize : g.locals.size = c.maxLocals) {a : Addr} {argsL rest : List Value} (hlen : ∀ sig, parseMethodDescriptor y.desc = some sig → argsL.length = sig.parameters.length)
    (hstack : g.stack = argsL.reverse ++ .ref a :: rest) (hW : 2 * g.monitorRoom + (rest.map fun v => v.category).sum ≤ W9) (hdg : decode c.code g.pc = .ok (.invokespecial index, 3))
    (hpre : ∀ vm₁, s.WarmedH vm₁ → Pre ⟨T.setVm vm₁, locs, cells, slots⟩ (Value.ref a :: argsL).toArray) :
    (∃ (v : Option Value) (vm₁ : Vm) (B : Pt), s.WarmedH vm₁ ∧ Stand p l e R s m args below meth c B.U B.locs B.cells B.slots ∧ Post ⟨T.setVm vm₁, locs, cells, slots⟩ (Value.ref a :: argsL).toArray v B ∧
      ∀ target, Steps p.tables e below (B.U.setTop { g with pc := g.pc + 3, stack := v.toList ++ rest }) target → Steps p.tables e below (T.setTop g) target) ∨
    (∃ (q : Addr) (vm₁ : Vm) (B : Pt), s.WarmedH vm₁ ∧ Stand p l e R s m args below meth c B.U B.locs B.cells B.slots ∧ PostX ⟨T.setVm vm₁, locs, cells, slots⟩ (Value.ref a :: argsL).toArray q B ∧
      Steps p.tables e below (T.setTop g) ((B.U.setTop { g with stack := rest }).pushFrame (.throwing q))) := by
  subst hg
  have hpl : e.platform.magicAccessors = ({} : Platform).magicAccessors := by rw [X.admits.platform]
  obtain ⟨mk, methM, cM, kP, vm₁, hnamed, hmethM, hcodeM, -, hlocalsM, -, hkP, -, hW₁, hstep₁⟩ := Steps.initColdArgs (e := e) X.here hexec X.warmed hpl hown hy1 hy hlink hinst hcode (f := g) rfl hlen hstack hdg
  have X₁ := X.noted hW₁
  rcases hK g.method meth c ⟨T.setVm vm₁, locs, cells, slots⟩ { g with stack := rest } (.invokespecial index) mk (Value.ref a :: argsL).toArray X₁ rfl hsize hdg hW (X₁.named hnamed) (hpre vm₁ X₁.warmed) with ⟨v, B, X', hpost, hsteps⟩ | ⟨q, B, X', hpost, hsteps⟩
  · exact Or.inl ⟨v, vm₁, B, X₁.warmed, X', hpost, fun target h => hstep₁ _ fun acts => by rw [doInvoke_state]; exact hsteps.trans h⟩
  · exact Or.inr ⟨q, vm₁, B, X₁.warmed, X', hpost, hstep₁ _ fun acts => by rw [doInvoke_state]; exact hsteps⟩
end VXIA
section VXIB
variable {p : Program} {l : Launch} {e : Env} {R : Room} {s : State} {m : MethodId} {args : Array Value} {below : List Frame} {meth : Method} {c : Code} {H : Heap} {locs : List Loc} {cells slots : Nat}
variable {y : MethodName} {bytes cc : ByteArray} {maxL nL mc ms n index : Nat} {ret : Option FieldType} {ws : List Cond} {rm : Room} {Pc : Array Value → State → Prop} {Qc : Array Value → State → Outcome → State → Prop} {XC : String → State → State → Prop} {free : Addr → Prop} {Ts : List Cond} {own C : String} {b : Addr} {As rest : List Value} {g : JFrame}
theorem vx_runI (S : CallFix p m c cc nL s args Ts own) (hM : vx_Met l y ws rm Pc Qc XC mc ms free) (cw : CallB R s args own index y bytes maxL none ws rm mc ms n ∧ y.name = "<init>" ∧ (Cond.instanceMethod y).before args s = true) (hp : PreS s H Pc (.ref b :: As))
    (hg : g.method = m) (hn : As.length = n) (hsize : g.locals.size = nL) (hstack : g.stack = As.reverse ++ .ref b :: rest) (hW : 2 * g.monitorRoom + (rest.map fun v => v.category).sum ≤ 8) (hdg : decode cc g.pc = .ok (.invokespecial index, 3)) (hf : cells + mc ≤ R.cells ∧ slots + ms ≤ R.slots) :
    vx_Run p l e R s m args below meth c H locs cells slots mc ms g rest (Qc (Value.ref b :: As).toArray) XC free := by
  have hK : vx_Back l R p e below s args y 3 8 (PreOf R mc ms Pc) (PostOf Qc mc ms free) (vx_Post XC mc ms free) := vx_callBack cw.1 hM hp.1
  obtain ⟨⟨-, -, -, -, -, -, hcode, -, hy, hlen, hl⟩, hy1, hin⟩ := cw
  obtain ⟨hx, hb, hml, ho, -⟩ := S
  have hPc := hp.2
  intro T hT X
  rcases vx_callI X hx (bytes := bytes) (maxL := maxL) ho hy1 hl hin hcode hy hK hg (hsize.trans hml.symm) (a := b) (argsL := As) (rest := rest) (fun sig h => hn.trans (hlen sig h)) hstack hW (by rw [hb]; exact hdg)
    (fun vm₁ hW₁ => ⟨hf.1, hf.2, hPc (T.setVm vm₁) hT hW₁⟩) with ⟨v, vm₁, ⟨U', l2, c2, s2⟩, hW₁, X', ⟨g', mk, t, L, e1, e2, hq, h1, hL, h2, h3⟩, st⟩ | ⟨q, vm₁, ⟨U', l2, c2, s2⟩, hW₁, X', ⟨g', mk, t, L, E, ce, e1, e2, hq, hce, hcv, hcl, h1, hL, h2, h3⟩, st⟩
  · dsimp only [Pt.U, Pt.locs, Pt.cells, Pt.slots] at X' e1 e2 h1 h2 h3 st
    subst h1; subst h2; subst h3
    exact Or.inl ⟨v, (T.setVm vm₁).calling g' mk (Value.ref b :: As).toArray, t, U', L, hT, X', hL, e1, e2, hq, st⟩
  · dsimp only [Pt.U, Pt.locs, Pt.cells, Pt.slots] at X' e1 e2 h1 h2 h3 st hcl
    subst h1; subst h2; subst h3
    exact Or.inr ⟨q, (T.setVm vm₁).calling g' mk (Value.ref b :: As).toArray, t, U', L, E, ce, hT, X', hL, e1, e2, hq, hce, hcv, vx_cls hW₁ hcl, st⟩
end VXIB
end
section
section CLS
variable {l : Launch} {γ : Gd} {X : CX} {M : MX} {w w' : va_W} {L L' : List (Option Value)} {cs ss : Nat} {st rest : List Value} {y : MethodName} {cc : ByteArray} {own : String} {nL : Nat} {rm : Room} {ret : Option FieldType} {tb : List ExceptionTableEntry}
/-! returns -/
theorem HQ.end_ {P : Ro → va_W → Prop} {mc ms : Nat} {v : Option Value} (h : HQ X M γ P mc ms) (hp : P (.inl v) w) {H : Heap} {locs : List Loc} (hP : va_P γ.1 clX w H) (hD : va_D (Ax X M) w) (hS : va_S (Ax X M) (ks X).heap H locs) :
    ∀ t : State, t.heap = H → (ks X).WarmedH t.vm → QcX γ M.1 (ks X).heap.size P (ka X) (ks X) (.returned v) t := fun t ht hW => ⟨v, w, rfl, hp, by rw [ht]; exact hP, hD, hS.F ht⟩
theorem r_iret (pc : Nat) (K : KX l γ X M y cc own nL rm (some .int) tb) {P : Ro → va_W → Prop} {mc ms : Nat} {x : Int32} (hQ : HQ X M γ P mc ms) (d : decode cc pc = .ok (.ireturn, 1)) (hc : cs ≤ mc) (hs : ss ≤ ms) (hp : P (.inl (some (.int x))) w) : V l γ X M w L cs ss pc [.int x] := by
  intro H locs ls hP hD hS hl
  rw [show M.2 = _ from hQ]
  exact vx_ret (W.widen hc hs (W.iret (v := x) K.1 K.2.1 K.2.2.2.2.2.2.2.2.2.2.1 (hQ.end_ hp hP hD hS) hS.2.2 d K.2.2.2.2.2.1))
theorem r_zret (pc : Nat) (K : KX l γ X M y cc own nL rm (some .boolean) tb) {P : Ro → va_W → Prop} {mc ms : Nat} {x : Int32} (hQ : HQ X M γ P mc ms) (d : decode cc pc = .ok (.ireturn, 1)) (hn : narrow .boolean (.int x) = .int x) (hc : cs ≤ mc) (hs : ss ≤ ms) (hp : P (.inl (some (.int x))) w) : V l γ X M w L cs ss pc [.int x] := by
  intro H locs ls hP hD hS hl
  rw [show M.2 = _ from hQ]
  exact vx_ret (W.widen hc hs (W.zret (v := x) K.1 K.2.1 K.2.2.2.2.2.2.2.2.2.2.1 hn (hQ.end_ hp hP hD hS) hS.2.2 d K.2.2.2.2.2.1))
theorem r_lret (pc : Nat) (K : KX l γ X M y cc own nL rm (some .long) tb) {P : Ro → va_W → Prop} {mc ms : Nat} {x : Int64} (hQ : HQ X M γ P mc ms) (d : decode cc pc = .ok (.lreturn, 1)) (hc : cs ≤ mc) (hs : ss ≤ ms) (hp : P (.inl (some (.long x))) w) : V l γ X M w L cs ss pc [.long x] := by
  intro H locs ls hP hD hS hl
  rw [show M.2 = _ from hQ]
  exact vx_ret (W.widen hc hs (W.lret (v := x) K.1 K.2.1 K.2.2.2.2.2.2.2.2.2.2.1 (hQ.end_ hp hP hD hS) hS.2.2 d K.2.2.2.2.2.1))
theorem r_vret (pc : Nat) (K : KX l γ X M y cc own nL rm none tb) {P : Ro → va_W → Prop} {mc ms : Nat} (hQ : HQ X M γ P mc ms) (d : decode cc pc = .ok (.return_, 1)) (hc : cs ≤ mc) (hs : ss ≤ ms) (hp : P (.inl none) w) : V l γ X M w L cs ss pc [] := by
  intro H locs ls hP hD hS hl
  rw [show M.2 = _ from hQ]
  exact vx_ret (W.widen hc hs (W.vret K.1 K.2.1 K.2.2.2.2.2.2.2.2.2.2.1 (hQ.end_ hp hP hD hS) hS.2.2 d K.2.2.2.2.2.1))
theorem zb0 : narrow .boolean (.int 0) = .int 0 := rfl
theorem zb1 : narrow .boolean (.int 1) = .int 1 := rfl
theorem r_zretR (pc : Nat) (K : KX l γ X M y cc own nL rm (some .boolean) tb) {P : Ro → va_W → Prop} {mc ms : Nat} {x : Int32} {α : Type} {u : α} {A : Option α} (hQ : HQ X M γ P mc ms) (d : decode cc pc = .ok (.ireturn, 1)) (hc : cs ≤ mc) (hs : ss ≤ ms) (hR : some u = if x = 0 ∨ x = 1 then A else none) (hp : some u = A → P (.inl (some (.int x))) w) : V l γ X M w L cs ss pc [.int x] := by
  by_cases h : x = 0 ∨ x = 1
  · rw [if_pos h] at hR
    refine r_zret pc K hQ d ?_ hc hs (hp hR)
    rcases h with rfl | rfl
    · exact zb0
    · exact zb1
  · rw [if_neg h] at hR; cases hR
/-! calls -/
theorem gw_gi {c0 c1 : Cond} (h : c1 ∈ Gw) : GoodIn (c0 :: Gw) (c1 :: Gw) := by
  intro w hw
  rcases List.mem_cons.mp hw with rfl | hw
  · exact ⟨List.mem_cons_of_mem _ h, gw_good h⟩
  · exact ⟨List.mem_cons_of_mem _ hw, gw_good hw⟩
theorem gw_pay {c1 : Cond} (h : c1 ∈ Gw) {a : Array Value} {s : State} (hts : ∀ w ∈ Gw, w.before a s = true) : ∀ w ∈ c1 :: Gw, ∀ (a' : Array Value) (U : State), s.WarmedH U.vm → w.before a' U = true := by
  intro w hw a' U hW
  rcases List.mem_cons.mp hw with rfl | hw
  · exact word_at hW (gw_good h) (hts _ h)
  · exact word_at hW (gw_good hw) (hts _ hw)
/-- what a call's site has of the tables -/
def CsV (own : String) (ix : Nat) (z : MethodName) (cz : ByteArray) (nz : Nat) (rz : Option FieldType) (n : Nat) : Prop :=
  Cond.methodLink own ix z ∈ Gw ∧ Cond.instanceMethod z ∈ Gw ∧ Cond.selects z.cls z z ∈ Gw ∧ Cond.initialized z.cls ∈ Gw ∧ Cond.code z cz nz rz ∈ Gw ∧ (z.cls ≠ "java/lang/invoke/MethodHandle" ∧ z.cls ≠ "java/lang/invoke/VarHandle" ∧ (parseMethodDescriptor z.desc).map (fun d => d.parameters.length) = some n)
def CsI (own : String) (ix : Nat) (z : MethodName) (cz : ByteArray) (nz : Nat) (n : Nat) : Prop :=
  Cond.methodLink own ix z ∈ Gw ∧ Cond.instanceMethod z ∈ Gw ∧ z.name = "<init>" ∧ Cond.initialized z.cls ∈ Gw ∧ Cond.code z cz nz none ∈ Gw ∧ (z.cls ≠ "java/lang/invoke/MethodHandle" ∧ z.cls ≠ "java/lang/invoke/VarHandle" ∧ (parseMethodDescriptor z.desc).map (fun d => d.parameters.length) = some n)
def CsS (own : String) (ix : Nat) (z : MethodName) (cz : ByteArray) (nz : Nat) (rz : Option FieldType) (n : Nat) : Prop :=
  Cond.methodLink own ix z ∈ Gw ∧ Cond.static z ∈ Gw ∧ Cond.initialized z.cls ∈ Gw ∧ Cond.code z cz nz rz ∈ Gw ∧ (z.cls ≠ "java/lang/invoke/MethodHandle" ∧ z.cls ≠ "java/lang/invoke/VarHandle" ∧ (parseMethodDescriptor z.desc).map (fun d => d.parameters.length) = some n)
theorem cs_par {z : MethodName} {n : Nat} (h : (parseMethodDescriptor z.desc).map (fun d => d.parameters.length) = some n) : ∀ sig, parseMethodDescriptor z.desc = some sig → n = sig.parameters.length := by
  intro sig hs
  rw [hs] at h
  exact (Option.some.inj h).symm
/-- the room that a callee needs -/
abbrev rmOk (rm rz : Room) (nz mc ms : Nat) : Prop := (Nat.ble (rz.frames + 1) rm.frames && Nat.ble (8 + (nz + 11) + rz.locals) rm.locals) = true ∧ rz.cells = mc ∧ rz.slots = ms
theorem rmOk.use {rm rz : Room} {nz mc ms : Nat} (h : rmOk rm rz nz mc ms) : rz.frames + 1 ≤ rm.frames ∧ 8 + (nz + 11) + rz.locals ≤ rm.locals ∧ rz.cells = mc ∧ rz.slots = ms :=
  ⟨Nat.le_of_ble_eq_true (Bool.and_eq_true_iff.mp h.1).1, Nat.le_of_ble_eq_true (Bool.and_eq_true_iff.mp h.1).2, h.2⟩
theorem cs_B {own : String} {ix : Nat} {z : MethodName} {cz : ByteArray} {nz n mc ms : Nat} {rz : Option FieldType} {rmz : Room} (K : KX l γ X M y cc own nL rm ret tb) (h1 : Cond.methodLink own ix z ∈ Gw) (h4 : Cond.initialized z.cls ∈ Gw) (h5 : Cond.code z cz nz rz ∈ Gw) (h6 : z.cls ≠ "java/lang/invoke/MethodHandle" ∧ z.cls ≠ "java/lang/invoke/VarHandle" ∧ (parseMethodDescriptor z.desc).map (fun d => d.parameters.length) = some n) (hr : rmOk rm rmz nz mc ms) :
    CallB (kR X) (ks X) (ka X) own ix z cz nz rz (Cond.code z cz nz rz :: Gw) rmz mc ms n := by
  obtain ⟨r1, r2, r3, r4⟩ := hr.use
  have ht := K.2.2.2.2.1
  have hR : kR X = rm := K.2.2.2.2.2.2.2.2.2.1
  exact ⟨r3, r4, by rw [hR]; exact r1, by rw [hR]; exact r2, gw_pay h5 ht, List.mem_cons_self, ht _ h5, ht _ h4, ⟨h6.1, h6.2.1⟩, cs_par h6.2.2, ht _ h1⟩
abbrev kFix (X : CX) (cc : ByteArray) (nL : Nat) (own : String) : Prop := CallFix (kp X) (km X) (kc X) cc nL (ks X) (ka X) Gw own
theorem cs_fix (K : KX l γ X M y cc own nL rm ret tb) : kFix X cc nL own := ⟨K.1, K.2.1, K.2.2.1, K.2.2.2.1, K.2.2.2.2.1⟩
/-- the start of the callee -/
theorem cs_pre (K : KX l γ X M y cc own nL rm ret tb) {as : List Value} {H : Heap} {locs : List Loc} (hP : va_P γ.1 clX w H) (hD : va_D (Ax X M) w) (hS : va_S (Ax X M) (ks X).heap H locs) :
    ∀ U : State, U.heap = H → (ks X).WarmedH U.vm → PcX γ as w H.size as.toArray U := fun U hU hW =>
  ⟨rfl, by rw [hU], by rw [hU]; exact hP, va_K.moved hW.alike K.2.2.2.2.2.2.1, hD.self, (K.2.2.2.2.2.2.2.1).pass hW hS hU (fun q hq => by
    rcases hq with ⟨k, e, h⟩ | h
    · exact hD.2 k (q, e) h
    · exact Or.inr (Nat.le_trans hS.1 h))⟩
theorem cs_sub {H : Heap} {locs : List Loc} (hD : va_D (Ax X M) w) (hS : va_S (Ax X M) (ks X).heap H locs) : ∀ q, va_A w H.size q → Ax X M q := by
  intro q hq
  rcases hq with ⟨k, e, h⟩ | h
  · exact hD.2 k (q, e) h
  · exact Or.inr (Nat.le_trans hS.1 h)
/-- an exception goes up from pc -/
def VX (l : Launch) (γ : Gd) (X : CX) (M : MX) (w : va_W) (L : List (Option Value)) (cs ss pc : Nat) (st : List Value) (E : String) : Prop :=
  ∀ (H : Heap) (locs : List Loc) (ls : Array Slot) (q : Addr) (ce : Cell), va_P γ.1 clX w H → va_D (Ax X M) w → va_S (Ax X M) (ks X).heap H locs → lv_has ls (kc X).maxLocals (lvs 0 L) → H[q]? = some ce → ce.vm = .none → (ks X).vm.findClass E = some ce.cls →
    vx_W (kp X) l (ke X) (kR X) (ks X) (km X) (ka X) (kb X) (kt X) (kc X) H locs cs ss M.2 (F0 (km X) pc ls st) q
theorem V.ofRun {P : Ro → va_W → Prop} {mc ms pc : Nat} {a : Array Value} (hr : ∀ (H : Heap) (locs : List Loc) (ls : Array Slot), va_P γ.1 clX w H → va_D (Ax X M) w → va_S (Ax X M) (ks X).heap H locs → lv_has ls (kc X).maxLocals (lvs 0 L) → vx_Run (kp X) l (ke X) (kR X) (ks X) (km X) (ka X) (kb X) (kt X) (kc X) H locs cs ss mc ms (F0 (km X) pc ls st) rest (QcX γ w H.size P a) (XcX γ w H.size P) (va_A w H.size))
    (kx : ∀ (k : Nat) (w1 : va_W), P (.inr k) w1 → VX l γ X M w1 L (cs + mc) (ss + ms) pc rest (xn k))
    (kk : ∀ (v : Option Value) (w1 : va_W), P (.inl v) w1 → V l γ X M w1 L (cs + mc) (ss + ms) (pc + 3) (v.toList ++ rest)) : V l γ X M w L cs ss pc st := by
  intro H locs ls hP hD hS hl T hT XX
  have hsub := cs_sub (w := w) hD hS
  rcases hr H locs ls hP hD hS hl T hT XX with ⟨v, st₀, t, T', LL, h0, X', hL, e1, e2, ⟨v', w1, hv, hp, hP1, hD1, hF⟩, stp⟩ | ⟨q, st₀, t, T', LL, E, ce, h0, X', hL, e1, e2, ⟨k, w1, hE, hp, hP1, hD1, hF⟩, hce, hcv, hcl, stp⟩
  · cases hv
    obtain ⟨k1, k2, k3⟩ := vx_keep h0 e1 hS (fun q _ h => hsub q h) hsub hL hF
    obtain ⟨t2, a1, b1⟩ := kk v w1 hp T'.heap (locs ++ LL) ls (by rw [e1]; exact hP1) (hD1.weaken (fun _ q _ h => hsub q.1 h)) k3 hl T' rfl X'
    exact ⟨t2, stp t2 a1, b1⟩
  · obtain ⟨k1, k2, k3⟩ := vx_keep h0 e1 hS (fun q _ h => hsub q h) hsub hL hF
    subst hE
    obtain ⟨t2, a1, b1⟩ := kx k w1 hp T'.heap (locs ++ LL) ls q ce (by rw [e1]; exact hP1) (hD1.weaken (fun _ q _ h => hsub q.1 h)) k3 hl (by rw [e1]; exact hce) hcv hcl T' rfl X'
    exact ⟨t2, stp.trans a1, b1⟩
theorem ls_len {ls : Array Slot} (K : KX l γ X M y cc own nL rm ret tb) (hl : lv_has ls (kc X).maxLocals (lvs 0 L)) : ls.size = nL := hl.1.trans K.2.2.1
/-- a call of an instance method, returning or throwing -/
theorem r_callV (pc q0 : Nat) (As : List Value) (rest : List Value) (K : KX l γ X M y cc own nL rm ret tb) {P : Ro → va_W → Prop} {mc ms ix nz n a ci N : Nat} {z : MethodName} {cz : ByteArray} {rz : Option FieldType} {rmz : Room} {T : u_T} {fs : List Value}
    (hC : Ct l γ z (Cond.code z cz nz rz) rmz (.ref a :: As) w P mc ms) (cs9 : CsV own ix z cz nz rz n) (hr : rmOk rm rmz nz mc ms) (d : decode cc pc = .ok (.invokevirtual ix, 3))
    (he : w[q0]? = some (a, .inr (ci, fs))) (hc : clX[ci]? = some (z.cls, T, N)) (hn : As.length = n) (hst : st = As.reverse ++ .ref a :: rest) (hcat : (rest.map fun v => v.category).sum ≤ 8) (hf : cs + mc ≤ rm.cells ∧ ss + ms ≤ rm.slots)
    (kx : ∀ (k : Nat) (w1 : va_W), P (.inr k) w1 → VX l γ X M w1 L (cs + mc) (ss + ms) pc rest (xn k))
    (kk : ∀ (v : Option Value) (w1 : va_W), P (.inl v) w1 → V l γ X M w1 L (cs + mc) (ss + ms) (pc + 3) (v.toList ++ rest)) : V l γ X M w L cs ss pc st := by
  obtain ⟨h1, h2, h3, h4, h5, h6⟩ := cs9
  have hR : kR X = rm := K.2.2.2.2.2.2.2.2.2.1
  refine V.ofRun (P := P) (a := (Value.ref a :: As).toArray) (fun H locs ls hP hD hS hl => ?_) kx kk
  exact vx_runV (As := As) (rest := rest) (C := z.cls) (cs_fix K) (hC H.size) ⟨cs_B K h1 h4 h5 h6 hr, K.2.2.2.2.1 _ h2, K.2.2.2.2.1 _ h3⟩ ⟨PcX.blind, va_recv K.2.2.2.2.2.2.1 hP hc he, cs_pre K hP hD hS⟩ rfl hn (ls_len K hl) hst (lv_room hcat) d (by rw [hR]; exact hf)
theorem r_callI (pc : Nat) (As : List Value) (rest : List Value) (K : KX l γ X M y cc own nL rm ret tb) {P : Ro → va_W → Prop} {mc ms ix nz n a : Nat} {z : MethodName} {cz : ByteArray} {rmz : Room}
    (hC : Ct l γ z (Cond.code z cz nz none) rmz (.ref a :: As) w P mc ms) (cs9 : CsI own ix z cz nz n) (hr : rmOk rm rmz nz mc ms) (d : decode cc pc = .ok (.invokespecial ix, 3))
    (hn : As.length = n) (hst : st = As.reverse ++ .ref a :: rest) (hcat : (rest.map fun v => v.category).sum ≤ 8) (hf : cs + mc ≤ rm.cells ∧ ss + ms ≤ rm.slots)
    (kx : ∀ (k : Nat) (w1 : va_W), P (.inr k) w1 → VX l γ X M w1 L (cs + mc) (ss + ms) pc rest (xn k))
    (kk : ∀ (v : Option Value) (w1 : va_W), P (.inl v) w1 → V l γ X M w1 L (cs + mc) (ss + ms) (pc + 3) (v.toList ++ rest)) : V l γ X M w L cs ss pc st := by
  obtain ⟨h1, h2, h3, h4, h5, h6⟩ := cs9
  have hR : kR X = rm := K.2.2.2.2.2.2.2.2.2.1
  refine V.ofRun (P := P) (a := (Value.ref a :: As).toArray) (fun H locs ls hP hD hS hl => ?_) kx kk
  exact vx_runI (As := As) (rest := rest) (cs_fix K) (hC H.size) ⟨cs_B K h1 h4 h5 h6 hr, h3, K.2.2.2.2.1 _ h2⟩ ⟨PcX.blind, cs_pre K hP hD hS⟩ rfl hn (ls_len K hl) hst (lv_room hcat) d (by rw [hR]; exact hf)
theorem r_callS (pc : Nat) (As : List Value) (rest : List Value) (K : KX l γ X M y cc own nL rm ret tb) {P : Ro → va_W → Prop} {mc ms ix nz n : Nat} {z : MethodName} {cz : ByteArray} {rz : Option FieldType} {rmz : Room}
    (hC : Ct l γ z (Cond.code z cz nz rz) rmz As w P mc ms) (cs9 : CsS own ix z cz nz rz n) (hr : rmOk rm rmz nz mc ms) (d : decode cc pc = .ok (.invokestatic ix, 3))
    (hn : As.length = n) (hst : st = As.reverse ++ rest) (hcat : (rest.map fun v => v.category).sum ≤ 8) (hf : cs + mc ≤ rm.cells ∧ ss + ms ≤ rm.slots)
    (kx : ∀ (k : Nat) (w1 : va_W), P (.inr k) w1 → VX l γ X M w1 L (cs + mc) (ss + ms) pc rest (xn k))
    (kk : ∀ (v : Option Value) (w1 : va_W), P (.inl v) w1 → V l γ X M w1 L (cs + mc) (ss + ms) (pc + 3) (v.toList ++ rest)) : V l γ X M w L cs ss pc st := by
  obtain ⟨h1, h2, h4, h5, h6⟩ := cs9
  have hR : kR X = rm := K.2.2.2.2.2.2.2.2.2.1
  refine V.ofRun (P := P) (a := As.toArray) (fun H locs ls hP hD hS hl => ?_) kx kk
  exact vx_runS (As := As) (rest := rest) (cs_fix K) (hC H.size) ⟨cs_B K h1 h4 h5 h6 hr, K.2.2.2.2.1 _ h2⟩ ⟨PcX.blind, cs_pre K hP hD hS⟩ rfl hn (ls_len K hl) hst (lv_room hcat) d (by rw [hR]; exact hf)
/-- the end of a call whose outcome is known: it returns v and leaves w2 -/
abbrev Pr (v : Option Value) (w2 : va_W) : Ro → va_W → Prop := fun o w1 => o = .inl v ∧ w1 = w2
/-- .. it throws the exception k and leaves w2 -/
abbrev Px (k : Nat) (w2 : va_W) : Ro → va_W → Prop := fun o w1 => o = .inr k ∧ w1 = w2
theorem Pr.x {v : Option Value} {w2 : va_W} {G : Nat → va_W → Prop} : ∀ (k : Nat) (w1 : va_W), Pr v w2 (.inr k) w1 → G k w1 := fun _ _ h => by cases h.1
theorem Pr.k {v : Option Value} {w2 : va_W} {G : Option Value → va_W → Prop} (g : G v w2) : ∀ (v1 : Option Value) (w1 : va_W), Pr v w2 (.inl v1) w1 → G v1 w1 := fun _ _ h => by cases h.1; rw [h.2]; exact g
theorem Px.k {k : Nat} {w2 : va_W} {G : Option Value → va_W → Prop} : ∀ (v1 : Option Value) (w1 : va_W), Px k w2 (.inl v1) w1 → G v1 w1 := fun _ _ h => by cases h.1
theorem Px.x {k : Nat} {w2 : va_W} {G : Nat → va_W → Prop} (g : G k w2) : ∀ (k1 : Nat) (w1 : va_W), Px k w2 (.inr k1) w1 → G k1 w1 := fun _ _ h => by cases h.1; rw [h.2]; exact g
theorem rm00 {cs ss : Nat} (h : (Nat.ble cs rm.cells && Nat.ble ss rm.slots) = true) : cs + 0 ≤ rm.cells ∧ ss + 0 ≤ rm.slots := ⟨Nat.le_of_ble_eq_true (Bool.and_eq_true_iff.mp h).1, Nat.le_of_ble_eq_true (Bool.and_eq_true_iff.mp h).2⟩
/-- .. calls that return -/
theorem r_cV (pc q0 : Nat) (As : List Value) (rest : List Value) (v : Option Value) (w2 : va_W) (K : KX l γ X M y cc own nL rm ret tb) {ix nz n a ci N : Nat} {z : MethodName} {cz : ByteArray} {rz : Option FieldType} {rmz : Room} {T : u_T} {fs : List Value}
    (hC : Ct l γ z (Cond.code z cz nz rz) rmz (.ref a :: As) w (Pr v w2) 0 0) (cs9 : CsV own ix z cz nz rz n) (hr : rmOk rm rmz nz 0 0) (d : decode cc pc = .ok (.invokevirtual ix, 3))
    (he : w[q0]? = some (a, .inr (ci, fs))) (hc : clX[ci]? = some (z.cls, T, N)) (hn : As.length = n) (hst : st = As.reverse ++ .ref a :: rest) (hcat : Nat.ble (rest.map fun v => v.category).sum 8 = true) (hf : (Nat.ble cs rm.cells && Nat.ble ss rm.slots) = true)
    (kk : V l γ X M w2 L cs ss (pc + 3) (v.toList ++ rest)) : V l γ X M w L cs ss pc st :=
  r_callV pc q0 As rest K hC cs9 hr d he hc hn hst (Nat.le_of_ble_eq_true hcat) (rm00 hf) Pr.x (Pr.k kk)
theorem r_cS (pc : Nat) (As : List Value) (rest : List Value) (v : Option Value) (w2 : va_W) (K : KX l γ X M y cc own nL rm ret tb) {ix nz n : Nat} {z : MethodName} {cz : ByteArray} {rz : Option FieldType} {rmz : Room}
    (hC : Ct l γ z (Cond.code z cz nz rz) rmz As w (Pr v w2) 0 0) (cs9 : CsS own ix z cz nz rz n) (hr : rmOk rm rmz nz 0 0) (d : decode cc pc = .ok (.invokestatic ix, 3))
    (hn : As.length = n) (hst : st = As.reverse ++ rest) (hcat : Nat.ble (rest.map fun v => v.category).sum 8 = true) (hf : (Nat.ble cs rm.cells && Nat.ble ss rm.slots) = true)
    (kk : V l γ X M w2 L cs ss (pc + 3) (v.toList ++ rest)) : V l γ X M w L cs ss pc st :=
  r_callS pc As rest K hC cs9 hr d hn hst (Nat.le_of_ble_eq_true hcat) (rm00 hf) Pr.x (Pr.k kk)
/-- .. calls that throw: it goes up -/
theorem r_xV (pc q0 : Nat) (As : List Value) (rest : List Value) (k : Nat) (w2 : va_W) (K : KX l γ X M y cc own nL rm ret tb) {mc ms ix nz n a ci N : Nat} {z : MethodName} {cz : ByteArray} {rz : Option FieldType} {rmz : Room} {T : u_T} {fs : List Value}
    (hC : Ct l γ z (Cond.code z cz nz rz) rmz (.ref a :: As) w (Px k w2) mc ms) (cs9 : CsV own ix z cz nz rz n) (hr : rmOk rm rmz nz mc ms) (d : decode cc pc = .ok (.invokevirtual ix, 3))
    (he : w[q0]? = some (a, .inr (ci, fs))) (hc : clX[ci]? = some (z.cls, T, N)) (hn : As.length = n) (hst : st = As.reverse ++ .ref a :: rest) (hcat : Nat.ble (rest.map fun v => v.category).sum 8 = true) (hf : cs + mc ≤ rm.cells ∧ ss + ms ≤ rm.slots)
    (kx : VX l γ X M w2 L (cs + mc) (ss + ms) pc rest (xn k)) : V l γ X M w L cs ss pc st :=
  r_callV pc q0 As rest K hC cs9 hr d he hc hn hst (Nat.le_of_ble_eq_true hcat) hf (Px.x kx) Px.k
theorem r_xS (pc : Nat) (As : List Value) (rest : List Value) (k : Nat) (w2 : va_W) (K : KX l γ X M y cc own nL rm ret tb) {mc ms ix nz n : Nat} {z : MethodName} {cz : ByteArray} {rz : Option FieldType} {rmz : Room}
    (hC : Ct l γ z (Cond.code z cz nz rz) rmz As w (Px k w2) mc ms) (cs9 : CsS own ix z cz nz rz n) (hr : rmOk rm rmz nz mc ms) (d : decode cc pc = .ok (.invokestatic ix, 3))
    (hn : As.length = n) (hst : st = As.reverse ++ rest) (hcat : Nat.ble (rest.map fun v => v.category).sum 8 = true) (hf : cs + mc ≤ rm.cells ∧ ss + ms ≤ rm.slots)
    (kx : VX l γ X M w2 L (cs + mc) (ss + ms) pc rest (xn k)) : V l γ X M w L cs ss pc st :=
  r_callS pc As rest K hC cs9 hr d hn hst (Nat.le_of_ble_eq_true hcat) hf (Px.x kx) Px.k
/-- an exception leaves a method without handlers -/
theorem r_out (pc : Nat) (K : KX l γ X M y cc own nL rm ret []) {P : Ro → va_W → Prop} {mc ms k : Nat} (hQ : HQ X M γ P mc ms) (hc : cs ≤ mc) (hs : ss ≤ ms) (hp : P (.inr k) w) : VX l γ X M w L cs ss pc st (xn k) := by
  intro H locs ls q ce hP hD hS hl hce hcv hcl
  rw [show M.2 = _ from hQ]
  refine vx_out (E := xn k) (ce := ce) (fun x hx => ?_) K.2.2.2.2.2.1 hce hcv hcl (fun t ht hv => ⟨k, w, rfl, hp, by rw [ht]; exact hP, hD, hS.F ht⟩) hS.2.2 hc hs
  rw [K.2.2.2.2.2.2.2.2.2.2.2.1] at hx
  cases hx
end CLS
end
section
section JDK
variable {l : Launch} {γ : Gd} {X : CX} {M : MX} {w w' : va_W} {L L' : List (Option Value)} {cs ss : Nat} {st rest : List Value} {y : MethodName} {cc : ByteArray} {own : String} {nL : Nat} {rm : Room} {ret : Option FieldType} {tb : List ExceptionTableEntry}
/-! Math.min -/
def iMin (x z : Int32) : Int32 := if z < x then z else x
def lMin (x z : Int64) : Int64 := if z < x then z else x
theorem jb {a b : Nat} {c : Bool} (h : (Nat.ble a b && c) = true) : a ≤ b ∧ c = true := ⟨Nat.le_of_ble_eq_true (Bool.and_eq_true_iff.mp h).1, (Bool.and_eq_true_iff.mp h).2⟩
theorem r_min (pc : Nat) (K : KX l γ X M y cc own nL rm ret tb) {ix : Nat} {x z : Int32} (h1 : Cond.methodLink own ix Lib.Math.min.name ∈ Gw) (h2 : Cond.static Lib.Math.min.name ∈ Gw) (h3 : Cond.initialized "java/lang/Math" ∈ Gw) (h4 : Cond.code Lib.Math.min.name Lib.Math.min.code 2 (some .int) ∈ Gw) (d : decode cc pc = .ok (.invokestatic ix, 3))
    (hr : (Nat.ble 1 rm.frames && (Nat.ble ((rest.map fun v => v.category).sum + 13) rm.locals && (Nat.ble cs rm.cells && Nat.ble ss rm.slots))) = true) (k : V l γ X M w L cs ss (pc + 3) (.int (iMin x z) :: rest)) : V l γ X M w L cs ss pc (.int z :: .int x :: rest) := by
  intro H locs ls hP hD hS hl
  have hR : kR X = rm := K.2.2.2.2.2.2.2.2.2.1
  have ht := K.2.2.2.2.1
  obtain ⟨r1, hr⟩ := jb hr
  obtain ⟨r2, hr⟩ := jb hr
  have r3 := Nat.le_of_ble_eq_true (Bool.and_eq_true_iff.mp hr).1
  have r4 := Nat.le_of_ble_eq_true (Bool.and_eq_true_iff.mp hr).2
  exact va_mmin K.1 K.2.1 hl.1.symm K.2.2.2.1 (ht _ h1) (ht _ h2) (ht _ h3) (ht _ h4) (by rw [hR]; exact r1) (by rw [hR]; exact r2) (by rw [hR]; exact r3) (by rw [hR]; exact r4) d (k H locs ls hP hD hS hl)
theorem r_minL (pc : Nat) (K : KX l γ X M y cc own nL rm ret tb) {ix : Nat} {x z : Int64} (h1 : Cond.methodLink own ix Lib.MathLoose.min_long.x ∈ Gw) (h2 : Cond.static Lib.MathLoose.min_long.x ∈ Gw) (h3 : Cond.initialized "java/lang/Math" ∈ Gw) (h4 : Cond.code Lib.MathLoose.min_long.x Lib.MathLoose.min_long.code 4 (some .long) ∈ Gw) (d : decode cc pc = .ok (.invokestatic ix, 3))
    (hr : (Nat.ble 1 rm.frames && (Nat.ble ((rest.map fun v => v.category).sum + 15) rm.locals && (Nat.ble cs rm.cells && Nat.ble ss rm.slots))) = true) (k : V l γ X M w L cs ss (pc + 3) (.long (lMin x z) :: rest)) : V l γ X M w L cs ss pc (.long z :: .long x :: rest) := by
  intro H locs ls hP hD hS hl
  have hR : kR X = rm := K.2.2.2.2.2.2.2.2.2.1
  have ht := K.2.2.2.2.1
  obtain ⟨r1, hr⟩ := jb hr
  obtain ⟨r2, hr⟩ := jb hr
  have r3 := Nat.le_of_ble_eq_true (Bool.and_eq_true_iff.mp hr).1
  have r4 := Nat.le_of_ble_eq_true (Bool.and_eq_true_iff.mp hr).2
  exact va_mmin_long K.1 K.2.1 hl.1.symm K.2.2.2.1 (ht _ h1) (ht _ h2) (ht _ h3) (ht _ h4) (by rw [hR]; exact r1) (by rw [hR]; exact r2) (by rw [hR]; exact r3) (by rw [hR]; exact r4) d (k H locs ls hP hD hS hl)
/-- System.arraycopy of int rows -/
theorem r_copy (pc q0 q1 : Nat) (K : KX l γ X M y cc own nL rm ret tb) {ix a0 a n0 n1 : Nat} {f g : Nat → Int32} {sp dp n : Int32} (h1 : Cond.methodLink own ix arraycopyName ∈ Gw) (h2 : Cond.native arraycopyName ∈ Gw) (h3 : Cond.static arraycopyName ∈ Gw) (h4 : Cond.initialized "java/lang/System" ∈ Gw) (d : decode cc pc = .ok (.invokestatic ix, 3))
    (he0 : w[q0]? = some (a0, .inl (γ.2.1.1, n0, .inl f))) (he1 : w[q1]? = some (a, .inl (γ.2.1.1, n1, .inl g))) (g1 : ¬ sp < 0) (g2 : ¬ dp < 0) (g3 : ¬ n < 0) (g4 : sp.toNatClampNeg + n.toNatClampNeg ≤ n0) (g5 : dp.toNatClampNeg + n.toNatClampNeg ≤ n1)
    (hw : w.set q1 (a, .inl (γ.2.1.1, n1, .inl (va_cpy f g sp.toNatClampNeg dp.toNatClampNeg n.toNatClampNeg))) = w') (hr : (Nat.ble 1 rm.frames && Nat.ble ((rest.map fun v => v.category).sum + (nativeFrameWords "java/lang/System" "arraycopy" 5 + 11)) rm.locals) = true)
    (k : V l γ X M w' L cs ss (pc + 3) rest) : V l γ X M w L cs ss pc (.int n :: .int dp :: .ref a :: .int sp :: .ref a0 :: rest) := by
  intro H locs ls hP hD hS hl
  have hR : kR X = rm := K.2.2.2.2.2.2.2.2.2.1
  have ht := K.2.2.2.2.1
  obtain ⟨r1, hr⟩ := jb hr
  have r2 := Nat.le_of_ble_eq_true hr
  exact va_copyi K.1 K.2.1 hl.1.symm K.2.2.2.1 (ht _ h1) (ht _ h2) (ht _ h3) (ht _ h4) K.2.2.2.2.2.2.1 hP hD hS q0 q1 0 0 he0 he1 rfl rfl rfl g1 g2 g3 g4 g5 (fun _ _ => rfl) (by rw [hR]; exact r1) (by rw [hR]; exact r2) d (fun H1 locs1 hP1 hD1 hS1 => k H1 locs1 ls (hw ▸ hP1) (hw ▸ hD1) hS1 hl)
/-! new objects -/
theorem r_new (pc : Nat) (K : KX l γ X M y cc own nL rm ret tb) {ix ci N : Nat} {C : String} {T : u_T} {tyT : Nat → FieldType} {fs : List Value} (d : decode cc pc = .ok (.new ix, 3)) (h1 : Cond.classLink own ix C ∈ Gw) (h2 : Cond.instantiable C N ∈ Gw) (h3 : Cond.initialized C ∈ Gw) (hin : ∀ w ∈ u_ws C T N, w ∈ Gw) (hty : ∀ k, k < N → parseFieldDescriptor (T k).2.2.1 = some (tyT k)) (hc : clX[ci]? = some (C, T, N)) (hfs : (List.range N).map (fun j => defaultValue (tyT j)) = fs)
    (hr : (Nat.ble (cs + 1) rm.cells && Nat.ble (ss + N) rm.slots) = true) (k : ∀ q : Nat, V l γ X M (w ++ [(q, .inr (ci, fs))]) L (cs + 1) (ss + N) (pc + 3) (.ref q :: st)) : V l γ X M w L cs ss pc st := by
  intro H locs ls hP hD hS hl
  have hR : kR X = rm := K.2.2.2.2.2.2.2.2.2.1
  have ht := K.2.2.2.2.1
  obtain ⟨r1, hr⟩ := jb hr
  have r2 := Nat.le_of_ble_eq_true hr
  refine va_new K.1 K.2.1 ht hin tyT hty K.2.2.2.1 (ht _ h1) (ht _ h2) (ht _ h3) K.2.2.2.2.2.2.1 hP hD hS (fun q hq => Or.inr hq) hc (fun j hj => ?_) (by rw [hR]; exact r1) (by rw [hR]; exact r2) d (fun q H1 hP1 hD1 hS1 => k q H1 locs ls hP1 hD1 hS1 hl)
  subst hfs
  simp [vp_V, hj]
theorem r_newa (pc : Nat) (K : KX l γ X M y cc own nL rm ret tb) {at9 : ArrayType} {n : Int32} {N ti : Nat} {cA : ClassId} {a0 : vp_A} {ty : FieldType} (d : decode cc pc = .ok (.newarray at9, 2)) (h1 : Cond.arrayClass (newarray.typeOf at9) ∈ Gw) (hty : newarray.typeOf at9 = ty) (hti : (tyG γ)[ti]? = some (cA, ty)) (hra : ∀ (U : State) (c1 c2 : ClassId), va_RA U c1 ty → va_RA U c2 ty → c1 = c2) (ha : ∀ c : ClassId, vp_cell c a0 = arrV c N (fun _ => defaultValue ty)) (hn : ¬ n < 0) (hN : n.toNatClampNeg = N) (hb : Nat.ble (N * componentBytes ty) 536870912 = true)
    (hr : (Nat.ble (cs + 1) rm.cells && Nat.ble (ss + N) rm.slots) = true) (k : ∀ q : Nat, V l γ X M (w ++ [(q, .inl (cA, a0))]) L (cs + 1) (ss + N) (pc + 2) (.ref q :: st)) : V l γ X M w L cs ss pc (.int n :: st) := by
  intro H locs ls hP hD hS hl
  have hR : kR X = rm := K.2.2.2.2.2.2.2.2.2.1
  have ht := K.2.2.2.2.1
  obtain ⟨r1, hr⟩ := jb hr
  have r2 := Nat.le_of_ble_eq_true hr
  refine va_newa K.1 K.2.1 (ht _ h1) hty K.2.2.2.2.2.2.1 hP hD hS (fun q hq => Or.inr hq) ha hn hN (Nat.le_of_ble_eq_true hb) (by rw [hR]; exact r1) (by rw [hR]; exact r2) d (fun q cB H1 hK1 hP1 hD1 hS1 => ?_)
  have e : cB = cA := by
    have k1 := (hK1.2 3 (cB, ty) rfl).2
    have hlt : ti < (tyG γ).length := (List.getElem?_eq_some_iff.mp hti).1
    have k2 := (hK1.2 ti (cA, ty) (by rw [List.getElem?_append_left hlt]; exact hti)).2
    exact hra _ _ _ k1 k2
  subst e
  exact k q H1 locs ls hP1 hD1 hS1 hl
theorem raI (U : State) (c1 c2 : ClassId) (h1 : va_RA U c1 .int) (h2 : va_RA U c2 .int) : c1 = c2 := Option.some.inj ((show U.vm.findClass _ = some c1 from h1).symm.trans h2)
theorem raZ (U : State) (c1 c2 : ClassId) (h1 : va_RA U c1 .boolean) (h2 : va_RA U c2 .boolean) : c1 = c2 := Option.some.inj ((show U.vm.findClass _ = some c1 from h1).symm.trans h2)
theorem raL (U : State) (c1 c2 : ClassId) (h1 : va_RA U c1 .long) (h2 : va_RA U c2 .long) : c1 = c2 := Option.some.inj ((show U.vm.findClass _ = some c1 from h1).symm.trans h2)
theorem r_oinit (pc : Nat) (K : KX l γ X M y cc own nL rm ret tb) {ix a : Nat} (d : decode cc pc = .ok (.invokespecial ix, 3)) (h1 : Cond.methodLink own ix objectInit ∈ Gw) (h2 : Cond.instanceMethod objectInit ∈ Gw) (h3 : Cond.code objectInit ⟨#[0xb1]⟩ 1 none ∈ Gw) (hr : (Nat.ble 1 rm.frames && Nat.ble ((st.map fun v => v.category).sum + 12) rm.locals) = true) (k : V l γ X M w L cs ss (pc + 3) st) : V l γ X M w L cs ss pc (.ref a :: st) := by
  intro H locs ls hP hD hS hl
  have hR : kR X = rm := K.2.2.2.2.2.2.2.2.2.1
  have ht := K.2.2.2.2.1
  obtain ⟨r1, hr⟩ := jb hr
  have r2 := Nat.le_of_ble_eq_true hr
  exact W.objInit K.1 K.2.1 K.2.2.2.1 (ht _ h1) (ht _ h2) (ht _ h3) rfl hl.1 rfl d (by rw [hR]; exact r1) (by rw [hR]; show 2 * 0 + _ + 12 ≤ _; omega) (k H locs ls hP hD hS hl)
/-! throws -/
def nms : List String := ["java/lang/RuntimeException", "java/lang/Exception"]
def ThrOk (k ik ic : Nat) : Prop := Cond.classLink RX9 ik (xn k) ∈ Gw ∧ Cond.initialized (xn k) ∈ Gw ∧ (∀ w ∈ vx_atS RX9 ic (xn k) nms, w ∈ Gw ∨ w ∈ nwL) ∧ Bundle.fit (xn k) = true
theorem nms_fit : ∀ n ∈ nms, Bundle.fit n = true := by decide +kernel
theorem ot_good {w : Cond} (h : w ∈ Gw) : vx_ot w = true := by
  have := (List.mem_filter.mp h).2
  simp [vx_ot, this]
theorem ot_nw {w : Cond} (h : w ∈ nwL) : vx_ot w = true := by
  have := nwL_ot w h
  simp [vx_ot, this]
theorem thr_pre {k ik ic : Nat} (K : KX l γ X M y cc RX9 nL rm ret tb) (hT : ThrOk k ik ic) : (∀ w ∈ vx_atS RX9 ic (xn k) nms, w.before (ka X) (ks X) = true) ∧ (∀ w ∈ Cond.classLink RX9 ik (xn k) :: Cond.initialized (xn k) :: vx_atS RX9 ic (xn k) nms, vx_ot w = true) := by
  obtain ⟨h1, h2, h3, h4⟩ := hT
  refine ⟨fun w hw => ?_, fun w hw => ?_⟩
  · rcases h3 w hw with h | h
    · exact K.2.2.2.2.1 w h
    · exact va_Nw.use (nwL_ot w h) (K.2.2.2.2.2.2.2.1.2.2.2.2.2.2.2.1 w h)
  · rcases List.mem_cons.mp hw with rfl | hw
    · exact ot_good h1
    · rcases List.mem_cons.mp hw with rfl | hw
      · exact ot_good h2
      · rcases h3 w hw with h | h
        · exact ot_good h
        · exact ot_nw h
theorem r_thr (pc i : Nat) (K : KX l γ X M y cc RX9 nL rm ret []) {P : Ro → va_W → Prop} {mc ms k ik ic is : Nat} {text : String} (hQ : HQ X M γ P mc ms) (hi : strs[i]? = some (is, text)) (hT : ThrOk k ik ic)
    (d0 : decode cc pc = .ok (.new ik, 3)) (d3 : decode cc (pc + 3) = .ok (.dup, 1)) (d4 : decode cc (pc + 4) = .ok (.ldc is, 2)) (d6 : decode cc (pc + 6) = .ok (.invokespecial ic, 3)) (d9 : decode cc (pc + 9) = .ok (.athrow, 1))
    (hr : (Nat.ble 6 rm.frames && Nat.ble ((st.map fun v => v.category).sum + 82) rm.locals) = true) (hc1 : cs + 1 ≤ rm.cells) (hs1 : ss + 6 ≤ rm.slots) (hc : cs + 1 ≤ mc) (hs : ss + 6 ≤ ms) (hp : P (.inr k) w) : V l γ X M w L cs ss pc st := by
  intro H locs ls hP hD hS hl
  rw [show M.2 = _ from hQ]
  have hR : kR X = rm := K.2.2.2.2.2.2.2.2.2.1
  have ht := K.2.2.2.2.1
  obtain ⟨r1, hr⟩ := jb hr
  have r2 := Nat.le_of_ble_eq_true hr
  obtain ⟨t1, t2⟩ := thr_pre K hT
  have hG := K.2.2.2.2.2.2.2.1
  refine vx_throwS (names := nms) K.1 K.2.1 K.2.2.2.2.2.2.2.2.1 K.2.2.2.1 hT.2.2.2 nms_fit (ht _ hT.1) (ht _ hT.2.1) (hG.2.2.2.2.2.2.1 i (is, text) hi) t1 t2 hG.1 hG.2.1 hS hl.1 d0 d3 d4 d6 d9 (fun x hx => ?_) (by rw [hR]; exact r1) (by rw [hR]; exact r2) (by rw [hR]; exact hc1) (by rw [hR]; exact hs1) K.2.2.2.2.2.1 (fun t hv hz hq => ⟨k, w, rfl, hp, hP.kept (fun j q hj => hq _ (hP j q hj).lt), hD, Nat.le_trans hS.1 hz, fun q h1 h2 => (hq q (Nat.lt_of_lt_of_le h1 hS.1)).trans (hS.2.1 q h1 h2)⟩) hS.2.2 hc hs
  rw [K.2.2.2.2.2.2.2.2.2.2.2.1] at hx
  cases hx
theorem r_thrW (pc i : Nat) (K : KX l γ X M y cc RX9 nL rm ret []) {P : Ro → va_W → Prop} {mc ms k ik ic is : Nat} {text : String} (hQ : HQ X M γ P mc ms) (hi : strs[i]? = some (is, text)) (hT : ThrOk k ik ic)
    (d0 : decode cc pc = .ok (.new ik, 3)) (d3 : decode cc (pc + 3) = .ok (.dup, 1)) (d4 : decode cc (pc + 4) = .ok (.ldc_w is, 3)) (d6 : decode cc (pc + 7) = .ok (.invokespecial ic, 3)) (d9 : decode cc (pc + 10) = .ok (.athrow, 1))
    (hr : (Nat.ble 6 rm.frames && Nat.ble ((st.map fun v => v.category).sum + 82) rm.locals) = true) (hc1 : cs + 1 ≤ rm.cells) (hs1 : ss + 6 ≤ rm.slots) (hc : cs + 1 ≤ mc) (hs : ss + 6 ≤ ms) (hp : P (.inr k) w) : V l γ X M w L cs ss pc st := by
  intro H locs ls hP hD hS hl
  rw [show M.2 = _ from hQ]
  have hR : kR X = rm := K.2.2.2.2.2.2.2.2.2.1
  have ht := K.2.2.2.2.1
  obtain ⟨r1, hr⟩ := jb hr
  have r2 := Nat.le_of_ble_eq_true hr
  obtain ⟨t1, t2⟩ := thr_pre K hT
  have hG := K.2.2.2.2.2.2.2.1
  refine vx_throwSW (names := nms) K.1 K.2.1 K.2.2.2.2.2.2.2.2.1 K.2.2.2.1 hT.2.2.2 nms_fit (ht _ hT.1) (ht _ hT.2.1) (hG.2.2.2.2.2.2.1 i (is, text) hi) t1 t2 hG.1 hG.2.1 hS hl.1 d0 d3 d4 d6 d9 (fun x hx => ?_) (by rw [hR]; exact r1) (by rw [hR]; exact r2) (by rw [hR]; exact hc1) (by rw [hR]; exact hs1) K.2.2.2.2.2.1 (fun t hv hz hq => ⟨k, w, rfl, hp, hP.kept (fun j q hj => hq _ (hP j q hj).lt), hD, Nat.le_trans hS.1 hz, fun q h1 h2 => (hq q (Nat.lt_of_lt_of_le h1 hS.1)).trans (hS.2.1 q h1 h2)⟩) hS.2.2 hc hs
  rw [K.2.2.2.2.2.2.2.2.2.2.2.1] at hx
  cases hx
/-! handlers -/
theorem r_catch (pc : Nat) {k : Nat} (K : KX l γ X M y cc own nL rm ret tb) (pre : List ExceptionTableEntry) (x : ExceptionTableEntry) (suf : List ExceptionTableEntry) (hsplit : tb = pre ++ x :: suf) (hpass : ∀ z ∈ pre, z.catchType ≠ 0 ∧ ∃ k2 : Nat, Cond.classLink own z.catchType (xn k2) ∈ Gw ∧ (xn k, xn k2) ∈ ncL) (hx : covers x pc = true) (h0 : x.catchType ≠ 0)
    (hlk : Cond.classLink own x.catchType (xn k) ∈ Gw) (hcast : Cond.castable (xn k) (xn k) ∈ nwL) (kk : ∀ q : Nat, V l γ X M w L cs ss x.handlerPc [.ref q]) : VX l γ X M w L cs ss pc st (xn k) := by
  intro H locs ls q ce hP hD hS hl hce hcv hcl
  have ht := K.2.2.2.2.1
  have hG := K.2.2.2.2.2.2.2.1
  exact vx_catch K.2.2.2.1 pre x suf (by rw [K.2.2.2.2.2.2.2.2.2.2.2.1]; exact hsplit) (fun z hz => by
    obtain ⟨e1, k2, e2, e3⟩ := hpass z hz
    exact Or.inr ⟨e1, xn k2, ht _ e2, hG.2.2.2.2.2.2.2.2 _ e3⟩) hx h0 (ht _ hlk) (va_Nw.use (nwL_ot _ hcast) (hG.2.2.2.2.2.2.2.1 _ hcast)) hce hcv hcl (kk q H locs ls hP hD hS hl)
end JDK
end
section
theorem at_of {L : List Cond} (h : L.all (fun w => (decide (w ∈ lw_tbl) && goodWord w) || decide (w ∈ nwL)) = true) : ∀ w ∈ L, w ∈ Gw ∨ w ∈ nwL := by
  intro w hw
  have h1 := List.all_eq_true.mp h w hw
  simp only [Bool.or_eq_true, Bool.and_eq_true, decide_eq_true_eq] at h1
  rcases h1 with h1 | h1
  · exact Or.inl (List.mem_filter.mpr h1)
  · exact Or.inr h1
theorem AT1 : ∀ w ∈ vx_atS RX9 344 (xn 1) nms, w ∈ Gw ∨ w ∈ nwL := at_of (by decide +kernel)
theorem AT2 : ∀ w ∈ vx_atS RX9 132 (xn 2) nms, w ∈ Gw ∨ w ∈ nwL := at_of (by decide +kernel)
theorem AT3 : ∀ w ∈ vx_atS RX9 65 (xn 3) nms, w ∈ Gw ∨ w ∈ nwL := at_of (by decide +kernel)
abbrev St : Type := Nat → Nat → Int32
/-- a store: the slot i of the cell k -/
def stU (σ : St) (k i : Nat) (x : Int32) : St := fun a => if a = k then upd (σ k) i x else σ a
def stC (σ : St) (k : Nat) (f : Nat → Int32) : St := fun a => if a = k then f else σ a
theorem thr1 : ThrOk 1 340 344 := ⟨w354, w16, AT1, by decide +kernel⟩
theorem thr2 : ThrOk 2 128 132 := ⟨w425, w17, AT2, by decide +kernel⟩
theorem thr3 : ThrOk 3 61 65 := ⟨w441, w18, AT3, by decide +kernel⟩
def wB (γ : Gd) (h : Nat → Nat) (σ : St) : va_W := [(h 0, .inr (0, [.ref (h 1), .ref (h 10), .ref (h 14), .ref (h 23), .int (σ 0 4), .int (σ 0 5), .int (σ 0 6), .ref (h 24), .ref (h 25)])), (h 1, .inr (2, [.ref (h 2), .ref (h 3), .ref (h 4), .ref (h 5), .ref (h 6), .ref (h 7), .ref (h 8), .ref (h 9)])), (h 2, .inl (γ.2.1.1, 24, .inl (σ 2))), (h 3, .inl (γ.2.1.1, 24, .inl (σ 3))), (h 4, .inl (γ.2.1.1, 24, .inl (σ 4))), (h 5, .inl (γ.2.1.1, 24, .inl (σ 5))), (h 6, .inl (γ.2.1.1, 24, .inl (σ 6))), (h 7, .inl (γ.2.1.1, 24, .inl (σ 7))), (h 8, .inl (γ.2.1.1, 24, .inl (σ 8))), (h 9, .inl (γ.2.1.1, 24, .inl (σ 9))), (h 10, .inr (8, [.int (σ 10 0), .ref (h 11), .ref (h 12), .ref (h 13)])), (h 11, .inl (γ.2.1.1, 4, .inl (σ 11))), (h 12, .inl (γ.2.1.1, 4, .inl (σ 12))), (h 13, .inl (γ.2.1.1, 4, .inl (σ 13))), (h 14, .inr (4, [.int (σ 14 0), .ref (h 15), .ref (h 16), .ref (h 17), .ref (h 18), .ref (h 19), .ref (h 20), .ref (h 21), .ref (h 22)])), (h 15, .inl (γ.2.1.1, 20, .inl (σ 15))), (h 16, .inl (γ.2.1.1, 20, .inl (σ 16))), (h 17, .inl (γ.2.1.1, 20, .inl (σ 17))), (h 18, .inl (γ.2.1.1, 20, .inl (σ 18))), (h 19, .inl (γ.2.1.1, 20, .inl (σ 19))), (h 20, .inl (γ.2.1.1, 20, .inl (σ 20))), (h 21, .inl (γ.2.1.2.1, 20, .inl (σ 21))), (h 22, .inl (γ.2.1.1, 20, .inl (σ 22))), (h 23, .inr (1, [.int (σ 23 0), .int (σ 23 1), .int (σ 23 2), .int (σ 23 3), .int (σ 23 4), .int (σ 23 5), .int (σ 23 6)])), (h 24, .inl (γ.2.1.1, 24, .inl (σ 24))), (h 25, .inl (γ.2.1.1, 24, .inl (σ 25)))]
theorem sB_0_4 {γ : Gd} {h : Nat → Nat} {σ : St} {r : va_W} {x : Int32} : (wB γ h σ ++ r).set 0 (h 0, .inr (0, ([.ref (h 1), .ref (h 10), .ref (h 14), .ref (h 23), .int (σ 0 4), .int (σ 0 5), .int (σ 0 6), .ref (h 24), .ref (h 25)] : List Value).set 4 (.int x))) = wB γ h (stU σ 0 4 x) ++ r := rfl
theorem sB_0_5 {γ : Gd} {h : Nat → Nat} {σ : St} {r : va_W} {x : Int32} : (wB γ h σ ++ r).set 0 (h 0, .inr (0, ([.ref (h 1), .ref (h 10), .ref (h 14), .ref (h 23), .int (σ 0 4), .int (σ 0 5), .int (σ 0 6), .ref (h 24), .ref (h 25)] : List Value).set 5 (.int x))) = wB γ h (stU σ 0 5 x) ++ r := rfl
theorem sB_0_6 {γ : Gd} {h : Nat → Nat} {σ : St} {r : va_W} {x : Int32} : (wB γ h σ ++ r).set 0 (h 0, .inr (0, ([.ref (h 1), .ref (h 10), .ref (h 14), .ref (h 23), .int (σ 0 4), .int (σ 0 5), .int (σ 0 6), .ref (h 24), .ref (h 25)] : List Value).set 6 (.int x))) = wB γ h (stU σ 0 6 x) ++ r := rfl
theorem sB_2 {γ : Gd} {h : Nat → Nat} {σ : St} {r : va_W} {i : Nat} {x : Int32} : (wB γ h σ ++ r).set 2 (h 2, .inl (γ.2.1.1, 24, .inl (upd (σ 2) i x))) = wB γ h (stU σ 2 i x) ++ r := rfl
theorem cB_2 {γ : Gd} {h : Nat → Nat} {σ : St} {r : va_W} {f : Nat → Int32} : (wB γ h σ ++ r).set 2 (h 2, .inl (γ.2.1.1, 24, .inl f)) = wB γ h (stC σ 2 f) ++ r := rfl
theorem sB_3 {γ : Gd} {h : Nat → Nat} {σ : St} {r : va_W} {i : Nat} {x : Int32} : (wB γ h σ ++ r).set 3 (h 3, .inl (γ.2.1.1, 24, .inl (upd (σ 3) i x))) = wB γ h (stU σ 3 i x) ++ r := rfl
theorem cB_3 {γ : Gd} {h : Nat → Nat} {σ : St} {r : va_W} {f : Nat → Int32} : (wB γ h σ ++ r).set 3 (h 3, .inl (γ.2.1.1, 24, .inl f)) = wB γ h (stC σ 3 f) ++ r := rfl
theorem sB_4 {γ : Gd} {h : Nat → Nat} {σ : St} {r : va_W} {i : Nat} {x : Int32} : (wB γ h σ ++ r).set 4 (h 4, .inl (γ.2.1.1, 24, .inl (upd (σ 4) i x))) = wB γ h (stU σ 4 i x) ++ r := rfl
theorem cB_4 {γ : Gd} {h : Nat → Nat} {σ : St} {r : va_W} {f : Nat → Int32} : (wB γ h σ ++ r).set 4 (h 4, .inl (γ.2.1.1, 24, .inl f)) = wB γ h (stC σ 4 f) ++ r := rfl
theorem sB_5 {γ : Gd} {h : Nat → Nat} {σ : St} {r : va_W} {i : Nat} {x : Int32} : (wB γ h σ ++ r).set 5 (h 5, .inl (γ.2.1.1, 24, .inl (upd (σ 5) i x))) = wB γ h (stU σ 5 i x) ++ r := rfl
theorem cB_5 {γ : Gd} {h : Nat → Nat} {σ : St} {r : va_W} {f : Nat → Int32} : (wB γ h σ ++ r).set 5 (h 5, .inl (γ.2.1.1, 24, .inl f)) = wB γ h (stC σ 5 f) ++ r := rfl
theorem sB_6 {γ : Gd} {h : Nat → Nat} {σ : St} {r : va_W} {i : Nat} {x : Int32} : (wB γ h σ ++ r).set 6 (h 6, .inl (γ.2.1.1, 24, .inl (upd (σ 6) i x))) = wB γ h (stU σ 6 i x) ++ r := rfl
theorem cB_6 {γ : Gd} {h : Nat → Nat} {σ : St} {r : va_W} {f : Nat → Int32} : (wB γ h σ ++ r).set 6 (h 6, .inl (γ.2.1.1, 24, .inl f)) = wB γ h (stC σ 6 f) ++ r := rfl
theorem sB_7 {γ : Gd} {h : Nat → Nat} {σ : St} {r : va_W} {i : Nat} {x : Int32} : (wB γ h σ ++ r).set 7 (h 7, .inl (γ.2.1.1, 24, .inl (upd (σ 7) i x))) = wB γ h (stU σ 7 i x) ++ r := rfl
theorem cB_7 {γ : Gd} {h : Nat → Nat} {σ : St} {r : va_W} {f : Nat → Int32} : (wB γ h σ ++ r).set 7 (h 7, .inl (γ.2.1.1, 24, .inl f)) = wB γ h (stC σ 7 f) ++ r := rfl
theorem sB_8 {γ : Gd} {h : Nat → Nat} {σ : St} {r : va_W} {i : Nat} {x : Int32} : (wB γ h σ ++ r).set 8 (h 8, .inl (γ.2.1.1, 24, .inl (upd (σ 8) i x))) = wB γ h (stU σ 8 i x) ++ r := rfl
theorem cB_8 {γ : Gd} {h : Nat → Nat} {σ : St} {r : va_W} {f : Nat → Int32} : (wB γ h σ ++ r).set 8 (h 8, .inl (γ.2.1.1, 24, .inl f)) = wB γ h (stC σ 8 f) ++ r := rfl
theorem sB_9 {γ : Gd} {h : Nat → Nat} {σ : St} {r : va_W} {i : Nat} {x : Int32} : (wB γ h σ ++ r).set 9 (h 9, .inl (γ.2.1.1, 24, .inl (upd (σ 9) i x))) = wB γ h (stU σ 9 i x) ++ r := rfl
theorem cB_9 {γ : Gd} {h : Nat → Nat} {σ : St} {r : va_W} {f : Nat → Int32} : (wB γ h σ ++ r).set 9 (h 9, .inl (γ.2.1.1, 24, .inl f)) = wB γ h (stC σ 9 f) ++ r := rfl
theorem sB_10_0 {γ : Gd} {h : Nat → Nat} {σ : St} {r : va_W} {x : Int32} : (wB γ h σ ++ r).set 10 (h 10, .inr (8, ([.int (σ 10 0), .ref (h 11), .ref (h 12), .ref (h 13)] : List Value).set 0 (.int x))) = wB γ h (stU σ 10 0 x) ++ r := rfl
theorem sB_11 {γ : Gd} {h : Nat → Nat} {σ : St} {r : va_W} {i : Nat} {x : Int32} : (wB γ h σ ++ r).set 11 (h 11, .inl (γ.2.1.1, 4, .inl (upd (σ 11) i x))) = wB γ h (stU σ 11 i x) ++ r := rfl
theorem cB_11 {γ : Gd} {h : Nat → Nat} {σ : St} {r : va_W} {f : Nat → Int32} : (wB γ h σ ++ r).set 11 (h 11, .inl (γ.2.1.1, 4, .inl f)) = wB γ h (stC σ 11 f) ++ r := rfl
theorem sB_12 {γ : Gd} {h : Nat → Nat} {σ : St} {r : va_W} {i : Nat} {x : Int32} : (wB γ h σ ++ r).set 12 (h 12, .inl (γ.2.1.1, 4, .inl (upd (σ 12) i x))) = wB γ h (stU σ 12 i x) ++ r := rfl
theorem cB_12 {γ : Gd} {h : Nat → Nat} {σ : St} {r : va_W} {f : Nat → Int32} : (wB γ h σ ++ r).set 12 (h 12, .inl (γ.2.1.1, 4, .inl f)) = wB γ h (stC σ 12 f) ++ r := rfl
theorem sB_13 {γ : Gd} {h : Nat → Nat} {σ : St} {r : va_W} {i : Nat} {x : Int32} : (wB γ h σ ++ r).set 13 (h 13, .inl (γ.2.1.1, 4, .inl (upd (σ 13) i x))) = wB γ h (stU σ 13 i x) ++ r := rfl
theorem cB_13 {γ : Gd} {h : Nat → Nat} {σ : St} {r : va_W} {f : Nat → Int32} : (wB γ h σ ++ r).set 13 (h 13, .inl (γ.2.1.1, 4, .inl f)) = wB γ h (stC σ 13 f) ++ r := rfl
theorem sB_14_0 {γ : Gd} {h : Nat → Nat} {σ : St} {r : va_W} {x : Int32} : (wB γ h σ ++ r).set 14 (h 14, .inr (4, ([.int (σ 14 0), .ref (h 15), .ref (h 16), .ref (h 17), .ref (h 18), .ref (h 19), .ref (h 20), .ref (h 21), .ref (h 22)] : List Value).set 0 (.int x))) = wB γ h (stU σ 14 0 x) ++ r := rfl
theorem sB_15 {γ : Gd} {h : Nat → Nat} {σ : St} {r : va_W} {i : Nat} {x : Int32} : (wB γ h σ ++ r).set 15 (h 15, .inl (γ.2.1.1, 20, .inl (upd (σ 15) i x))) = wB γ h (stU σ 15 i x) ++ r := rfl
theorem cB_15 {γ : Gd} {h : Nat → Nat} {σ : St} {r : va_W} {f : Nat → Int32} : (wB γ h σ ++ r).set 15 (h 15, .inl (γ.2.1.1, 20, .inl f)) = wB γ h (stC σ 15 f) ++ r := rfl
theorem sB_16 {γ : Gd} {h : Nat → Nat} {σ : St} {r : va_W} {i : Nat} {x : Int32} : (wB γ h σ ++ r).set 16 (h 16, .inl (γ.2.1.1, 20, .inl (upd (σ 16) i x))) = wB γ h (stU σ 16 i x) ++ r := rfl
theorem cB_16 {γ : Gd} {h : Nat → Nat} {σ : St} {r : va_W} {f : Nat → Int32} : (wB γ h σ ++ r).set 16 (h 16, .inl (γ.2.1.1, 20, .inl f)) = wB γ h (stC σ 16 f) ++ r := rfl
theorem sB_17 {γ : Gd} {h : Nat → Nat} {σ : St} {r : va_W} {i : Nat} {x : Int32} : (wB γ h σ ++ r).set 17 (h 17, .inl (γ.2.1.1, 20, .inl (upd (σ 17) i x))) = wB γ h (stU σ 17 i x) ++ r := rfl
theorem cB_17 {γ : Gd} {h : Nat → Nat} {σ : St} {r : va_W} {f : Nat → Int32} : (wB γ h σ ++ r).set 17 (h 17, .inl (γ.2.1.1, 20, .inl f)) = wB γ h (stC σ 17 f) ++ r := rfl
theorem sB_18 {γ : Gd} {h : Nat → Nat} {σ : St} {r : va_W} {i : Nat} {x : Int32} : (wB γ h σ ++ r).set 18 (h 18, .inl (γ.2.1.1, 20, .inl (upd (σ 18) i x))) = wB γ h (stU σ 18 i x) ++ r := rfl
theorem cB_18 {γ : Gd} {h : Nat → Nat} {σ : St} {r : va_W} {f : Nat → Int32} : (wB γ h σ ++ r).set 18 (h 18, .inl (γ.2.1.1, 20, .inl f)) = wB γ h (stC σ 18 f) ++ r := rfl
theorem sB_19 {γ : Gd} {h : Nat → Nat} {σ : St} {r : va_W} {i : Nat} {x : Int32} : (wB γ h σ ++ r).set 19 (h 19, .inl (γ.2.1.1, 20, .inl (upd (σ 19) i x))) = wB γ h (stU σ 19 i x) ++ r := rfl
theorem cB_19 {γ : Gd} {h : Nat → Nat} {σ : St} {r : va_W} {f : Nat → Int32} : (wB γ h σ ++ r).set 19 (h 19, .inl (γ.2.1.1, 20, .inl f)) = wB γ h (stC σ 19 f) ++ r := rfl
theorem sB_20 {γ : Gd} {h : Nat → Nat} {σ : St} {r : va_W} {i : Nat} {x : Int32} : (wB γ h σ ++ r).set 20 (h 20, .inl (γ.2.1.1, 20, .inl (upd (σ 20) i x))) = wB γ h (stU σ 20 i x) ++ r := rfl
theorem cB_20 {γ : Gd} {h : Nat → Nat} {σ : St} {r : va_W} {f : Nat → Int32} : (wB γ h σ ++ r).set 20 (h 20, .inl (γ.2.1.1, 20, .inl f)) = wB γ h (stC σ 20 f) ++ r := rfl
theorem sB_21 {γ : Gd} {h : Nat → Nat} {σ : St} {r : va_W} {i : Nat} {x : Int32} : (wB γ h σ ++ r).set 21 (h 21, .inl (γ.2.1.2.1, 20, .inl (upd (σ 21) i x))) = wB γ h (stU σ 21 i x) ++ r := rfl
theorem sB_22 {γ : Gd} {h : Nat → Nat} {σ : St} {r : va_W} {i : Nat} {x : Int32} : (wB γ h σ ++ r).set 22 (h 22, .inl (γ.2.1.1, 20, .inl (upd (σ 22) i x))) = wB γ h (stU σ 22 i x) ++ r := rfl
theorem cB_22 {γ : Gd} {h : Nat → Nat} {σ : St} {r : va_W} {f : Nat → Int32} : (wB γ h σ ++ r).set 22 (h 22, .inl (γ.2.1.1, 20, .inl f)) = wB γ h (stC σ 22 f) ++ r := rfl
theorem sB_23_0 {γ : Gd} {h : Nat → Nat} {σ : St} {r : va_W} {x : Int32} : (wB γ h σ ++ r).set 23 (h 23, .inr (1, ([.int (σ 23 0), .int (σ 23 1), .int (σ 23 2), .int (σ 23 3), .int (σ 23 4), .int (σ 23 5), .int (σ 23 6)] : List Value).set 0 (.int x))) = wB γ h (stU σ 23 0 x) ++ r := rfl
theorem sB_23_1 {γ : Gd} {h : Nat → Nat} {σ : St} {r : va_W} {x : Int32} : (wB γ h σ ++ r).set 23 (h 23, .inr (1, ([.int (σ 23 0), .int (σ 23 1), .int (σ 23 2), .int (σ 23 3), .int (σ 23 4), .int (σ 23 5), .int (σ 23 6)] : List Value).set 1 (.int x))) = wB γ h (stU σ 23 1 x) ++ r := rfl
theorem sB_23_2 {γ : Gd} {h : Nat → Nat} {σ : St} {r : va_W} {x : Int32} : (wB γ h σ ++ r).set 23 (h 23, .inr (1, ([.int (σ 23 0), .int (σ 23 1), .int (σ 23 2), .int (σ 23 3), .int (σ 23 4), .int (σ 23 5), .int (σ 23 6)] : List Value).set 2 (.int x))) = wB γ h (stU σ 23 2 x) ++ r := rfl
theorem sB_23_3 {γ : Gd} {h : Nat → Nat} {σ : St} {r : va_W} {x : Int32} : (wB γ h σ ++ r).set 23 (h 23, .inr (1, ([.int (σ 23 0), .int (σ 23 1), .int (σ 23 2), .int (σ 23 3), .int (σ 23 4), .int (σ 23 5), .int (σ 23 6)] : List Value).set 3 (.int x))) = wB γ h (stU σ 23 3 x) ++ r := rfl
theorem sB_23_4 {γ : Gd} {h : Nat → Nat} {σ : St} {r : va_W} {x : Int32} : (wB γ h σ ++ r).set 23 (h 23, .inr (1, ([.int (σ 23 0), .int (σ 23 1), .int (σ 23 2), .int (σ 23 3), .int (σ 23 4), .int (σ 23 5), .int (σ 23 6)] : List Value).set 4 (.int x))) = wB γ h (stU σ 23 4 x) ++ r := rfl
theorem sB_23_5 {γ : Gd} {h : Nat → Nat} {σ : St} {r : va_W} {x : Int32} : (wB γ h σ ++ r).set 23 (h 23, .inr (1, ([.int (σ 23 0), .int (σ 23 1), .int (σ 23 2), .int (σ 23 3), .int (σ 23 4), .int (σ 23 5), .int (σ 23 6)] : List Value).set 5 (.int x))) = wB γ h (stU σ 23 5 x) ++ r := rfl
theorem sB_23_6 {γ : Gd} {h : Nat → Nat} {σ : St} {r : va_W} {x : Int32} : (wB γ h σ ++ r).set 23 (h 23, .inr (1, ([.int (σ 23 0), .int (σ 23 1), .int (σ 23 2), .int (σ 23 3), .int (σ 23 4), .int (σ 23 5), .int (σ 23 6)] : List Value).set 6 (.int x))) = wB γ h (stU σ 23 6 x) ++ r := rfl
theorem sB_24 {γ : Gd} {h : Nat → Nat} {σ : St} {r : va_W} {i : Nat} {x : Int32} : (wB γ h σ ++ r).set 24 (h 24, .inl (γ.2.1.1, 24, .inl (upd (σ 24) i x))) = wB γ h (stU σ 24 i x) ++ r := rfl
theorem cB_24 {γ : Gd} {h : Nat → Nat} {σ : St} {r : va_W} {f : Nat → Int32} : (wB γ h σ ++ r).set 24 (h 24, .inl (γ.2.1.1, 24, .inl f)) = wB γ h (stC σ 24 f) ++ r := rfl
theorem sB_25 {γ : Gd} {h : Nat → Nat} {σ : St} {r : va_W} {i : Nat} {x : Int32} : (wB γ h σ ++ r).set 25 (h 25, .inl (γ.2.1.1, 24, .inl (upd (σ 25) i x))) = wB γ h (stU σ 25 i x) ++ r := rfl
theorem cB_25 {γ : Gd} {h : Nat → Nat} {σ : St} {r : va_W} {f : Nat → Int32} : (wB γ h σ ++ r).set 25 (h 25, .inl (γ.2.1.1, 24, .inl f)) = wB γ h (stC σ 25 f) ++ r := rfl
def wD (γ : Gd) (a : Nat → Nat) (δ : St) : va_W := [(a 0, .inr (3, [.int (δ 0 0), .ref (a 1), .ref (a 2), .int (δ 0 3)])), (a 1, .inl (γ.2.1.1, 2, .inl (δ 1))), (a 2, .inl (γ.2.1.1, 6, .inl (δ 2)))]
theorem sD_0_0 {γ : Gd} {a : Nat → Nat} {δ : St} {r : va_W} {x : Int32} : (wD γ a δ ++ r).set 0 (a 0, .inr (3, ([.int (δ 0 0), .ref (a 1), .ref (a 2), .int (δ 0 3)] : List Value).set 0 (.int x))) = wD γ a (stU δ 0 0 x) ++ r := rfl
theorem sD_0_3 {γ : Gd} {a : Nat → Nat} {δ : St} {r : va_W} {x : Int32} : (wD γ a δ ++ r).set 0 (a 0, .inr (3, ([.int (δ 0 0), .ref (a 1), .ref (a 2), .int (δ 0 3)] : List Value).set 3 (.int x))) = wD γ a (stU δ 0 3 x) ++ r := rfl
theorem sD_1 {γ : Gd} {a : Nat → Nat} {δ : St} {r : va_W} {i : Nat} {x : Int32} : (wD γ a δ ++ r).set 1 (a 1, .inl (γ.2.1.1, 2, .inl (upd (δ 1) i x))) = wD γ a (stU δ 1 i x) ++ r := rfl
theorem cD_1 {γ : Gd} {a : Nat → Nat} {δ : St} {r : va_W} {f : Nat → Int32} : (wD γ a δ ++ r).set 1 (a 1, .inl (γ.2.1.1, 2, .inl f)) = wD γ a (stC δ 1 f) ++ r := rfl
theorem sD_2 {γ : Gd} {a : Nat → Nat} {δ : St} {r : va_W} {i : Nat} {x : Int32} : (wD γ a δ ++ r).set 2 (a 2, .inl (γ.2.1.1, 6, .inl (upd (δ 2) i x))) = wD γ a (stU δ 2 i x) ++ r := rfl
theorem cD_2 {γ : Gd} {a : Nat → Nat} {δ : St} {r : va_W} {f : Nat → Int32} : (wD γ a δ ++ r).set 2 (a 2, .inl (γ.2.1.1, 6, .inl f)) = wD γ a (stC δ 2 f) ++ r := rfl
def wM (γ : Gd) (a : Nat → Nat) (μ : St) : va_W := [(a 0, .inr (10, [.ref (a 1), .ref (a 2), .ref (a 3), .ref (a 4), .ref (a 5), .int (μ 0 5), .int (μ 0 6), .int (μ 0 7), .ref (a 6), .ref (a 7), .int (μ 0 10), .ref (a 8), .ref (a 9), .ref (a 10), .ref (a 11), .ref (a 12), .ref (a 13), .ref (a 14), .int (μ 0 18), .int (μ 0 19), .ref (a 15), .int (μ 0 21), .int (μ 0 22), .ref (a 16), .int (μ 0 24), .ref (a 17), .int (μ 0 26), .int (μ 0 27), .int (μ 0 28)])), (a 1, .inl (γ.2.1.1, 174, .inl (μ 1))), (a 2, .inl (γ.2.1.1, 174, .inl (μ 2))), (a 3, .inl (γ.2.1.1, 24, .inl (μ 3))), (a 4, .inl (γ.2.1.1, 24, .inl (μ 4))), (a 5, .inl (γ.2.1.1, 48, .inl (μ 5))), (a 6, .inl (γ.2.1.1, 4, .inl (μ 6))), (a 7, .inl (γ.2.1.1, 4, .inl (μ 7))), (a 8, .inl (γ.2.1.1, 20, .inl (μ 8))), (a 9, .inl (γ.2.1.1, 20, .inl (μ 9))), (a 10, .inl (γ.2.1.1, 20, .inl (μ 10))), (a 11, .inl (γ.2.1.1, 20, .inl (μ 11))), (a 12, .inl (γ.2.1.1, 20, .inl (μ 12))), (a 13, .inl (γ.2.1.2.1, 20, .inl (μ 13))), (a 14, .inl (γ.2.1.1, 20, .inl (μ 14))), (a 15, .inl (γ.2.1.1, 2, .inl (μ 15))), (a 16, .inl (γ.2.1.1, 6, .inl (μ 16))), (a 17, .inl (γ.2.1.1, 20, .inl (μ 17)))]
theorem sM_0_5 {γ : Gd} {a : Nat → Nat} {μ : St} {r : va_W} {x : Int32} : (wM γ a μ ++ r).set 0 (a 0, .inr (10, ([.ref (a 1), .ref (a 2), .ref (a 3), .ref (a 4), .ref (a 5), .int (μ 0 5), .int (μ 0 6), .int (μ 0 7), .ref (a 6), .ref (a 7), .int (μ 0 10), .ref (a 8), .ref (a 9), .ref (a 10), .ref (a 11), .ref (a 12), .ref (a 13), .ref (a 14), .int (μ 0 18), .int (μ 0 19), .ref (a 15), .int (μ 0 21), .int (μ 0 22), .ref (a 16), .int (μ 0 24), .ref (a 17), .int (μ 0 26), .int (μ 0 27), .int (μ 0 28)] : List Value).set 5 (.int x))) = wM γ a (stU μ 0 5 x) ++ r := rfl
theorem sM_0_6 {γ : Gd} {a : Nat → Nat} {μ : St} {r : va_W} {x : Int32} : (wM γ a μ ++ r).set 0 (a 0, .inr (10, ([.ref (a 1), .ref (a 2), .ref (a 3), .ref (a 4), .ref (a 5), .int (μ 0 5), .int (μ 0 6), .int (μ 0 7), .ref (a 6), .ref (a 7), .int (μ 0 10), .ref (a 8), .ref (a 9), .ref (a 10), .ref (a 11), .ref (a 12), .ref (a 13), .ref (a 14), .int (μ 0 18), .int (μ 0 19), .ref (a 15), .int (μ 0 21), .int (μ 0 22), .ref (a 16), .int (μ 0 24), .ref (a 17), .int (μ 0 26), .int (μ 0 27), .int (μ 0 28)] : List Value).set 6 (.int x))) = wM γ a (stU μ 0 6 x) ++ r := rfl
theorem sM_0_7 {γ : Gd} {a : Nat → Nat} {μ : St} {r : va_W} {x : Int32} : (wM γ a μ ++ r).set 0 (a 0, .inr (10, ([.ref (a 1), .ref (a 2), .ref (a 3), .ref (a 4), .ref (a 5), .int (μ 0 5), .int (μ 0 6), .int (μ 0 7), .ref (a 6), .ref (a 7), .int (μ 0 10), .ref (a 8), .ref (a 9), .ref (a 10), .ref (a 11), .ref (a 12), .ref (a 13), .ref (a 14), .int (μ 0 18), .int (μ 0 19), .ref (a 15), .int (μ 0 21), .int (μ 0 22), .ref (a 16), .int (μ 0 24), .ref (a 17), .int (μ 0 26), .int (μ 0 27), .int (μ 0 28)] : List Value).set 7 (.int x))) = wM γ a (stU μ 0 7 x) ++ r := rfl
theorem sM_0_10 {γ : Gd} {a : Nat → Nat} {μ : St} {r : va_W} {x : Int32} : (wM γ a μ ++ r).set 0 (a 0, .inr (10, ([.ref (a 1), .ref (a 2), .ref (a 3), .ref (a 4), .ref (a 5), .int (μ 0 5), .int (μ 0 6), .int (μ 0 7), .ref (a 6), .ref (a 7), .int (μ 0 10), .ref (a 8), .ref (a 9), .ref (a 10), .ref (a 11), .ref (a 12), .ref (a 13), .ref (a 14), .int (μ 0 18), .int (μ 0 19), .ref (a 15), .int (μ 0 21), .int (μ 0 22), .ref (a 16), .int (μ 0 24), .ref (a 17), .int (μ 0 26), .int (μ 0 27), .int (μ 0 28)] : List Value).set 10 (.int x))) = wM γ a (stU μ 0 10 x) ++ r := rfl
theorem sM_0_18 {γ : Gd} {a : Nat → Nat} {μ : St} {r : va_W} {x : Int32} : (wM γ a μ ++ r).set 0 (a 0, .inr (10, ([.ref (a 1), .ref (a 2), .ref (a 3), .ref (a 4), .ref (a 5), .int (μ 0 5), .int (μ 0 6), .int (μ 0 7), .ref (a 6), .ref (a 7), .int (μ 0 10), .ref (a 8), .ref (a 9), .ref (a 10), .ref (a 11), .ref (a 12), .ref (a 13), .ref (a 14), .int (μ 0 18), .int (μ 0 19), .ref (a 15), .int (μ 0 21), .int (μ 0 22), .ref (a 16), .int (μ 0 24), .ref (a 17), .int (μ 0 26), .int (μ 0 27), .int (μ 0 28)] : List Value).set 18 (.int x))) = wM γ a (stU μ 0 18 x) ++ r := rfl
theorem sM_0_19 {γ : Gd} {a : Nat → Nat} {μ : St} {r : va_W} {x : Int32} : (wM γ a μ ++ r).set 0 (a 0, .inr (10, ([.ref (a 1), .ref (a 2), .ref (a 3), .ref (a 4), .ref (a 5), .int (μ 0 5), .int (μ 0 6), .int (μ 0 7), .ref (a 6), .ref (a 7), .int (μ 0 10), .ref (a 8), .ref (a 9), .ref (a 10), .ref (a 11), .ref (a 12), .ref (a 13), .ref (a 14), .int (μ 0 18), .int (μ 0 19), .ref (a 15), .int (μ 0 21), .int (μ 0 22), .ref (a 16), .int (μ 0 24), .ref (a 17), .int (μ 0 26), .int (μ 0 27), .int (μ 0 28)] : List Value).set 19 (.int x))) = wM γ a (stU μ 0 19 x) ++ r := rfl
theorem sM_0_21 {γ : Gd} {a : Nat → Nat} {μ : St} {r : va_W} {x : Int32} : (wM γ a μ ++ r).set 0 (a 0, .inr (10, ([.ref (a 1), .ref (a 2), .ref (a 3), .ref (a 4), .ref (a 5), .int (μ 0 5), .int (μ 0 6), .int (μ 0 7), .ref (a 6), .ref (a 7), .int (μ 0 10), .ref (a 8), .ref (a 9), .ref (a 10), .ref (a 11), .ref (a 12), .ref (a 13), .ref (a 14), .int (μ 0 18), .int (μ 0 19), .ref (a 15), .int (μ 0 21), .int (μ 0 22), .ref (a 16), .int (μ 0 24), .ref (a 17), .int (μ 0 26), .int (μ 0 27), .int (μ 0 28)] : List Value).set 21 (.int x))) = wM γ a (stU μ 0 21 x) ++ r := rfl
theorem sM_0_22 {γ : Gd} {a : Nat → Nat} {μ : St} {r : va_W} {x : Int32} : (wM γ a μ ++ r).set 0 (a 0, .inr (10, ([.ref (a 1), .ref (a 2), .ref (a 3), .ref (a 4), .ref (a 5), .int (μ 0 5), .int (μ 0 6), .int (μ 0 7), .ref (a 6), .ref (a 7), .int (μ 0 10), .ref (a 8), .ref (a 9), .ref (a 10), .ref (a 11), .ref (a 12), .ref (a 13), .ref (a 14), .int (μ 0 18), .int (μ 0 19), .ref (a 15), .int (μ 0 21), .int (μ 0 22), .ref (a 16), .int (μ 0 24), .ref (a 17), .int (μ 0 26), .int (μ 0 27), .int (μ 0 28)] : List Value).set 22 (.int x))) = wM γ a (stU μ 0 22 x) ++ r := rfl
theorem sM_0_24 {γ : Gd} {a : Nat → Nat} {μ : St} {r : va_W} {x : Int32} : (wM γ a μ ++ r).set 0 (a 0, .inr (10, ([.ref (a 1), .ref (a 2), .ref (a 3), .ref (a 4), .ref (a 5), .int (μ 0 5), .int (μ 0 6), .int (μ 0 7), .ref (a 6), .ref (a 7), .int (μ 0 10), .ref (a 8), .ref (a 9), .ref (a 10), .ref (a 11), .ref (a 12), .ref (a 13), .ref (a 14), .int (μ 0 18), .int (μ 0 19), .ref (a 15), .int (μ 0 21), .int (μ 0 22), .ref (a 16), .int (μ 0 24), .ref (a 17), .int (μ 0 26), .int (μ 0 27), .int (μ 0 28)] : List Value).set 24 (.int x))) = wM γ a (stU μ 0 24 x) ++ r := rfl
theorem sM_0_26 {γ : Gd} {a : Nat → Nat} {μ : St} {r : va_W} {x : Int32} : (wM γ a μ ++ r).set 0 (a 0, .inr (10, ([.ref (a 1), .ref (a 2), .ref (a 3), .ref (a 4), .ref (a 5), .int (μ 0 5), .int (μ 0 6), .int (μ 0 7), .ref (a 6), .ref (a 7), .int (μ 0 10), .ref (a 8), .ref (a 9), .ref (a 10), .ref (a 11), .ref (a 12), .ref (a 13), .ref (a 14), .int (μ 0 18), .int (μ 0 19), .ref (a 15), .int (μ 0 21), .int (μ 0 22), .ref (a 16), .int (μ 0 24), .ref (a 17), .int (μ 0 26), .int (μ 0 27), .int (μ 0 28)] : List Value).set 26 (.int x))) = wM γ a (stU μ 0 26 x) ++ r := rfl
theorem sM_0_27 {γ : Gd} {a : Nat → Nat} {μ : St} {r : va_W} {x : Int32} : (wM γ a μ ++ r).set 0 (a 0, .inr (10, ([.ref (a 1), .ref (a 2), .ref (a 3), .ref (a 4), .ref (a 5), .int (μ 0 5), .int (μ 0 6), .int (μ 0 7), .ref (a 6), .ref (a 7), .int (μ 0 10), .ref (a 8), .ref (a 9), .ref (a 10), .ref (a 11), .ref (a 12), .ref (a 13), .ref (a 14), .int (μ 0 18), .int (μ 0 19), .ref (a 15), .int (μ 0 21), .int (μ 0 22), .ref (a 16), .int (μ 0 24), .ref (a 17), .int (μ 0 26), .int (μ 0 27), .int (μ 0 28)] : List Value).set 27 (.int x))) = wM γ a (stU μ 0 27 x) ++ r := rfl
theorem sM_0_28 {γ : Gd} {a : Nat → Nat} {μ : St} {r : va_W} {x : Int32} : (wM γ a μ ++ r).set 0 (a 0, .inr (10, ([.ref (a 1), .ref (a 2), .ref (a 3), .ref (a 4), .ref (a 5), .int (μ 0 5), .int (μ 0 6), .int (μ 0 7), .ref (a 6), .ref (a 7), .int (μ 0 10), .ref (a 8), .ref (a 9), .ref (a 10), .ref (a 11), .ref (a 12), .ref (a 13), .ref (a 14), .int (μ 0 18), .int (μ 0 19), .ref (a 15), .int (μ 0 21), .int (μ 0 22), .ref (a 16), .int (μ 0 24), .ref (a 17), .int (μ 0 26), .int (μ 0 27), .int (μ 0 28)] : List Value).set 28 (.int x))) = wM γ a (stU μ 0 28 x) ++ r := rfl
theorem sM_1 {γ : Gd} {a : Nat → Nat} {μ : St} {r : va_W} {i : Nat} {x : Int32} : (wM γ a μ ++ r).set 1 (a 1, .inl (γ.2.1.1, 174, .inl (upd (μ 1) i x))) = wM γ a (stU μ 1 i x) ++ r := rfl
theorem cM_1 {γ : Gd} {a : Nat → Nat} {μ : St} {r : va_W} {f : Nat → Int32} : (wM γ a μ ++ r).set 1 (a 1, .inl (γ.2.1.1, 174, .inl f)) = wM γ a (stC μ 1 f) ++ r := rfl
theorem sM_2 {γ : Gd} {a : Nat → Nat} {μ : St} {r : va_W} {i : Nat} {x : Int32} : (wM γ a μ ++ r).set 2 (a 2, .inl (γ.2.1.1, 174, .inl (upd (μ 2) i x))) = wM γ a (stU μ 2 i x) ++ r := rfl
theorem cM_2 {γ : Gd} {a : Nat → Nat} {μ : St} {r : va_W} {f : Nat → Int32} : (wM γ a μ ++ r).set 2 (a 2, .inl (γ.2.1.1, 174, .inl f)) = wM γ a (stC μ 2 f) ++ r := rfl
theorem sM_3 {γ : Gd} {a : Nat → Nat} {μ : St} {r : va_W} {i : Nat} {x : Int32} : (wM γ a μ ++ r).set 3 (a 3, .inl (γ.2.1.1, 24, .inl (upd (μ 3) i x))) = wM γ a (stU μ 3 i x) ++ r := rfl
theorem cM_3 {γ : Gd} {a : Nat → Nat} {μ : St} {r : va_W} {f : Nat → Int32} : (wM γ a μ ++ r).set 3 (a 3, .inl (γ.2.1.1, 24, .inl f)) = wM γ a (stC μ 3 f) ++ r := rfl
theorem sM_4 {γ : Gd} {a : Nat → Nat} {μ : St} {r : va_W} {i : Nat} {x : Int32} : (wM γ a μ ++ r).set 4 (a 4, .inl (γ.2.1.1, 24, .inl (upd (μ 4) i x))) = wM γ a (stU μ 4 i x) ++ r := rfl
theorem cM_4 {γ : Gd} {a : Nat → Nat} {μ : St} {r : va_W} {f : Nat → Int32} : (wM γ a μ ++ r).set 4 (a 4, .inl (γ.2.1.1, 24, .inl f)) = wM γ a (stC μ 4 f) ++ r := rfl
theorem sM_5 {γ : Gd} {a : Nat → Nat} {μ : St} {r : va_W} {i : Nat} {x : Int32} : (wM γ a μ ++ r).set 5 (a 5, .inl (γ.2.1.1, 48, .inl (upd (μ 5) i x))) = wM γ a (stU μ 5 i x) ++ r := rfl
theorem cM_5 {γ : Gd} {a : Nat → Nat} {μ : St} {r : va_W} {f : Nat → Int32} : (wM γ a μ ++ r).set 5 (a 5, .inl (γ.2.1.1, 48, .inl f)) = wM γ a (stC μ 5 f) ++ r := rfl
theorem sM_6 {γ : Gd} {a : Nat → Nat} {μ : St} {r : va_W} {i : Nat} {x : Int32} : (wM γ a μ ++ r).set 6 (a 6, .inl (γ.2.1.1, 4, .inl (upd (μ 6) i x))) = wM γ a (stU μ 6 i x) ++ r := rfl
theorem cM_6 {γ : Gd} {a : Nat → Nat} {μ : St} {r : va_W} {f : Nat → Int32} : (wM γ a μ ++ r).set 6 (a 6, .inl (γ.2.1.1, 4, .inl f)) = wM γ a (stC μ 6 f) ++ r := rfl
theorem sM_7 {γ : Gd} {a : Nat → Nat} {μ : St} {r : va_W} {i : Nat} {x : Int32} : (wM γ a μ ++ r).set 7 (a 7, .inl (γ.2.1.1, 4, .inl (upd (μ 7) i x))) = wM γ a (stU μ 7 i x) ++ r := rfl
theorem cM_7 {γ : Gd} {a : Nat → Nat} {μ : St} {r : va_W} {f : Nat → Int32} : (wM γ a μ ++ r).set 7 (a 7, .inl (γ.2.1.1, 4, .inl f)) = wM γ a (stC μ 7 f) ++ r := rfl
theorem sM_8 {γ : Gd} {a : Nat → Nat} {μ : St} {r : va_W} {i : Nat} {x : Int32} : (wM γ a μ ++ r).set 8 (a 8, .inl (γ.2.1.1, 20, .inl (upd (μ 8) i x))) = wM γ a (stU μ 8 i x) ++ r := rfl
theorem cM_8 {γ : Gd} {a : Nat → Nat} {μ : St} {r : va_W} {f : Nat → Int32} : (wM γ a μ ++ r).set 8 (a 8, .inl (γ.2.1.1, 20, .inl f)) = wM γ a (stC μ 8 f) ++ r := rfl
theorem sM_9 {γ : Gd} {a : Nat → Nat} {μ : St} {r : va_W} {i : Nat} {x : Int32} : (wM γ a μ ++ r).set 9 (a 9, .inl (γ.2.1.1, 20, .inl (upd (μ 9) i x))) = wM γ a (stU μ 9 i x) ++ r := rfl
theorem cM_9 {γ : Gd} {a : Nat → Nat} {μ : St} {r : va_W} {f : Nat → Int32} : (wM γ a μ ++ r).set 9 (a 9, .inl (γ.2.1.1, 20, .inl f)) = wM γ a (stC μ 9 f) ++ r := rfl
theorem sM_10 {γ : Gd} {a : Nat → Nat} {μ : St} {r : va_W} {i : Nat} {x : Int32} : (wM γ a μ ++ r).set 10 (a 10, .inl (γ.2.1.1, 20, .inl (upd (μ 10) i x))) = wM γ a (stU μ 10 i x) ++ r := rfl
theorem cM_10 {γ : Gd} {a : Nat → Nat} {μ : St} {r : va_W} {f : Nat → Int32} : (wM γ a μ ++ r).set 10 (a 10, .inl (γ.2.1.1, 20, .inl f)) = wM γ a (stC μ 10 f) ++ r := rfl
theorem sM_11 {γ : Gd} {a : Nat → Nat} {μ : St} {r : va_W} {i : Nat} {x : Int32} : (wM γ a μ ++ r).set 11 (a 11, .inl (γ.2.1.1, 20, .inl (upd (μ 11) i x))) = wM γ a (stU μ 11 i x) ++ r := rfl
theorem cM_11 {γ : Gd} {a : Nat → Nat} {μ : St} {r : va_W} {f : Nat → Int32} : (wM γ a μ ++ r).set 11 (a 11, .inl (γ.2.1.1, 20, .inl f)) = wM γ a (stC μ 11 f) ++ r := rfl
theorem sM_12 {γ : Gd} {a : Nat → Nat} {μ : St} {r : va_W} {i : Nat} {x : Int32} : (wM γ a μ ++ r).set 12 (a 12, .inl (γ.2.1.1, 20, .inl (upd (μ 12) i x))) = wM γ a (stU μ 12 i x) ++ r := rfl
theorem cM_12 {γ : Gd} {a : Nat → Nat} {μ : St} {r : va_W} {f : Nat → Int32} : (wM γ a μ ++ r).set 12 (a 12, .inl (γ.2.1.1, 20, .inl f)) = wM γ a (stC μ 12 f) ++ r := rfl
theorem sM_13 {γ : Gd} {a : Nat → Nat} {μ : St} {r : va_W} {i : Nat} {x : Int32} : (wM γ a μ ++ r).set 13 (a 13, .inl (γ.2.1.2.1, 20, .inl (upd (μ 13) i x))) = wM γ a (stU μ 13 i x) ++ r := rfl
theorem sM_14 {γ : Gd} {a : Nat → Nat} {μ : St} {r : va_W} {i : Nat} {x : Int32} : (wM γ a μ ++ r).set 14 (a 14, .inl (γ.2.1.1, 20, .inl (upd (μ 14) i x))) = wM γ a (stU μ 14 i x) ++ r := rfl
theorem cM_14 {γ : Gd} {a : Nat → Nat} {μ : St} {r : va_W} {f : Nat → Int32} : (wM γ a μ ++ r).set 14 (a 14, .inl (γ.2.1.1, 20, .inl f)) = wM γ a (stC μ 14 f) ++ r := rfl
theorem sM_15 {γ : Gd} {a : Nat → Nat} {μ : St} {r : va_W} {i : Nat} {x : Int32} : (wM γ a μ ++ r).set 15 (a 15, .inl (γ.2.1.1, 2, .inl (upd (μ 15) i x))) = wM γ a (stU μ 15 i x) ++ r := rfl
theorem cM_15 {γ : Gd} {a : Nat → Nat} {μ : St} {r : va_W} {f : Nat → Int32} : (wM γ a μ ++ r).set 15 (a 15, .inl (γ.2.1.1, 2, .inl f)) = wM γ a (stC μ 15 f) ++ r := rfl
theorem sM_16 {γ : Gd} {a : Nat → Nat} {μ : St} {r : va_W} {i : Nat} {x : Int32} : (wM γ a μ ++ r).set 16 (a 16, .inl (γ.2.1.1, 6, .inl (upd (μ 16) i x))) = wM γ a (stU μ 16 i x) ++ r := rfl
theorem cM_16 {γ : Gd} {a : Nat → Nat} {μ : St} {r : va_W} {f : Nat → Int32} : (wM γ a μ ++ r).set 16 (a 16, .inl (γ.2.1.1, 6, .inl f)) = wM γ a (stC μ 16 f) ++ r := rfl
theorem sM_17 {γ : Gd} {a : Nat → Nat} {μ : St} {r : va_W} {i : Nat} {x : Int32} : (wM γ a μ ++ r).set 17 (a 17, .inl (γ.2.1.1, 20, .inl (upd (μ 17) i x))) = wM γ a (stU μ 17 i x) ++ r := rfl
theorem cM_17 {γ : Gd} {a : Nat → Nat} {μ : St} {r : va_W} {f : Nat → Int32} : (wM γ a μ ++ r).set 17 (a 17, .inl (γ.2.1.1, 20, .inl f)) = wM γ a (stC μ 17 f) ++ r := rfl
def wP (γ : Gd) (a : Nat → Nat) (π : St × Int64) : va_W := [(a 0, .inr (6, [.int (π.1 0 0), .int (π.1 0 1), .int (π.1 0 2), .long π.2, .ref (a 1)])), (a 1, .inl (γ.2.1.1, 20, .inl (π.1 1)))]
theorem sP_0_0 {γ : Gd} {a : Nat → Nat} {π : St × Int64} {r : va_W} {x : Int32} : (wP γ a π ++ r).set 0 (a 0, .inr (6, ([.int (π.1 0 0), .int (π.1 0 1), .int (π.1 0 2), .long π.2, .ref (a 1)] : List Value).set 0 (.int x))) = wP γ a (stU π.1 0 0 x, π.2) ++ r := rfl
theorem sP_0_1 {γ : Gd} {a : Nat → Nat} {π : St × Int64} {r : va_W} {x : Int32} : (wP γ a π ++ r).set 0 (a 0, .inr (6, ([.int (π.1 0 0), .int (π.1 0 1), .int (π.1 0 2), .long π.2, .ref (a 1)] : List Value).set 1 (.int x))) = wP γ a (stU π.1 0 1 x, π.2) ++ r := rfl
theorem sP_0_2 {γ : Gd} {a : Nat → Nat} {π : St × Int64} {r : va_W} {x : Int32} : (wP γ a π ++ r).set 0 (a 0, .inr (6, ([.int (π.1 0 0), .int (π.1 0 1), .int (π.1 0 2), .long π.2, .ref (a 1)] : List Value).set 2 (.int x))) = wP γ a (stU π.1 0 2 x, π.2) ++ r := rfl
theorem sP_0_3 {γ : Gd} {a : Nat → Nat} {π : St × Int64} {r : va_W} {x : Int64} : (wP γ a π ++ r).set 0 (a 0, .inr (6, ([.int (π.1 0 0), .int (π.1 0 1), .int (π.1 0 2), .long π.2, .ref (a 1)] : List Value).set 3 (.long x))) = wP γ a (π.1, x) ++ r := rfl
theorem sP_1 {γ : Gd} {a : Nat → Nat} {π : St × Int64} {r : va_W} {i : Nat} {x : Int32} : (wP γ a π ++ r).set 1 (a 1, .inl (γ.2.1.1, 20, .inl (upd (π.1 1) i x))) = wP γ a (stU π.1 1 i x, π.2) ++ r := rfl
def wN (a b : Nat) (ν : Nat → Int32) : va_W := [(a, .inr (5, [.ref b, .int (ν 1), .int (ν 2), .int (ν 3), .int (ν 4)]))]
def wR (a b : Nat) : va_W := [(a, .inr (7, [.ref b]))]
def wS (s b t n q d p : Nat) : va_W := [(s, .inr (9, [.ref b, .ref t, .ref n, .ref q, .ref d, .ref p]))]
def wO (γ : Gd) (u : Nat) (ω : Nat → Int64) : va_W := [(u, .inl (γ.2.1.2.2, 1, .inr (.inl ω)))]
end
section
/-! names for values and states: what a spec binds by 'sl', the walk may forget -/
def sl {α β : Type} (a : α) (f : α → Option β) : Option β := f a
section GLU
variable {l : Launch} {γ : Gd} {X : CX} {M : MX} {w w' : va_W} {L L' : List (Option Value)} {cs ss pc : Nat} {st : List Value}
theorem r_nmI {α : Type} {u : α} {x : Int32} {f : Int32 → Option α} (hR : some u = sl x f) (k : ∀ x1 : Int32, some u = f x1 → V l γ X M w L cs ss pc (.int x1 :: st)) : V l γ X M w L cs ss pc (.int x :: st) := k x hR
theorem r_nmL {α : Type} {u : α} {x : Int64} {f : Int64 → Option α} (hR : some u = sl x f) (k : ∀ x1 : Int64, some u = f x1 → V l γ X M w L cs ss pc (.long x1 :: st)) : V l γ X M w L cs ss pc (.long x :: st) := k x hR
theorem r_nmS {S α : Type} {u : α} {s : S} {f : S → Option α} (wf : S → va_W) (hR : some u = sl s f) (k : ∀ s1 : S, some u = f s1 → V l γ X M (wf s1) L cs ss pc st) : V l γ X M (wf s) L cs ss pc st := k s hR
/-- locals that nobody reads any more -/
def msk : List Bool → List (Option Value) → List (Option Value)
  | true :: b, o :: t => o :: msk b t
  | false :: b, _ :: t => none :: msk b t
  | _, _ => []
theorem msk_get : ∀ (b : List Bool) (L : List (Option Value)) (k : Nat) (v : Value), (msk b L)[k]? = some (some v) → L[k]? = some (some v)
  | [], _, _, _, h => by simp [msk] at h
  | true :: _, [], _, _, h => by simp [msk] at h
  | false :: _, [], _, _, h => by simp [msk] at h
  | true :: b, o :: t, 0, v, h => by simpa [msk] using h
  | true :: b, o :: t, k + 1, v, h => by
    simp only [msk, List.getElem?_cons_succ] at h ⊢
    exact msk_get b t k v h
  | false :: b, o :: t, 0, v, h => by simp [msk] at h
  | false :: b, o :: t, k + 1, v, h => by
    simp only [msk, List.getElem?_cons_succ] at h ⊢
    exact msk_get b t k v h
theorem r_msk (b : List Bool) (L' : List (Option Value)) (hL : msk b L = L') (k : V l γ X M w L' cs ss pc st) : V l γ X M w L cs ss pc st := by
  intro H locs ls hP hD hS hl
  refine k H locs ls hP hD hS (lvs_weak hl (fun q hq => ?_))
  subst hL
  obtain ⟨j, h1, h2⟩ := lvs_mem.mp hq
  exact lvs_mem.mpr ⟨j, msk_get _ _ _ _ h1, h2⟩
end GLU
/-! the ends -/
theorem lfi {S : Type} (wf : S → va_W) {v x : Int32} {s1 s2 : S} (h : some (v, s1) = some (x, s2)) : Pr (some (.int v)) (wf s1) (.inl (some (.int x))) (wf s2) := by cases h; exact ⟨rfl, rfl⟩
theorem lfi0 {w : va_W} {v x : Int32} (h : some v = some x) : Pr (some (.int v)) w (.inl (some (.int x))) w := by cases h; exact ⟨rfl, rfl⟩
theorem lfl0 {w : va_W} {v x : Int64} (h : some v = some x) : Pr (some (.long v)) w (.inl (some (.long x))) w := by cases h; exact ⟨rfl, rfl⟩
theorem lfv {S : Type} (wf : S → va_W) {s1 s2 : S} (h : some s1 = some s2) : Pr none (wf s1) (.inl none) (wf s2) := by cases h; exact ⟨rfl, rfl⟩
theorem lfv0 {w : va_W} : Pr none w (.inl none) w := ⟨rfl, rfl⟩
/-! methods that may throw: the outcome is known by the spec -/
def mcz {α : Type} : α ⊕ Nat → Nat
  | .inl _ => 0
  | .inr _ => 1
def msz {α : Type} : α ⊕ Nat → Nat
  | .inl _ => 0
  | .inr _ => 6
def Pzi {S : Type} (wf : S → va_W) (w0 : va_W) : (Int32 × S) ⊕ Nat → Ro → va_W → Prop
  | .inl (v, s) => Pr (some (.int v)) (wf s)
  | .inr k => Px k w0
def Pzi0 (w0 : va_W) : Int32 ⊕ Nat → Ro → va_W → Prop
  | .inl v => Pr (some (.int v)) w0
  | .inr k => Px k w0
def Pzv0 (w0 : va_W) : Unit ⊕ Nat → Ro → va_W → Prop
  | .inl _ => Pr none w0
  | .inr k => Px k w0
theorem lzi {S : Type} (wf : S → va_W) (w0 : va_W) {z : (Int32 × S) ⊕ Nat} {x : Int32} {s2 : S} (h : some z = some (.inl (x, s2))) : Pzi wf w0 z (.inl (some (.int x))) (wf s2) := by cases h; exact ⟨rfl, rfl⟩
theorem lzi0 {w0 : va_W} {z : Int32 ⊕ Nat} {x : Int32} (h : some z = some (.inl x)) : Pzi0 w0 z (.inl (some (.int x))) w0 := by cases h; exact ⟨rfl, rfl⟩
theorem lzv0 {w0 : va_W} {z : Unit ⊕ Nat} (h : some z = some (.inl ())) : Pzv0 w0 z (.inl none) w0 := by cases h; exact ⟨rfl, rfl⟩
theorem lxi {S : Type} (wf : S → va_W) {w0 : va_W} {z : (Int32 × S) ⊕ Nat} {k : Nat} (h : z = .inr k) : Pzi wf w0 z (.inr k) w0 := by cases h; exact ⟨rfl, rfl⟩
theorem lxi0 {w0 : va_W} {z : Int32 ⊕ Nat} {k : Nat} (h : z = .inr k) : Pzi0 w0 z (.inr k) w0 := by cases h; exact ⟨rfl, rfl⟩
theorem lxv0 {w0 : va_W} {z : Unit ⊕ Nat} {k : Nat} (h : z = .inr k) : Pzv0 w0 z (.inr k) w0 := by cases h; exact ⟨rfl, rfl⟩
theorem zc {α : Type} {z : α ⊕ Nat} {k : Nat} (h : z = .inr k) : 0 + 1 ≤ mcz z := by cases h; exact Nat.le_refl _
theorem zs {α : Type} {z : α ⊕ Nat} {k : Nat} (h : z = .inr k) : 0 + 6 ≤ msz z := by cases h; exact Nat.le_refl _
end
section
section GL2
variable {l : Launch} {γ : Gd} {X : CX} {M : MX} {w w' : va_W} {L L' : List (Option Value)} {cs ss : Nat} {st : List Value} {y : MethodName} {cc : ByteArray} {own : String} {nL : Nat} {rm : Room} {ret : Option FieldType} {tb : List ExceptionTableEntry}
theorem r_cVi (pc q0 : Nat) (As : List Value) (rest : List Value) (x : Int32) (w2 : va_W) (K : KX l γ X M y cc own nL rm ret tb) {ix nz n a ci N : Nat} {z : MethodName} {cz : ByteArray} {rz : Option FieldType} {rmz : Room} {T : u_T} {fs : List Value}
    (hC : Ct l γ z (Cond.code z cz nz rz) rmz (.ref a :: As) w (Pr (some (.int x)) w2) 0 0) (cs9 : CsV own ix z cz nz rz n) (hr : rmOk rm rmz nz 0 0) (d : decode cc pc = .ok (.invokevirtual ix, 3))
    (he : w[q0]? = some (a, .inr (ci, fs))) (hc : clX[ci]? = some (z.cls, T, N)) (hn : As.length = n) (hst : st = As.reverse ++ .ref a :: rest) (hcat : Nat.ble (rest.map fun v => v.category).sum 8 = true) (hf : (Nat.ble cs rm.cells && Nat.ble ss rm.slots) = true)
    (kk : V l γ X M w2 L cs ss (pc + 3) (.int x :: rest)) : V l γ X M w L cs ss pc st := r_cV pc q0 As rest (some (.int x)) w2 K hC cs9 hr d he hc hn hst hcat hf kk
theorem r_cVl (pc q0 : Nat) (As : List Value) (rest : List Value) (x : Int64) (w2 : va_W) (K : KX l γ X M y cc own nL rm ret tb) {ix nz n a ci N : Nat} {z : MethodName} {cz : ByteArray} {rz : Option FieldType} {rmz : Room} {T : u_T} {fs : List Value}
    (hC : Ct l γ z (Cond.code z cz nz rz) rmz (.ref a :: As) w (Pr (some (.long x)) w2) 0 0) (cs9 : CsV own ix z cz nz rz n) (hr : rmOk rm rmz nz 0 0) (d : decode cc pc = .ok (.invokevirtual ix, 3))
    (he : w[q0]? = some (a, .inr (ci, fs))) (hc : clX[ci]? = some (z.cls, T, N)) (hn : As.length = n) (hst : st = As.reverse ++ .ref a :: rest) (hcat : Nat.ble (rest.map fun v => v.category).sum 8 = true) (hf : (Nat.ble cs rm.cells && Nat.ble ss rm.slots) = true)
    (kk : V l γ X M w2 L cs ss (pc + 3) (.long x :: rest)) : V l γ X M w L cs ss pc st := r_cV pc q0 As rest (some (.long x)) w2 K hC cs9 hr d he hc hn hst hcat hf kk
theorem r_cVv (pc q0 : Nat) (As : List Value) (rest : List Value) (w2 : va_W) (K : KX l γ X M y cc own nL rm ret tb) {ix nz n a ci N : Nat} {z : MethodName} {cz : ByteArray} {rz : Option FieldType} {rmz : Room} {T : u_T} {fs : List Value}
    (hC : Ct l γ z (Cond.code z cz nz rz) rmz (.ref a :: As) w (Pr none w2) 0 0) (cs9 : CsV own ix z cz nz rz n) (hr : rmOk rm rmz nz 0 0) (d : decode cc pc = .ok (.invokevirtual ix, 3))
    (he : w[q0]? = some (a, .inr (ci, fs))) (hc : clX[ci]? = some (z.cls, T, N)) (hn : As.length = n) (hst : st = As.reverse ++ .ref a :: rest) (hcat : Nat.ble (rest.map fun v => v.category).sum 8 = true) (hf : (Nat.ble cs rm.cells && Nat.ble ss rm.slots) = true)
    (kk : V l γ X M w2 L cs ss (pc + 3) rest) : V l γ X M w L cs ss pc st := r_cV pc q0 As rest none w2 K hC cs9 hr d he hc hn hst hcat hf kk
theorem r_cSi (pc : Nat) (As : List Value) (rest : List Value) (x : Int32) (w2 : va_W) (K : KX l γ X M y cc own nL rm ret tb) {ix nz n : Nat} {z : MethodName} {cz : ByteArray} {rz : Option FieldType} {rmz : Room}
    (hC : Ct l γ z (Cond.code z cz nz rz) rmz As w (Pr (some (.int x)) w2) 0 0) (cs9 : CsS own ix z cz nz rz n) (hr : rmOk rm rmz nz 0 0) (d : decode cc pc = .ok (.invokestatic ix, 3))
    (hn : As.length = n) (hst : st = As.reverse ++ rest) (hcat : Nat.ble (rest.map fun v => v.category).sum 8 = true) (hf : (Nat.ble cs rm.cells && Nat.ble ss rm.slots) = true)
    (kk : V l γ X M w2 L cs ss (pc + 3) (.int x :: rest)) : V l γ X M w L cs ss pc st := r_cS pc As rest (some (.int x)) w2 K hC cs9 hr d hn hst hcat hf kk
theorem r_cSv (pc : Nat) (As : List Value) (rest : List Value) (w2 : va_W) (K : KX l γ X M y cc own nL rm ret tb) {ix nz n : Nat} {z : MethodName} {cz : ByteArray} {rz : Option FieldType} {rmz : Room}
    (hC : Ct l γ z (Cond.code z cz nz rz) rmz As w (Pr none w2) 0 0) (cs9 : CsS own ix z cz nz rz n) (hr : rmOk rm rmz nz 0 0) (d : decode cc pc = .ok (.invokestatic ix, 3))
    (hn : As.length = n) (hst : st = As.reverse ++ rest) (hcat : Nat.ble (rest.map fun v => v.category).sum 8 = true) (hf : (Nat.ble cs rm.cells && Nat.ble ss rm.slots) = true)
    (kk : V l γ X M w2 L cs ss (pc + 3) rest) : V l γ X M w L cs ss pc st := r_cS pc As rest none w2 K hC cs9 hr d hn hst hcat hf kk
end GL2
theorem i32_ne {x v : Int32} (k : Int) (h : ¬ x = v) (hv : v.toInt = k) : x.toInt ≠ k := fun e => h (Int32.toInt_inj.mp (e.trans hv.symm))
end
section
theorem cs_L_114 : CsI RL 114 yX9_init cX9_init 1 0 := ⟨w24, w25, rfl, w1, w26, by decide +kernel⟩
theorem cs_X9_11 : CsI RX9 11 yX0_init cX0_init 1 0 := ⟨w32, w33, rfl, w2, w34, by decide +kernel⟩
theorem cs_X0_11 : CsI RX0 11 yX2_init cX2_init 1 0 := ⟨w38, w39, rfl, w3, w40, by decide +kernel⟩
theorem cs_X2_18 : CsS RX2 18 yJ7_fill_53178 cJ7_fill_53178 4 none 2 := ⟨w42, w43, w4, w44, by decide +kernel⟩
theorem cs_X0_20 : CsI RX0 20 yX8_init cX8_init 1 0 := ⟨w91, w92, rfl, w5, w93, by decide +kernel⟩
theorem cs_X0_27 : CsI RX0 27 yX4_init cX4_init 1 0 := ⟨w118, w119, rfl, w6, w120, by decide +kernel⟩
theorem cs_X0_34 : CsI RX0 34 yX1_init cX1_init 1 0 := ⟨w168, w169, rfl, w7, w170, by decide +kernel⟩
theorem cs_X9_21 : CsI RX9 21 yX5_init cX5_init 2 1 := ⟨w246, w247, rfl, w8, w248, by decide +kernel⟩
theorem cs_X9_30 : CsI RX9 30 yX7_init cX7_init 2 1 := ⟨w268, w269, rfl, w9, w270, by decide +kernel⟩
theorem cs_X9_37 : CsI RX9 37 yX3_init cX3_init 1 0 := ⟨w278, w279, rfl, w10, w280, by decide +kernel⟩
theorem cs_X9_44 : CsI RX9 44 yX6_init cX6_init 1 0 := ⟨w299, w300, rfl, w11, w301, by decide +kernel⟩
theorem cs_L_7 : CsV RL 7 yX9_shore cX9_shore 4 (some .int) 2 := ⟨w347, w348, w349, w1, w350, by decide +kernel⟩
theorem cs_X9_49 : CsS RX9 49 yX9_needNumber cX9_needNumber 2 none 2 := ⟨w351, w352, w1, w353, by decide +kernel⟩
theorem cs_X9_53 : CsS RX9 53 yX9_needRange cX9_needRange 3 none 3 := ⟨w422, w423, w1, w424, by decide +kernel⟩
theorem cs_X9_72 : CsV RX9 72 yX8_isAnyAt cX8_isAnyAt 3 (some .boolean) 1 := ⟨w457, w458, w459, w5, w460, by decide +kernel⟩
theorem cs_X9_82 : CsV RX9 82 yX4_isSkimmerAt cX4_isSkimmerAt 3 (some .boolean) 1 := ⟨w461, w462, w463, w6, w464, by decide +kernel⟩
theorem cs_X4_41 : CsV RX4 41 yX4_isSkimmer cX4_isSkimmer 3 (some .boolean) 2 := ⟨w465, w466, w467, w6, w468, by decide +kernel⟩
theorem cs_X9_99 : CsV RX9 99 yX2_become cX2_become 3 none 2 := ⟨w470, w471, w472, w3, w473, by decide +kernel⟩
theorem cs_L_19 : CsV RL 19 yX9_depth cX9_depth 4 (some .int) 2 := ⟨w477, w478, w479, w1, w480, by decide +kernel⟩
theorem cs_X9_102 : CsV RX9 102 yX9_needWater cX9_needWater 2 none 1 := ⟨w481, w483, wp1, w1, w484, by decide +kernel⟩
theorem cs_X9_291 : CsV RX9 291 yX2_isWater cX2_isWater 2 (some .boolean) 1 := ⟨w485, w486, w487, w3, w488, by decide +kernel⟩
theorem cs_L_22 : CsV RL 22 yX9_wind cX9_wind 4 (some .int) 2 := ⟨w493, w494, w495, w1, w496, by decide +kernel⟩
theorem cs_L_25 : CsV RL 25 yX9_ship cX9_ship 3 (some .int) 2 := ⟨w500, w501, w502, w1, w503, by decide +kernel⟩
theorem cs_X9_121 : CsV RX9 121 yX8_add cX8_add 4 (some .int) 2 := ⟨w506, w507, w508, w5, w509, by decide +kernel⟩
theorem cs_L_28 : CsV RL 28 yX9_hole cX9_hole 4 (some .int) 2 := ⟨w513, w514, w515, w1, w516, by decide +kernel⟩
theorem cs_L_31 : CsV RL 31 yX9_pump cX9_pump 5 (some .int) 3 := ⟨w520, w521, w522, w1, w523, by decide +kernel⟩
theorem cs_L_35 : CsV RL 35 yX9_shipHas cX9_shipHas 2 (some .int) 1 := ⟨w529, w530, w531, w1, w532, by decide +kernel⟩
theorem cs_L_39 : CsV RL 39 yX9_pass cX9_pass 2 (some .int) 1 := ⟨w536, w537, w538, w1, w539, by decide +kernel⟩
theorem cs_X9_140 : CsV RX9 140 yX0_letPass cX0_letPass 3 none 1 := ⟨w541, w542, w543, w2, w544, by decide +kernel⟩
theorem cs_X0_66 : CsV RX0 66 yX0_leak cX0_leak 4 none 0 := ⟨w545, w547, wp2, w2, w548, by decide +kernel⟩
theorem cs_X0_75 : CsS RX0 75 yX0_tideOf cX0_tideOf 2 (some .int) 1 := ⟨w549, w550, w2, w551, by decide +kernel⟩
theorem cs_X0_91 : CsV RX0 91 yX8_leakOf cX8_leakOf 4 (some .int) 2 := ⟨w552, w553, w554, w5, w555, by decide +kernel⟩
theorem cs_X0_104 : CsV RX0 104 yX1_noteLeak cX1_noteLeak 3 none 2 := ⟨w559, w560, w561, w7, w562, by decide +kernel⟩
theorem cs_X0_69 : CsV RX0 69 yX0_weather cX0_weather 5 none 0 := ⟨w563, w565, wp3, w2, w566, by decide +kernel⟩
theorem cs_X0_72 : CsV RX0 72 yX0_drift cX0_drift 2 none 0 := ⟨w567, w569, wp4, w2, w570, by decide +kernel⟩
theorem cs_X0_117 : CsV RX0 117 yX0_findWhatGoes cX0_findWhatGoes 6 none 1 := ⟨w571, w573, wp5, w2, w574, by decide +kernel⟩
theorem cs_X0_127 : CsV RX0 127 yX0_roomBehind cX0_roomBehind 3 (some .int) 1 := ⟨w575, w576, w577, w2, w578, by decide +kernel⟩
theorem cs_X0_121 : CsS RX0 121 yX2_beside cX2_beside 4 (some .int) 2 := ⟨w579, w580, w3, w581, by decide +kernel⟩
theorem cs_X0_147 : CsV RX0 147 yX2_isWater cX2_isWater 2 (some .boolean) 1 := ⟨w582, w486, w487, w3, w488, by decide +kernel⟩
theorem cs_X0_152 : CsV RX0 152 yX2_roomOf cX2_roomOf 2 (some .int) 1 := ⟨w584, w585, w586, w3, w587, by decide +kernel⟩
theorem cs_X0_130 : CsV RX0 130 yX0_blown cX0_blown 3 (some .int) 2 := ⟨w590, w591, w592, w2, w593, by decide +kernel⟩
theorem cs_X0_133 : CsV RX0 133 yX4_boomOn cX4_boomOn 6 (some .int) 2 := ⟨w595, w596, w597, w6, w598, by decide +kernel⟩
theorem cs_X4_45 : CsS RX4 45 yX2_beside cX2_beside 4 (some .int) 2 := ⟨w599, w580, w3, w581, by decide +kernel⟩
theorem cs_X4_51 : CsS RX4 51 yX2_opposite cX2_opposite 1 (some .int) 1 := ⟨w600, w601, w3, w602, by decide +kernel⟩
theorem cs_X0_124 : CsV RX0 124 yX0_letGo cX0_letGo 5 none 2 := ⟨w603, w605, wp6, w2, w606, by decide +kernel⟩
theorem cs_X0_79 : CsV RX0 79 yX0_giveBack cX0_giveBack 4 none 0 := ⟨w607, w609, wp7, w2, w610, by decide +kernel⟩
theorem cs_X0_161 : CsV RX0 161 yX2_lowestWaterBeside cX2_lowestWaterBeside 5 (some .int) 1 := ⟨w611, w612, w613, w3, w614, by decide +kernel⟩
theorem cs_X2_42 : CsS RX2 42 yX2_beside cX2_beside 4 (some .int) 2 := ⟨w615, w580, w3, w581, by decide +kernel⟩
theorem cs_X2_46 : CsV RX2 46 yX2_isWater cX2_isWater 2 (some .boolean) 1 := ⟨w616, w486, w487, w3, w488, by decide +kernel⟩
theorem cs_X0_164 : CsV RX0 164 yX2_backOf cX2_backOf 4 (some .int) 2 := ⟨w617, w618, w619, w3, w620, by decide +kernel⟩
theorem cs_X0_82 : CsV RX0 82 yX0_skim cX0_skim 5 none 0 := ⟨w623, w625, wp8, w2, w626, by decide +kernel⟩
theorem cs_X0_172 : CsV RX0 172 yX4_freshTaken cX4_freshTaken 4 (some .int) 2 := ⟨w627, w628, w629, w6, w630, by decide +kernel⟩
theorem cs_X0_175 : CsV RX0 175 yX4_thickTaken cX4_thickTaken 5 (some .int) 3 := ⟨w632, w633, w634, w6, w635, by decide +kernel⟩
theorem cs_X0_85 : CsV RX0 85 yX0_harmShores cX0_harmShores 2 none 0 := ⟨w636, w638, wp9, w2, w639, by decide +kernel⟩
theorem cs_X0_179 : CsV RX0 179 yX2_oilBirds cX2_oilBirds 3 none 1 := ⟨w640, w641, w642, w3, w643, by decide +kernel⟩
theorem cs_X0_182 : CsV RX0 182 yX2_isTooDirty cX2_isTooDirty 2 (some .boolean) 1 := ⟨w645, w646, w647, w3, w648, by decide +kernel⟩
theorem cs_L_42 : CsV RL 42 yX9_at cX9_at 4 (some .int) 2 := ⟨w652, w653, w654, w1, w655, by decide +kernel⟩
theorem cs_X9_161 : CsV RX9 161 yX2_isClean cX2_isClean 2 (some .boolean) 1 := ⟨w656, w657, w658, w3, w659, by decide +kernel⟩
theorem cs_X2_56 : CsS RX2 56 yJ6_bitCount_0f7a4 cJ6_bitCount_0f7a4 1 (some .int) 1 := ⟨w660, w661, w20, w662, by decide +kernel⟩
theorem cs_L_45 : CsV RL 45 yX9_boom cX9_boom 5 (some .int) 3 := ⟨w669, w670, w671, w1, w672, by decide +kernel⟩
theorem cs_X9_164 : CsV RX9 164 yX4_boomOn cX4_boomOn 6 (some .int) 2 := ⟨w673, w596, w597, w6, w598, by decide +kernel⟩
theorem cs_X9_169 : CsV RX9 169 yX9_needRoomForMeans cX9_needRoomForMeans 1 none 0 := ⟨w675, w677, wp10, w1, w678, by decide +kernel⟩
theorem cs_X9_172 : CsV RX9 172 yX4_add cX4_add 5 (some .int) 3 := ⟨w680, w681, w682, w6, w683, by decide +kernel⟩
theorem cs_L_48 : CsV RL 48 yX9_skimmer cX9_skimmer 5 (some .int) 3 := ⟨w687, w688, w689, w1, w690, by decide +kernel⟩
theorem cs_L_51 : CsV RL 51 yX9_team cX9_team 4 (some .int) 2 := ⟨w694, w695, w696, w1, w697, by decide +kernel⟩
theorem cs_L_55 : CsV RL 55 yX9_move cX9_move 4 (some .int) 2 := ⟨w701, w702, w703, w1, w704, by decide +kernel⟩
theorem cs_X9_186 : CsV RX9 186 yX9_needSort cX9_needSort 3 none 2 := ⟨w705, w707, wp11, w1, w708, by decide +kernel⟩
theorem cs_L_58 : CsV RL 58 yX9_carry cX9_carry 3 (some .int) 1 := ⟨w713, w714, w715, w1, w716, by decide +kernel⟩
theorem cs_L_61 : CsV RL 61 yX9_teach cX9_teach 3 (some .boolean) 1 := ⟨w720, w721, w722, w1, w723, by decide +kernel⟩
theorem cs_L_65 : CsV RL 65 yX9_clean cX9_clean 4 (some .int) 2 := ⟨w727, w728, w729, w1, w730, by decide +kernel⟩
theorem cs_X9_198 : CsV RX9 198 yX9_needShore cX9_needShore 2 none 1 := ⟨w731, w733, wp12, w1, w734, by decide +kernel⟩
theorem cs_X9_201 : CsV RX9 201 yX4_canWork cX4_canWork 3 (some .boolean) 2 := ⟨w736, w737, w738, w6, w739, by decide +kernel⟩
theorem cs_X4_60 : CsV RX4 60 yX4_hasRested cX4_hasRested 3 (some .boolean) 2 := ⟨w740, w742, wp13, w6, w743, by decide +kernel⟩
theorem cs_X9_207 : CsV RX9 207 yX4_noteWork cX4_noteWork 3 none 2 := ⟨w745, w746, w747, w6, w748, by decide +kernel⟩
theorem cs_L_68 : CsV RL 68 yX9_meanIs cX9_meanIs 3 (some .int) 2 := ⟨w753, w754, w755, w1, w756, by decide +kernel⟩
theorem cs_L_71 : CsV RL 71 yX9_use cX9_use 3 (some .int) 2 := ⟨w760, w761, w762, w1, w763, by decide +kernel⟩
theorem cs_X9_221 : CsV RX9 221 yX7_howMany cX7_howMany 5 (some .int) 2 := ⟨w764, w765, w766, w9, w767, by decide +kernel⟩
theorem cs_X7_45 : CsV RX7 45 yX7_isAgainst cX7_isAgainst 6 (some .boolean) 3 := ⟨w768, w770, wp14, w9, w771, by decide +kernel⟩
theorem cs_X7_30 : CsV RX7 30 yX0_hasLeakedWithin cX0_hasLeakedWithin 2 (some .boolean) 1 := ⟨w772, w773, w774, w2, w775, by decide +kernel⟩
theorem cs_X7_41 : CsV RX7 41 yX2_isKindBeside cX2_isKindBeside 6 (some .boolean) 3 := ⟨w776, w777, w778, w3, w779, by decide +kernel⟩
theorem cs_X9_226 : CsV RX9 226 yX0_disperse cX0_disperse 3 (some .int) 1 := ⟨w781, w782, w783, w2, w784, by decide +kernel⟩
theorem cs_X9_230 : CsV RX9 230 yX0_burn cX0_burn 3 (some .int) 1 := ⟨w785, w786, w787, w2, w788, by decide +kernel⟩
theorem cs_L_74 : CsV RL 74 yX9_why cX9_why 4 (some .int) 3 := ⟨w792, w793, w794, w1, w795, by decide +kernel⟩
theorem cs_X9_233 : CsV RX9 233 yX7_first cX7_first 4 (some .int) 2 := ⟨w796, w797, w798, w9, w799, by decide +kernel⟩
theorem cs_X9_236 : CsV RX9 236 yX7_last cX7_last 4 (some .int) 2 := ⟨w800, w801, w802, w9, w803, by decide +kernel⟩
theorem cs_L_77 : CsV RL 77 yX9_birds cX9_birds 3 (some .int) 2 := ⟨w807, w808, w809, w1, w810, by decide +kernel⟩
theorem cs_L_80 : CsV RL 80 yX9_wash cX9_wash 4 (some .int) 2 := ⟨w815, w816, w817, w1, w818, by decide +kernel⟩
theorem cs_L_83 : CsV RL 83 yX9_sign cX9_sign 4 (some .boolean) 2 := ⟨w822, w823, w824, w1, w825, by decide +kernel⟩
theorem cs_X9_241 : CsV RX9 241 yX2_isTooDirty cX2_isTooDirty 2 (some .boolean) 1 := ⟨w826, w646, w647, w3, w648, by decide +kernel⟩
theorem cs_L_87 : CsV RL 87 yX9_site cX9_site 3 (some .int) 2 := ⟨w832, w833, w834, w1, w835, by decide +kernel⟩
theorem cs_X9_253 : CsV RX9 253 yX3_addSite cX3_addSite 4 (some .int) 2 := ⟨w837, w838, w839, w10, w840, by decide +kernel⟩
theorem cs_L_90 : CsV RL 90 yX9_deliver cX9_deliver 4 (some .int) 3 := ⟨w844, w845, w846, w1, w847, by decide +kernel⟩
theorem cs_X9_256 : CsV RX9 256 yX3_roomFor cX3_roomFor 3 (some .int) 2 := ⟨w848, w849, w850, w10, w851, by decide +kernel⟩
theorem cs_X9_261 : CsV RX9 261 yX3_take cX3_take 4 none 3 := ⟨w853, w854, w855, w10, w856, by decide +kernel⟩
theorem cs_L_93 : CsV RL 93 yX9_waste cX9_waste 2 (some .int) 1 := ⟨w860, w861, w862, w1, w863, by decide +kernel⟩
theorem cs_L_96 : CsV RL 96 yX9_claim cX9_claim 2 (some .int) 1 := ⟨w867, w868, w869, w1, w870, by decide +kernel⟩
theorem cs_X9_268 : CsV RX9 268 yX6_add cX6_add 3 (some .int) 1 := ⟨w873, w874, w875, w11, w876, by decide +kernel⟩
theorem cs_L_99 : CsV RL 99 yX9_layers cX9_layers 4 (some .int) 2 := ⟨w880, w881, w882, w1, w883, by decide +kernel⟩
theorem cs_L_102 : CsV RL 102 yX9_due cX9_due 7 (some .int) 2 := ⟨w888, w889, w890, w1, w891, by decide +kernel⟩
theorem cs_X9_277 : CsV RX9 277 yX6_getsOf cX6_getsOf 2 (some .long) 1 := ⟨w892, w893, w894, w11, w895, by decide +kernel⟩
theorem cs_X6_35 : CsV RX6 35 yX6_allGet cX6_allGet 1 (some .long) 0 := ⟨w896, w898, wp15, w11, w899, by decide +kernel⟩
theorem cs_X9_281 : CsV RX9 281 yX6_ownersPartOf cX6_ownersPartOf 5 (some .long) 1 := ⟨w903, w904, w905, w11, w906, by decide +kernel⟩
theorem cs_L_105 : CsV RL 105 yX9_ahead cX9_ahead 3 (some .int) 2 := ⟨w910, w911, w912, w1, w913, by decide +kernel⟩
theorem cs_X9_285 : CsV RX9 285 yX0_becomeLike cX0_becomeLike 2 none 1 := ⟨w914, w915, w916, w2, w917, by decide +kernel⟩
theorem cs_X0_50 : CsV RX0 50 yX2_becomeLike cX2_becomeLike 2 none 1 := ⟨w918, w919, w920, w3, w921, by decide +kernel⟩
theorem cs_X0_54 : CsV RX0 54 yX8_becomeLike cX8_becomeLike 2 none 1 := ⟨w925, w926, w927, w5, w928, by decide +kernel⟩
theorem cs_X0_57 : CsV RX0 57 yX4_becomeLike cX4_becomeLike 2 none 1 := ⟨w930, w931, w932, w6, w933, by decide +kernel⟩
theorem cs_X9_288 : CsV RX9 288 yX2_oilOf cX2_oilOf 2 (some .int) 1 := ⟨w935, w936, w937, w3, w938, by decide +kernel⟩
theorem cs_L_108 : CsV RL 108 yX9_nextAnew cX9_nextAnew 2 (some .int) 1 := ⟨w942, w943, w944, w1, w945, by decide +kernel⟩
theorem cs_X9_294 : CsV RX9 294 yX5_floatingOf cX5_floatingOf 6 (some .int) 1 := ⟨w946, w947, w948, w8, w949, by decide +kernel⟩
theorem cs_X5_15 : CsV RX5 15 yX5_weigh cX5_weigh 8 none 1 := ⟨w950, w952, wp16, w8, w953, by decide +kernel⟩
theorem cs_X5_78 : CsV RX5 78 yX5_leaksInto cX5_leaksInto 5 (some .int) 1 := ⟨w954, w956, wp17, w8, w957, by decide +kernel⟩
theorem cs_X5_71 : CsS RX5 71 yX0_tideOf cX0_tideOf 2 (some .int) 1 := ⟨w958, w550, w2, w551, by decide +kernel⟩
theorem cs_X5_120 : CsV RX5 120 yX8_leakOf cX8_leakOf 4 (some .int) 2 := ⟨w959, w553, w554, w5, w555, by decide +kernel⟩
theorem cs_X5_91 : CsV RX5 91 yX4_boomOn cX4_boomOn 6 (some .int) 2 := ⟨w960, w596, w597, w6, w598, by decide +kernel⟩
theorem cs_X5_102 : CsV RX5 102 yX0_roomBehind cX0_roomBehind 3 (some .int) 1 := ⟨w961, w576, w577, w2, w578, by decide +kernel⟩
theorem cs_X5_105 : CsV RX5 105 yX0_blown cX0_blown 3 (some .int) 2 := ⟨w962, w591, w592, w2, w593, by decide +kernel⟩
theorem cs_X5_32 : CsV RX5 32 yX5_waterAgainstWind cX5_waterAgainstWind 3 (some .int) 1 := ⟨w963, w965, wp18, w8, w966, by decide +kernel⟩
theorem cs_X5_123 : CsS RX5 123 yX2_opposite cX2_opposite 1 (some .int) 1 := ⟨w967, w601, w3, w602, by decide +kernel⟩
theorem cs_X5_36 : CsS RX5 36 yX2_beside cX2_beside 4 (some .int) 2 := ⟨w968, w580, w3, w581, by decide +kernel⟩
theorem cs_X5_126 : CsV RX5 126 yX2_isWater cX2_isWater 2 (some .boolean) 1 := ⟨w969, w486, w487, w3, w488, by decide +kernel⟩
theorem cs_X5_42 : CsV RX5 42 yX5_givenBackTo cX5_givenBackTo 3 (some .int) 2 := ⟨w970, w972, wp19, w8, w973, by decide +kernel⟩
theorem cs_X5_52 : CsV RX5 52 yX5_isHighTide cX5_isHighTide 1 (some .boolean) 0 := ⟨w974, w976, wp20, w8, w977, by decide +kernel⟩
theorem cs_X5_62 : CsV RX5 62 yX2_lowestWaterBeside cX2_lowestWaterBeside 5 (some .int) 1 := ⟨w978, w612, w613, w3, w614, by decide +kernel⟩
theorem cs_X5_49 : CsV RX5 49 yX5_landedOn cX5_landedOn 4 (some .int) 1 := ⟨w979, w981, wp21, w8, w982, by decide +kernel⟩
theorem cs_X5_65 : CsV RX5 65 yX2_backOf cX2_backOf 4 (some .int) 2 := ⟨w983, w618, w619, w3, w620, by decide +kernel⟩
theorem cs_X5_45 : CsV RX5 45 yX5_leftBySkimmers cX5_leftBySkimmers 8 (some .int) 3 := ⟨w984, w986, wp22, w8, w987, by decide +kernel⟩
theorem cs_X5_134 : CsV RX5 134 yX4_isSkimmer cX4_isSkimmer 3 (some .boolean) 2 := ⟨w988, w466, w467, w6, w468, by decide +kernel⟩
theorem cs_X5_138 : CsV RX5 138 yX4_freshTaken cX4_freshTaken 4 (some .int) 2 := ⟨w989, w628, w629, w6, w630, by decide +kernel⟩
theorem cs_X5_141 : CsV RX5 141 yX4_thickTaken cX4_thickTaken 5 (some .int) 3 := ⟨w990, w633, w634, w6, w635, by decide +kernel⟩
theorem cs_X9_297 : CsV RX9 297 yX5_strandedOf cX5_strandedOf 4 (some .int) 1 := ⟨w991, w992, w993, w8, w994, by decide +kernel⟩
theorem cs_L_111 : CsV RL 111 yX9_sum cX9_sum 3 (some .int) 1 := ⟨w998, w999, w1000, w1, w1001, by decide +kernel⟩
theorem cs_X9_309 : CsV RX9 309 yX8_allLitres cX8_allLitres 3 (some .int) 0 := ⟨w1002, w1003, w1004, w5, w1005, by decide +kernel⟩
theorem cs_X9_313 : CsV RX9 313 yX2_allFloating cX2_allFloating 3 (some .int) 0 := ⟨w1006, w1007, w1008, w3, w1009, by decide +kernel⟩
theorem cs_X9_325 : CsV RX9 325 yX2_allStranded cX2_allStranded 3 (some .int) 0 := ⟨w1010, w1011, w1012, w3, w1013, by decide +kernel⟩
theorem cs_X9_328 : CsV RX9 328 yX4_allInStores cX4_allInStores 3 (some .int) 0 := ⟨w1014, w1015, w1016, w6, w1017, by decide +kernel⟩
theorem cs_X9_337 : CsV RX9 337 yX3_allWaste cX3_allWaste 1 (some .int) 0 := ⟨w1018, w1019, w1020, w10, w1021, by decide +kernel⟩
theorem cs_L_117 : CsI RL 117 yX10_init cX10_init 2 0 := ⟨w1024, w1025, rfl, w12, w1026, by decide +kernel⟩
theorem cs_L_124 : CsV RL 124 yX10_thrown cX10_thrown 1 (some .int) 0 := ⟨w1116, w1117, w1118, w12, w1119, by decide +kernel⟩
theorem cs_L_123 : CsV RL 123 yX10_shore cX10_shore 5 (some .int) 2 := ⟨w1120, w1121, w1122, w12, w1123, by decide +kernel⟩
theorem cs_X10_76 : CsS RX10 76 yX10_isCell cX10_isCell 1 (some .boolean) 1 := ⟨w1124, w1125, w12, w1126, by decide +kernel⟩
theorem cs_X10_66 : CsS RX10 66 yX10_in cX10_in 3 (some .boolean) 3 := ⟨w1127, w1128, w12, w1129, by decide +kernel⟩
theorem cs_X10_131 : CsV RX10 131 yX10_fails cX10_fails 3 (some .boolean) 2 := ⟨w1130, w1132, wp23, w12, w1133, by decide +kernel⟩
theorem cs_L_130 : CsV RL 130 yX10_depth cX10_depth 4 (some .int) 2 := ⟨w1134, w1135, w1136, w12, w1137, by decide +kernel⟩
theorem cs_L_133 : CsV RL 133 yX10_wind cX10_wind 4 (some .int) 2 := ⟨w1138, w1139, w1140, w12, w1141, by decide +kernel⟩
theorem cs_L_136 : CsV RL 136 yX10_ship cX10_ship 3 (some .int) 2 := ⟨w1142, w1143, w1144, w12, w1145, by decide +kernel⟩
theorem cs_L_139 : CsV RL 139 yX10_hole cX10_hole 4 (some .int) 2 := ⟨w1147, w1148, w1149, w12, w1150, by decide +kernel⟩
theorem cs_X10_136 : CsV RX10 136 yX10_isShip cX10_isShip 2 (some .boolean) 1 := ⟨w1151, w1153, wp24, w12, w1154, by decide +kernel⟩
theorem cs_L_143 : CsV RL 143 yX10_pump cX10_pump 4 (some .int) 3 := ⟨w1155, w1156, w1157, w12, w1158, by decide +kernel⟩
theorem cs_L_147 : CsV RL 147 yX10_shipHas cX10_shipHas 2 (some .int) 1 := ⟨w1159, w1160, w1161, w12, w1162, by decide +kernel⟩
theorem cs_L_150 : CsV RL 150 yX10_pass cX10_pass 3 (some .int) 1 := ⟨w1163, w1164, w1165, w12, w1166, by decide +kernel⟩
theorem cs_X10_139 : CsV RX10 139 yX10_hour cX10_hour 4 none 0 := ⟨w1167, w1169, wp25, w12, w1170, by decide +kernel⟩
theorem cs_X10_106 : CsV RX10 106 yX10_leak cX10_leak 4 (some .int) 2 := ⟨w1171, w1173, wp26, w12, w1174, by decide +kernel⟩
theorem cs_X10_84 : CsS RX10 84 yX10_tide cX10_tide 2 (some .int) 1 := ⟨w1175, w1176, w12, w1177, by decide +kernel⟩
theorem cs_X10_88 : CsS RX10 88 yX10_least cX10_least 2 (some .int) 2 := ⟨w1178, w1179, w12, w1180, by decide +kernel⟩
theorem cs_X10_109 : CsV RX10 109 yX10_weather cX10_weather 5 none 1 := ⟨w1181, w1183, wp27, w12, w1184, by decide +kernel⟩
theorem cs_X10_113 : CsV RX10 113 yX10_look cX10_look 7 none 1 := ⟨w1185, w1187, wp28, w12, w1188, by decide +kernel⟩
theorem cs_X10_80 : CsS RX10 80 yX10_beside cX10_beside 3 (some .int) 2 := ⟨w1189, w1190, w12, w1191, by decide +kernel⟩
theorem cs_X10_97 : CsV RX10 97 yX10_holds cX10_holds 2 (some .int) 1 := ⟨w1192, w1194, wp29, w12, w1195, by decide +kernel⟩
theorem cs_X10_100 : CsS RX10 100 yX10_borderOf cX10_borderOf 3 (some .int) 2 := ⟨w1196, w1197, w12, w1198, by decide +kernel⟩
theorem cs_X10_103 : CsV RX10 103 yX10_boomOn cX10_boomOn 3 (some .int) 1 := ⟨w1199, w1201, wp30, w12, w1202, by decide +kernel⟩
theorem cs_X10_116 : CsV RX10 116 yX10_drift cX10_drift 5 none 1 := ⟨w1203, w1205, wp31, w12, w1206, by decide +kernel⟩
theorem cs_X10_119 : CsV RX10 119 yX10_lowestWater cX10_lowestWater 5 (some .int) 1 := ⟨w1207, w1209, wp32, w12, w1210, by decide +kernel⟩
theorem cs_X10_122 : CsV RX10 122 yX10_back cX10_back 3 (some .int) 2 := ⟨w1211, w1213, wp33, w12, w1214, by decide +kernel⟩
theorem cs_X10_125 : CsV RX10 125 yX10_skim cX10_skim 6 none 1 := ⟨w1215, w1217, wp34, w12, w1218, by decide +kernel⟩
theorem cs_X10_128 : CsV RX10 128 yX10_suffer cX10_suffer 4 none 1 := ⟨w1219, w1221, wp35, w12, w1222, by decide +kernel⟩
theorem cs_L_153 : CsV RL 153 yX10_at cX10_at 3 (some .int) 2 := ⟨w1223, w1224, w1225, w12, w1226, by decide +kernel⟩
theorem cs_X10_142 : CsV RX10 142 yX10_signatures cX10_signatures 3 (some .int) 1 := ⟨w1227, w1229, wp36, w12, w1230, by decide +kernel⟩
theorem cs_L_156 : CsV RL 156 yX10_boom cX10_boom 5 (some .int) 3 := ⟨w1231, w1232, w1233, w12, w1234, by decide +kernel⟩
theorem cs_X10_145 : CsV RX10 145 yX10_mean cX10_mean 5 (some .int) 4 := ⟨w1235, w1237, wp37, w12, w1238, by decide +kernel⟩
theorem cs_L_159 : CsV RL 159 yX10_skimmer cX10_skimmer 4 (some .int) 3 := ⟨w1239, w1240, w1241, w12, w1242, by decide +kernel⟩
theorem cs_L_163 : CsV RL 163 yX10_team cX10_team 3 (some .int) 2 := ⟨w1243, w1244, w1245, w12, w1246, by decide +kernel⟩
theorem cs_L_166 : CsV RL 166 yX10_move cX10_move 4 (some .int) 2 := ⟨w1247, w1248, w1249, w12, w1250, by decide +kernel⟩
theorem cs_X10_149 : CsV RX10 149 yX10_isMean cX10_isMean 2 (some .boolean) 1 := ⟨w1251, w1253, wp38, w12, w1254, by decide +kernel⟩
theorem cs_L_169 : CsV RL 169 yX10_carry cX10_carry 3 (some .int) 1 := ⟨w1255, w1256, w1257, w12, w1258, by decide +kernel⟩
theorem cs_L_172 : CsV RL 172 yX10_teach cX10_teach 3 (some .boolean) 1 := ⟨w1259, w1260, w1261, w12, w1262, by decide +kernel⟩
theorem cs_L_175 : CsV RL 175 yX10_clean cX10_clean 7 (some .int) 2 := ⟨w1263, w1264, w1265, w12, w1266, by decide +kernel⟩
theorem cs_L_178 : CsV RL 178 yX10_meanIs cX10_meanIs 3 (some .int) 2 := ⟨w1267, w1268, w1269, w12, w1270, by decide +kernel⟩
theorem cs_L_181 : CsV RL 181 yX10_use cX10_use 4 (some .int) 2 := ⟨w1271, w1272, w1273, w12, w1274, by decide +kernel⟩
theorem cs_X10_155 : CsV RX10 155 yX10_rules cX10_rules 8 (some .int) 3 := ⟨w1275, w1277, wp39, w12, w1278, by decide +kernel⟩
theorem cs_X10_152 : CsV RX10 152 yX10_isAgainst cX10_isAgainst 8 (some .boolean) 3 := ⟨w1279, w1281, wp40, w12, w1282, by decide +kernel⟩
theorem cs_L_184 : CsV RL 184 yX10_why cX10_why 4 (some .int) 3 := ⟨w1283, w1284, w1285, w12, w1286, by decide +kernel⟩
theorem cs_L_187 : CsV RL 187 yX10_birds cX10_birds 3 (some .int) 2 := ⟨w1287, w1288, w1289, w12, w1290, by decide +kernel⟩
theorem cs_L_190 : CsV RL 190 yX10_wash cX10_wash 4 (some .int) 2 := ⟨w1291, w1292, w1293, w12, w1294, by decide +kernel⟩
theorem cs_L_193 : CsV RL 193 yX10_sign cX10_sign 4 (some .boolean) 2 := ⟨w1295, w1296, w1297, w12, w1298, by decide +kernel⟩
theorem cs_L_196 : CsV RL 196 yX10_site cX10_site 3 (some .int) 2 := ⟨w1299, w1300, w1301, w12, w1302, by decide +kernel⟩
theorem cs_L_199 : CsV RL 199 yX10_deliver cX10_deliver 4 (some .int) 3 := ⟨w1303, w1304, w1305, w12, w1306, by decide +kernel⟩
theorem cs_L_202 : CsV RL 202 yX10_waste cX10_waste 2 (some .int) 1 := ⟨w1307, w1308, w1309, w12, w1310, by decide +kernel⟩
theorem cs_L_205 : CsV RL 205 yX10_claim cX10_claim 2 (some .int) 1 := ⟨w1311, w1312, w1313, w12, w1314, by decide +kernel⟩
theorem cs_L_208 : CsV RL 208 yX10_layers cX10_layers 4 (some .int) 2 := ⟨w1316, w1317, w1318, w12, w1319, by decide +kernel⟩
theorem cs_L_211 : CsV RL 211 yX10_due cX10_due 7 (some .int) 2 := ⟨w1321, w1322, w1323, w12, w1324, by decide +kernel⟩
theorem cs_L_214 : CsV RL 214 yX10_ahead cX10_ahead 5 (some .int) 2 := ⟨w1325, w1326, w1327, w12, w1328, by decide +kernel⟩
theorem cs_L_217 : CsV RL 217 yX10_nextAnew cX10_nextAnew 10 (some .int) 1 := ⟨w1329, w1330, w1331, w12, w1332, by decide +kernel⟩
theorem cs_X10_189 : CsV RX10 189 yX10_strands cX10_strands 3 (some .int) 1 := ⟨w1333, w1335, wp41, w12, w1336, by decide +kernel⟩
theorem cs_X10_186 : CsV RX10 186 yX10_goes cX10_goes 8 (some .int) 2 := ⟨w1337, w1339, wp42, w12, w1340, by decide +kernel⟩
theorem cs_X10_182 : CsV RX10 182 yX10_floats cX10_floats 5 (some .int) 2 := ⟨w1341, w1343, wp43, w12, w1344, by decide +kernel⟩
theorem cs_L_220 : CsV RL 220 yX10_sum cX10_sum 4 (some .int) 1 := ⟨w1345, w1346, w1347, w12, w1348, by decide +kernel⟩
theorem cs_X10_192 : CsV RX10 192 yX10_over cX10_over 5 (some .int) 2 := ⟨w1349, w1351, wp44, w12, w1352, by decide +kernel⟩
end
section
def sp_J6_bitCount_0f7a4 (p1 : Int32)  : Option (Int32) := sl ((p1 - (((p1.toUInt32 >>> ((1 : Int32).toUInt32 &&& Int32.toUInt32 31)).toInt32) &&& (1431655765 : Int32)))) (fun x1 : Int32 => sl (((x1 &&& (858993459 : Int32)) + (((x1.toUInt32 >>> ((2 : Int32).toUInt32 &&& Int32.toUInt32 31)).toInt32) &&& (858993459 : Int32)))) (fun x2 : Int32 => sl (((x2 + ((x2.toUInt32 >>> ((4 : Int32).toUInt32 &&& Int32.toUInt32 31)).toInt32)) &&& (252645135 : Int32))) (fun x3 : Int32 => sl ((x3 + ((x3.toUInt32 >>> ((8 : Int32).toUInt32 &&& Int32.toUInt32 31)).toInt32))) (fun x4 : Int32 => sl ((x4 + ((x4.toUInt32 >>> ((16 : Int32).toUInt32 &&& Int32.toUInt32 31)).toInt32))) (fun x5 : Int32 => some (x5 &&& (63 : Int32)))))))
set_option maxHeartbeats 4000000 in
set_option maxRecDepth 100000 in
theorem ct_J6_bitCount_0f7a4 {l : Launch} (hl : l.stackTraces = false) {γ : Gd}   {w : va_W} {p1 : Int32} {x0 : Int32} (hR : some x0 = sp_J6_bitCount_0f7a4 p1) : Ct l γ yJ6_bitCount_0f7a4 (Cond.code yJ6_bitCount_0f7a4 cJ6_bitCount_0f7a4 1 (some .int)) ({ frames := 0, cells := 0, slots := 0, locals := 0 } : Room) [.int p1] (w) (Pr (some (.int x0)) (w)) 0 0 := by
  refine Ct_of hl (by decide +kernel) rfl (Nat.le_of_ble_eq_true rfl) (L := [some (.int p1)]) rfl ?_
  intro X Q K hQ
  generalize ((w, Q) : MX) = M at K hQ ⊢
  unfold sp_J6_bitCount_0f7a4 at hR
  refine r_iload_n 0 0 K (dk_of tJ6_bitCount_0f7a4 0 rfl) rfl rfl ?_
  refine r_iload_n 1 0 K (dk_of tJ6_bitCount_0f7a4 1 rfl) rfl rfl ?_
  refine r_iconst 2 (1 : Int32) K (dk_of tJ6_bitCount_0f7a4 2 rfl) (by decide) ?_
  refine r_iushr 3 K (dk_of tJ6_bitCount_0f7a4 3 rfl) ?_
  refine r_ldcw 4 1431655765 K (dk_of tJ6_bitCount_0f7a4 4 rfl) w663 ?_
  refine r_iand 7 K (dk_of tJ6_bitCount_0f7a4 5 rfl) ?_
  refine r_isub 8 K (dk_of tJ6_bitCount_0f7a4 6 rfl) ?_
  refine r_nmI hR (fun x1 hR => ?_)
  refine r_istore_n 9 0 [some (.int x1)] K (dk_of tJ6_bitCount_0f7a4 7 rfl) rfl rfl rfl (by decide) ?_
  refine r_iload_n 10 0 K (dk_of tJ6_bitCount_0f7a4 8 rfl) rfl rfl ?_
  refine r_ldcw 11 858993459 K (dk_of tJ6_bitCount_0f7a4 9 rfl) w664 ?_
  refine r_iand 14 K (dk_of tJ6_bitCount_0f7a4 10 rfl) ?_
  refine r_iload_n 15 0 K (dk_of tJ6_bitCount_0f7a4 11 rfl) rfl rfl ?_
  refine r_iconst 16 (2 : Int32) K (dk_of tJ6_bitCount_0f7a4 12 rfl) (by decide) ?_
  refine r_iushr 17 K (dk_of tJ6_bitCount_0f7a4 13 rfl) ?_
  refine r_ldcw 18 858993459 K (dk_of tJ6_bitCount_0f7a4 14 rfl) w664 ?_
  refine r_iand 21 K (dk_of tJ6_bitCount_0f7a4 15 rfl) ?_
  refine r_iadd 22 K (dk_of tJ6_bitCount_0f7a4 16 rfl) ?_
  refine r_nmI hR (fun x2 hR => ?_)
  refine r_istore_n 23 0 [some (.int x2)] K (dk_of tJ6_bitCount_0f7a4 17 rfl) rfl rfl rfl (by decide) ?_
  refine r_iload_n 24 0 K (dk_of tJ6_bitCount_0f7a4 18 rfl) rfl rfl ?_
  refine r_iload_n 25 0 K (dk_of tJ6_bitCount_0f7a4 19 rfl) rfl rfl ?_
  refine r_iconst 26 (4 : Int32) K (dk_of tJ6_bitCount_0f7a4 20 rfl) (by decide) ?_
  refine r_iushr 27 K (dk_of tJ6_bitCount_0f7a4 21 rfl) ?_
  refine r_iadd 28 K (dk_of tJ6_bitCount_0f7a4 22 rfl) ?_
  refine r_ldcw 29 252645135 K (dk_of tJ6_bitCount_0f7a4 23 rfl) w665 ?_
  refine r_iand 32 K (dk_of tJ6_bitCount_0f7a4 24 rfl) ?_
  refine r_nmI hR (fun x3 hR => ?_)
  refine r_istore_n 33 0 [some (.int x3)] K (dk_of tJ6_bitCount_0f7a4 25 rfl) rfl rfl rfl (by decide) ?_
  refine r_iload_n 34 0 K (dk_of tJ6_bitCount_0f7a4 26 rfl) rfl rfl ?_
  refine r_iload_n 35 0 K (dk_of tJ6_bitCount_0f7a4 27 rfl) rfl rfl ?_
  refine r_bipush 36 (8 : Int32) K (dk_of tJ6_bitCount_0f7a4 28 rfl) (by decide) ?_
  refine r_iushr 38 K (dk_of tJ6_bitCount_0f7a4 29 rfl) ?_
  refine r_iadd 39 K (dk_of tJ6_bitCount_0f7a4 30 rfl) ?_
  refine r_nmI hR (fun x4 hR => ?_)
  refine r_istore_n 40 0 [some (.int x4)] K (dk_of tJ6_bitCount_0f7a4 31 rfl) rfl rfl rfl (by decide) ?_
  refine r_iload_n 41 0 K (dk_of tJ6_bitCount_0f7a4 32 rfl) rfl rfl ?_
  refine r_iload_n 42 0 K (dk_of tJ6_bitCount_0f7a4 33 rfl) rfl rfl ?_
  refine r_bipush 43 (16 : Int32) K (dk_of tJ6_bitCount_0f7a4 34 rfl) (by decide) ?_
  refine r_iushr 45 K (dk_of tJ6_bitCount_0f7a4 35 rfl) ?_
  refine r_iadd 46 K (dk_of tJ6_bitCount_0f7a4 36 rfl) ?_
  refine r_nmI hR (fun x5 hR => ?_)
  refine r_istore_n 47 0 [some (.int x5)] K (dk_of tJ6_bitCount_0f7a4 37 rfl) rfl rfl rfl (by decide) ?_
  refine r_iload_n 48 0 K (dk_of tJ6_bitCount_0f7a4 38 rfl) rfl rfl ?_
  refine r_bipush 49 (63 : Int32) K (dk_of tJ6_bitCount_0f7a4 39 rfl) (by decide) ?_
  refine r_iand 51 K (dk_of tJ6_bitCount_0f7a4 40 rfl) ?_
  exact r_iret 52 K hQ (dk_of tJ6_bitCount_0f7a4 41 rfl) (Nat.zero_le _) (Nat.zero_le _) (lfi0 hR)

def sp_X2_become_22  (y2 : Int32) (y3 : Int32) (y4 : Int32) (σ5 : St) : Option (St) := if y3 < 0 ∨ 24 ≤ y3.toNatClampNeg then none else (sl (stU σ5 3 y3.toNatClampNeg y4) (fun σ6 : St => if y2 < 0 ∨ 24 ≤ y2.toNatClampNeg then none else (sl (stU σ6 7 y2.toNatClampNeg (0 : Int32)) (fun σ7 : St => if y2 < 0 ∨ 24 ≤ y2.toNatClampNeg then none else (sl (stU σ7 8 y2.toNatClampNeg (0 : Int32)) (fun σ8 : St => if y2 < 0 ∨ 24 ≤ y2.toNatClampNeg then none else (sl (stU σ8 9 y2.toNatClampNeg (0 : Int32)) (fun σ9 : St => some σ9))))))))
def sp_X2_become (p1 : Int32) (p2 : Int32) (σ : St) : Option (St) := if p1 < 0 ∨ 24 ≤ p1.toNatClampNeg then none else (sl (stU σ 2 p1.toNatClampNeg p2) (fun σ1 : St => if p2 = 0 then (sp_X2_become_22 p1 p1 (20 : Int32) σ1) else (sp_X2_become_22 p1 p1 (0 : Int32) σ1)))
set_option maxHeartbeats 4000000 in
set_option maxRecDepth 100000 in
theorem ct_X2_become {l : Launch} (hl : l.stackTraces = false) {γ : Gd} {h : Nat → Nat} {σ : St} {r : va_W} {p1 : Int32} {p2 : Int32} {σ0 : St} (hR : some σ0 = sp_X2_become p1 p2 σ) : Ct l γ yX2_become (Cond.code yX2_become cX2_become 3 none) ({ frames := 0, cells := 0, slots := 0, locals := 0 } : Room) [.ref (h 1), .int p1, .int p2] (wB γ h σ ++ (r)) (Pr none (wB γ h σ0 ++ (r))) 0 0 := by
  refine Ct_of hl (by decide +kernel) rfl (Nat.le_of_ble_eq_true rfl) (L := [some (.ref (h 1)), some (.int p1), some (.int p2)]) rfl ?_
  intro X Q K hQ
  generalize ((wB γ h σ ++ (r), Q) : MX) = M at K hQ ⊢
  unfold sp_X2_become at hR
  have b22 : ∀ (y2 : Int32) (y3 : Int32) (y4 : Int32) (σ5 : St), some σ0 = sp_X2_become_22  y2 y3 y4 σ5 → V l γ X M (wB γ h σ5 ++ (r)) [some (.ref (h 1)), some (.int y2), none] 0 0 22 [.int y4, .int y3, .ref (h 3)] := by
    intro  y2 y3 y4 σ5 hR
    unfold sp_X2_become_22 at hR
    refine r_iastR 22 3 K (dk_of tX2_become 13 rfl) rfl sB_3 hR (fun hR => ?_)
    refine r_nmS (fun σ6 : St => wB γ h σ6 ++ (r)) hR (fun σ6 hR => ?_)
    refine r_aload_n 23 0 K (dk_of tX2_become 14 rfl) rfl rfl ?_
    refine r_getf (C := RX2) (T := TX2) (N := 8) 24 1 5 K (dk_of tX2_become 15 rfl) w64 gwX2 rfl rfl (by decide) rfl ?_
    refine r_iload_n 27 1 K (dk_of tX2_become 16 rfl) rfl rfl ?_
    refine r_iconst 28 (0 : Int32) K (dk_of tX2_become 17 rfl) (by decide) ?_
    refine r_iastR 29 7 K (dk_of tX2_become 18 rfl) rfl sB_7 hR (fun hR => ?_)
    refine r_nmS (fun σ7 : St => wB γ h σ7 ++ (r)) hR (fun σ7 hR => ?_)
    refine r_aload_n 30 0 K (dk_of tX2_become 19 rfl) rfl rfl ?_
    refine r_getf (C := RX2) (T := TX2) (N := 8) 31 1 6 K (dk_of tX2_become 20 rfl) w66 gwX2 rfl rfl (by decide) rfl ?_
    refine r_iload_n 34 1 K (dk_of tX2_become 21 rfl) rfl rfl ?_
    refine r_iconst 35 (0 : Int32) K (dk_of tX2_become 22 rfl) (by decide) ?_
    refine r_iastR 36 8 K (dk_of tX2_become 23 rfl) rfl sB_8 hR (fun hR => ?_)
    refine r_nmS (fun σ8 : St => wB γ h σ8 ++ (r)) hR (fun σ8 hR => ?_)
    refine r_aload_n 37 0 K (dk_of tX2_become 24 rfl) rfl rfl ?_
    refine r_getf (C := RX2) (T := TX2) (N := 8) 38 1 7 K (dk_of tX2_become 25 rfl) w68 gwX2 rfl rfl (by decide) rfl ?_
    refine r_iload_n 41 1 K (dk_of tX2_become 26 rfl) rfl rfl ?_
    refine r_iconst 42 (0 : Int32) K (dk_of tX2_become 27 rfl) (by decide) ?_
    refine r_iastR 43 9 K (dk_of tX2_become 28 rfl) rfl sB_9 hR (fun hR => ?_)
    refine r_nmS (fun σ9 : St => wB γ h σ9 ++ (r)) hR (fun σ9 hR => ?_)
    exact r_vret 44 K hQ (dk_of tX2_become 29 rfl) (Nat.zero_le _) (Nat.zero_le _) (lfv (fun u9 : St => wB γ h u9 ++ (r)) hR)
  refine r_aload_n 0 0 K (dk_of tX2_become 0 rfl) rfl rfl ?_
  refine r_getf (C := RX2) (T := TX2) (N := 8) 1 1 0 K (dk_of tX2_become 1 rfl) w45 gwX2 rfl rfl (by decide) rfl ?_
  refine r_iload_n 4 1 K (dk_of tX2_become 2 rfl) rfl rfl ?_
  refine r_iload_n 5 2 K (dk_of tX2_become 3 rfl) rfl rfl ?_
  refine r_iastR 6 2 K (dk_of tX2_become 4 rfl) rfl sB_2 hR (fun hR => ?_)
  refine r_nmS (fun σ1 : St => wB γ h σ1 ++ (r)) hR (fun σ1 hR => ?_)
  refine r_aload_n 7 0 K (dk_of tX2_become 5 rfl) rfl rfl ?_
  refine r_getf (C := RX2) (T := TX2) (N := 8) 8 1 1 K (dk_of tX2_become 6 rfl) w47 gwX2 rfl rfl (by decide) rfl ?_
  refine r_iload_n 11 1 K (dk_of tX2_become 7 rfl) rfl rfl ?_
  refine r_iload_n 12 2 K (dk_of tX2_become 8 rfl) rfl rfl ?_
  refine r_if_ne 13 21 K (dk_of tX2_become 9 rfl) (by decide) hR (fun hR => ?_) (fun hR => ?_)
  · refine r_bipush 16 (20 : Int32) K (dk_of tX2_become 10 rfl) (by decide) ?_
    refine r_goto 18 22 K (dk_of tX2_become 11 rfl) (by decide) ?_
    exact r_msk [true, true, false] [some (.ref (h 1)), some (.int p1), none] rfl (b22 p1 p1 (20 : Int32) σ1 hR)
  · refine r_iconst 21 (0 : Int32) K (dk_of tX2_become 12 rfl) (by decide) ?_
    exact r_msk [true, true, false] [some (.ref (h 1)), some (.int p1), none] rfl (b22 p1 p1 (0 : Int32) σ1 hR)

def sp_X2_isWater (p1 : Int32) (σ : St) : Option (Int32) := if p1 < 0 ∨ 24 ≤ p1.toNatClampNeg then none else (if (σ 2 p1.toNatClampNeg) = 0 then (some (1 : Int32)) else (some (0 : Int32)))
set_option maxHeartbeats 4000000 in
set_option maxRecDepth 100000 in
theorem ct_X2_isWater {l : Launch} (hl : l.stackTraces = false) {γ : Gd} {h : Nat → Nat} {σ : St} {r : va_W} {p1 : Int32} {x0 : Int32} (hR : some x0 = sp_X2_isWater p1 σ) : Ct l γ yX2_isWater (Cond.code yX2_isWater cX2_isWater 2 (some .boolean)) ({ frames := 0, cells := 0, slots := 0, locals := 0 } : Room) [.ref (h 1), .int p1] (wB γ h σ ++ (r)) (Pr (some (.int x0)) (wB γ h σ ++ (r))) 0 0 := by
  refine Ct_of hl (by decide +kernel) rfl (Nat.le_of_ble_eq_true rfl) (L := [some (.ref (h 1)), some (.int p1)]) rfl ?_
  intro X Q K hQ
  generalize ((wB γ h σ ++ (r), Q) : MX) = M at K hQ ⊢
  unfold sp_X2_isWater at hR
  refine r_aload_n 0 0 K (dk_of tX2_isWater 0 rfl) rfl rfl ?_
  refine r_getf (C := RX2) (T := TX2) (N := 8) 1 1 0 K (dk_of tX2_isWater 1 rfl) w45 gwX2 rfl rfl (by decide) rfl ?_
  refine r_iload_n 4 1 K (dk_of tX2_isWater 2 rfl) rfl rfl ?_
  refine r_ialdR 5 2 K (dk_of tX2_isWater 3 rfl) rfl hR (fun hR => ?_)
  refine r_if_ne 6 13 K (dk_of tX2_isWater 4 rfl) (by decide) hR (fun hR => ?_) (fun hR => ?_)
  · refine r_iconst 9 (1 : Int32) K (dk_of tX2_isWater 5 rfl) (by decide) ?_
    refine r_goto 10 14 K (dk_of tX2_isWater 6 rfl) (by decide) ?_
    exact r_zret 14 K hQ (dk_of tX2_isWater 8 rfl) zb1 (Nat.zero_le _) (Nat.zero_le _) (lfi0 hR)
  · refine r_iconst 13 (0 : Int32) K (dk_of tX2_isWater 7 rfl) (by decide) ?_
    exact r_zret 14 K hQ (dk_of tX2_isWater 8 rfl) zb0 (Nat.zero_le _) (Nat.zero_le _) (lfi0 hR)

def sp_X2_beside (p1 : Int32) (p2 : Int32)  : Option (Int32) := sl ((p1 / (6 : Int32))) (fun x1 : Int32 => sl ((p1 - p1 / (6 : Int32) * (6 : Int32))) (fun x2 : Int32 => if p2 = 0 then (if (5 : Int32) ≤ x2 then (some (-1 : Int32)) else (some (p1 + (1 : Int32)))) else (if p2 = 1 then (if x2 ≤ 0 then (some (-1 : Int32)) else (some (p1 - (1 : Int32)))) else (if p2 = 2 then (if (3 : Int32) ≤ x1 then (some (-1 : Int32)) else (some (p1 + (6 : Int32)))) else (if x1 ≤ 0 then (some (-1 : Int32)) else (some (p1 - (6 : Int32))))))))
set_option maxHeartbeats 4000000 in
set_option maxRecDepth 100000 in
theorem ct_X2_beside {l : Launch} (hl : l.stackTraces = false) {γ : Gd}   {w : va_W} {p1 : Int32} {p2 : Int32} {x0 : Int32} (hR : some x0 = sp_X2_beside p1 p2) : Ct l γ yX2_beside (Cond.code yX2_beside cX2_beside 4 (some .int)) ({ frames := 0, cells := 0, slots := 0, locals := 0 } : Room) [.int p1, .int p2] (w) (Pr (some (.int x0)) (w)) 0 0 := by
  refine Ct_of hl (by decide +kernel) rfl (Nat.le_of_ble_eq_true rfl) (L := [some (.int p1), some (.int p2), none, none]) rfl ?_
  intro X Q K hQ
  generalize ((w, Q) : MX) = M at K hQ ⊢
  unfold sp_X2_beside at hR
  refine r_iload_n 0 0 K (dk_of tX2_beside 0 rfl) rfl rfl ?_
  refine r_bipush 1 (6 : Int32) K (dk_of tX2_beside 1 rfl) (by decide) ?_
  refine r_idiv 3 K (dk_of tX2_beside 2 rfl) (by decide) ?_
  refine r_nmI hR (fun x1 hR => ?_)
  refine r_istore_n 4 2 [some (.int p1), some (.int p2), some (.int x1), none] K (dk_of tX2_beside 3 rfl) rfl rfl rfl (by decide) ?_
  refine r_iload_n 5 0 K (dk_of tX2_beside 4 rfl) rfl rfl ?_
  refine r_bipush 6 (6 : Int32) K (dk_of tX2_beside 5 rfl) (by decide) ?_
  refine r_irem 8 K (dk_of tX2_beside 6 rfl) (by decide) ?_
  refine r_nmI hR (fun x2 hR => ?_)
  refine r_istore_n 9 3 [some (.int p1), some (.int p2), some (.int x1), some (.int x2)] K (dk_of tX2_beside 7 rfl) rfl rfl rfl (by decide) ?_
  refine r_iload_n 10 1 K (dk_of tX2_beside 8 rfl) rfl rfl ?_
  refine r_case hR (fun c11_0 hR => ?_) (fun c11_0 hR => ?_)
  · refine r_tswIn 11 36 K (v := 0) c11_0 (dk_of tX2_beside 9 rfl) (by decide) (by decide) rfl (by decide) ?_
    refine r_iload_n 36 3 K (dk_of tX2_beside 10 rfl) rfl rfl ?_
    refine r_iconst 37 (5 : Int32) K (dk_of tX2_beside 11 rfl) (by decide) ?_
    refine r_ic_ge 38 47 K (dk_of tX2_beside 12 rfl) (by decide) hR (fun hR => ?_) (fun hR => ?_)
    · refine r_iconst 47 (-1) K (dk_of tX2_beside 17 rfl) (by decide) ?_
      exact r_iret 48 K hQ (dk_of tX2_beside 18 rfl) (Nat.zero_le _) (Nat.zero_le _) (lfi0 hR)
    · refine r_iload_n 41 0 K (dk_of tX2_beside 13 rfl) rfl rfl ?_
      refine r_iconst 42 (1 : Int32) K (dk_of tX2_beside 14 rfl) (by decide) ?_
      refine r_iadd 43 K (dk_of tX2_beside 15 rfl) ?_
      refine r_goto 44 48 K (dk_of tX2_beside 16 rfl) (by decide) ?_
      exact r_iret 48 K hQ (dk_of tX2_beside 18 rfl) (Nat.zero_le _) (Nat.zero_le _) (lfi0 hR)
  · refine r_case hR (fun c11_1 hR => ?_) (fun c11_1 hR => ?_)
    · refine r_tswIn 11 49 K (v := 1) c11_1 (dk_of tX2_beside 9 rfl) (by decide) (by decide) rfl (by decide) ?_
      refine r_iload_n 49 3 K (dk_of tX2_beside 19 rfl) rfl rfl ?_
      refine r_if_le 50 59 K (dk_of tX2_beside 20 rfl) (by decide) hR (fun hR => ?_) (fun hR => ?_)
      · refine r_iconst 59 (-1) K (dk_of tX2_beside 25 rfl) (by decide) ?_
        exact r_iret 60 K hQ (dk_of tX2_beside 26 rfl) (Nat.zero_le _) (Nat.zero_le _) (lfi0 hR)
      · refine r_iload_n 53 0 K (dk_of tX2_beside 21 rfl) rfl rfl ?_
        refine r_iconst 54 (1 : Int32) K (dk_of tX2_beside 22 rfl) (by decide) ?_
        refine r_isub 55 K (dk_of tX2_beside 23 rfl) ?_
        refine r_goto 56 60 K (dk_of tX2_beside 24 rfl) (by decide) ?_
        exact r_iret 60 K hQ (dk_of tX2_beside 26 rfl) (Nat.zero_le _) (Nat.zero_le _) (lfi0 hR)
    · refine r_case hR (fun c11_2 hR => ?_) (fun c11_2 hR => ?_)
      · refine r_tswIn 11 61 K (v := 2) c11_2 (dk_of tX2_beside 9 rfl) (by decide) (by decide) rfl (by decide) ?_
        refine r_iload_n 61 2 K (dk_of tX2_beside 27 rfl) rfl rfl ?_
        refine r_iconst 62 (3 : Int32) K (dk_of tX2_beside 28 rfl) (by decide) ?_
        refine r_ic_ge 63 73 K (dk_of tX2_beside 29 rfl) (by decide) hR (fun hR => ?_) (fun hR => ?_)
        · refine r_iconst 73 (-1) K (dk_of tX2_beside 34 rfl) (by decide) ?_
          exact r_iret 74 K hQ (dk_of tX2_beside 35 rfl) (Nat.zero_le _) (Nat.zero_le _) (lfi0 hR)
        · refine r_iload_n 66 0 K (dk_of tX2_beside 30 rfl) rfl rfl ?_
          refine r_bipush 67 (6 : Int32) K (dk_of tX2_beside 31 rfl) (by decide) ?_
          refine r_iadd 69 K (dk_of tX2_beside 32 rfl) ?_
          refine r_goto 70 74 K (dk_of tX2_beside 33 rfl) (by decide) ?_
          exact r_iret 74 K hQ (dk_of tX2_beside 35 rfl) (Nat.zero_le _) (Nat.zero_le _) (lfi0 hR)
      · refine r_tswOut 11 75 K (dk_of tX2_beside 9 rfl) (by have e0 := i32_ne (0) c11_0 (by decide); have e1 := i32_ne (1) c11_1 (by decide); have e2 := i32_ne (2) c11_2 (by decide); omega) (by decide) ?_
        refine r_iload_n 75 2 K (dk_of tX2_beside 36 rfl) rfl rfl ?_
        refine r_if_le 76 86 K (dk_of tX2_beside 37 rfl) (by decide) hR (fun hR => ?_) (fun hR => ?_)
        · refine r_iconst 86 (-1) K (dk_of tX2_beside 42 rfl) (by decide) ?_
          exact r_iret 87 K hQ (dk_of tX2_beside 43 rfl) (Nat.zero_le _) (Nat.zero_le _) (lfi0 hR)
        · refine r_iload_n 79 0 K (dk_of tX2_beside 38 rfl) rfl rfl ?_
          refine r_bipush 80 (6 : Int32) K (dk_of tX2_beside 39 rfl) (by decide) ?_
          refine r_isub 82 K (dk_of tX2_beside 40 rfl) ?_
          refine r_goto 83 87 K (dk_of tX2_beside 41 rfl) (by decide) ?_
          exact r_iret 87 K hQ (dk_of tX2_beside 43 rfl) (Nat.zero_le _) (Nat.zero_le _) (lfi0 hR)

def sp_X2_roomOf (p1 : Int32) (σ : St) : Option (Int32) := if p1 < 0 ∨ 24 ≤ p1.toNatClampNeg then none else (if (σ 2 p1.toNatClampNeg) < 0 ∨ 4 ≤ (σ 2 p1.toNatClampNeg).toNatClampNeg then none else (if p1 < 0 ∨ 24 ≤ p1.toNatClampNeg then none else (some ((tabH (σ 2 p1.toNatClampNeg)) - (σ 6 p1.toNatClampNeg)))))
set_option maxHeartbeats 4000000 in
set_option maxRecDepth 100000 in
theorem ct_X2_roomOf {l : Launch} (hl : l.stackTraces = false) {γ : Gd} {h : Nat → Nat} {σ : St} {r : va_W} {p1 : Int32} {x0 : Int32} (hR : some x0 = sp_X2_roomOf p1 σ) : Ct l γ yX2_roomOf (Cond.code yX2_roomOf cX2_roomOf 2 (some .int)) ({ frames := 0, cells := 0, slots := 0, locals := 0 } : Room) [.ref (h 1), .int p1] (wB γ h σ ++ (r)) (Pr (some (.int x0)) (wB γ h σ ++ (r))) 0 0 := by
  refine Ct_of hl (by decide +kernel) rfl (Nat.le_of_ble_eq_true rfl) (L := [some (.ref (h 1)), some (.int p1)]) rfl ?_
  intro X Q K hQ
  generalize ((wB γ h σ ++ (r), Q) : MX) = M at K hQ ⊢
  unfold sp_X2_roomOf at hR
  refine r_gets0 0 K (dk_of tX2_roomOf 0 rfl) ?_
  refine r_aload_n 3 0 K (dk_of tX2_roomOf 1 rfl) rfl rfl ?_
  refine r_getf (C := RX2) (T := TX2) (N := 8) 4 1 0 K (dk_of tX2_roomOf 2 rfl) w45 gwX2 rfl rfl (by decide) rfl ?_
  refine r_iload_n 7 1 K (dk_of tX2_roomOf 3 rfl) rfl rfl ?_
  refine r_ialdR 8 2 K (dk_of tX2_roomOf 4 rfl) rfl hR (fun hR => ?_)
  refine r_tab0R 9 K (dk_of tX2_roomOf 5 rfl) hR (fun hR => ?_)
  refine r_aload_n 10 0 K (dk_of tX2_roomOf 6 rfl) rfl rfl ?_
  refine r_getf (C := RX2) (T := TX2) (N := 8) 11 1 4 K (dk_of tX2_roomOf 7 rfl) w60 gwX2 rfl rfl (by decide) rfl ?_
  refine r_iload_n 14 1 K (dk_of tX2_roomOf 8 rfl) rfl rfl ?_
  refine r_ialdR 15 6 K (dk_of tX2_roomOf 9 rfl) rfl hR (fun hR => ?_)
  refine r_isub 16 K (dk_of tX2_roomOf 10 rfl) ?_
  exact r_iret 17 K hQ (dk_of tX2_roomOf 11 rfl) (Nat.zero_le _) (Nat.zero_le _) (lfi0 hR)

def sp_X2_opposite (p1 : Int32)  : Option (Int32) := if p1 = 0 then (some (1 : Int32)) else (if p1 = 1 then (some (0 : Int32)) else (if p1 = 2 then (some (3 : Int32)) else (some (2 : Int32))))
set_option maxHeartbeats 4000000 in
set_option maxRecDepth 100000 in
theorem ct_X2_opposite {l : Launch} (hl : l.stackTraces = false) {γ : Gd}   {w : va_W} {p1 : Int32} {x0 : Int32} (hR : some x0 = sp_X2_opposite p1) : Ct l γ yX2_opposite (Cond.code yX2_opposite cX2_opposite 1 (some .int)) ({ frames := 0, cells := 0, slots := 0, locals := 0 } : Room) [.int p1] (w) (Pr (some (.int x0)) (w)) 0 0 := by
  refine Ct_of hl (by decide +kernel) rfl (Nat.le_of_ble_eq_true rfl) (L := [some (.int p1)]) rfl ?_
  intro X Q K hQ
  generalize ((w, Q) : MX) = M at K hQ ⊢
  unfold sp_X2_opposite at hR
  refine r_iload_n 0 0 K (dk_of tX2_opposite 0 rfl) rfl rfl ?_
  refine r_case hR (fun c1_0 hR => ?_) (fun c1_0 hR => ?_)
  · refine r_tswIn 1 28 K (v := 0) c1_0 (dk_of tX2_opposite 1 rfl) (by decide) (by decide) rfl (by decide) ?_
    refine r_iconst 28 (1 : Int32) K (dk_of tX2_opposite 2 rfl) (by decide) ?_
    exact r_iret 29 K hQ (dk_of tX2_opposite 3 rfl) (Nat.zero_le _) (Nat.zero_le _) (lfi0 hR)
  · refine r_case hR (fun c1_1 hR => ?_) (fun c1_1 hR => ?_)
    · refine r_tswIn 1 30 K (v := 1) c1_1 (dk_of tX2_opposite 1 rfl) (by decide) (by decide) rfl (by decide) ?_
      refine r_iconst 30 (0 : Int32) K (dk_of tX2_opposite 4 rfl) (by decide) ?_
      exact r_iret 31 K hQ (dk_of tX2_opposite 5 rfl) (Nat.zero_le _) (Nat.zero_le _) (lfi0 hR)
    · refine r_case hR (fun c1_2 hR => ?_) (fun c1_2 hR => ?_)
      · refine r_tswIn 1 32 K (v := 2) c1_2 (dk_of tX2_opposite 1 rfl) (by decide) (by decide) rfl (by decide) ?_
        refine r_iconst 32 (3 : Int32) K (dk_of tX2_opposite 6 rfl) (by decide) ?_
        exact r_iret 33 K hQ (dk_of tX2_opposite 7 rfl) (Nat.zero_le _) (Nat.zero_le _) (lfi0 hR)
      · refine r_tswOut 1 34 K (dk_of tX2_opposite 1 rfl) (by have e0 := i32_ne (0) c1_0 (by decide); have e1 := i32_ne (1) c1_1 (by decide); have e2 := i32_ne (2) c1_2 (by decide); omega) (by decide) ?_
        refine r_iconst 34 (2 : Int32) K (dk_of tX2_opposite 8 rfl) (by decide) ?_
        exact r_iret 35 K hQ (dk_of tX2_opposite 9 rfl) (Nat.zero_le _) (Nat.zero_le _) (lfi0 hR)

def sp_X2_lowestWaterBeside_4 (σ : St) (y1 : Int32) : Nat → Int32 → Int32 → Option (Int32)
  | 0, _, _ => none
  | n + 1, y2, y3 => if (3 : Int32) < y3 then (some y2) else (b1 (sp_X2_beside y1 y3) (fun (x4 : Int32) => if x4 = (-1 : Int32) then (sp_X2_lowestWaterBeside_4 σ y1 n y2 (y3 + 1)) else (b1 (sp_X2_isWater x4 σ) (fun (x5 : Int32) => if x5 = 0 then (sp_X2_lowestWaterBeside_4 σ y1 n y2 (y3 + 1)) else (if y2 = (-1 : Int32) then (sp_X2_lowestWaterBeside_4 σ y1 n x4 (y3 + 1)) else (if y2 ≤ x4 then (sp_X2_lowestWaterBeside_4 σ y1 n y2 (y3 + 1)) else (sp_X2_lowestWaterBeside_4 σ y1 n x4 (y3 + 1))))))))
def sp_X2_lowestWaterBeside (p1 : Int32) (σ : St) : Option (Int32) := sp_X2_lowestWaterBeside_4 σ p1 200 (-1 : Int32) (0 : Int32)
set_option maxHeartbeats 4000000 in
set_option maxRecDepth 100000 in
theorem ct_X2_lowestWaterBeside {l : Launch} (hl : l.stackTraces = false) {γ : Gd} {h : Nat → Nat} {σ : St} {r : va_W} {p1 : Int32} {x0 : Int32} (hR : some x0 = sp_X2_lowestWaterBeside p1 σ) : Ct l γ yX2_lowestWaterBeside (Cond.code yX2_lowestWaterBeside cX2_lowestWaterBeside 5 (some .int)) ({ frames := 1, cells := 0, slots := 0, locals := 23 } : Room) [.ref (h 1), .int p1] (wB γ h σ ++ (r)) (Pr (some (.int x0)) (wB γ h σ ++ (r))) 0 0 := by
  refine Ct_of hl (by decide +kernel) rfl (Nat.le_of_ble_eq_true rfl) (L := [some (.ref (h 1)), some (.int p1), none, none, none]) rfl ?_
  intro X Q K hQ
  generalize ((wB γ h σ ++ (r), Q) : MX) = M at K hQ ⊢
  unfold sp_X2_lowestWaterBeside at hR
  have b4 : ∀ (y1 : Int32) (n : Nat) (y2 : Int32) (y3 : Int32), some x0 = sp_X2_lowestWaterBeside_4 σ y1 n y2 y3 → V l γ X M (wB γ h σ ++ (r)) [some (.ref (h 1)), some (.int y1), some (.int y2), some (.int y3), none] 0 0 4 [] := by
    intro y1 n
    induction n with
    | zero => intro y2 y3 hR; exact nn_ hR
    | succ n ih4 =>
      intro y2 y3 hR
      rw [sp_X2_lowestWaterBeside_4] at hR
      refine r_iload_n 4 3 K (dk_of tX2_lowestWaterBeside 4 rfl) rfl rfl ?_
      refine r_iconst 5 (3 : Int32) K (dk_of tX2_lowestWaterBeside 5 rfl) (by decide) ?_
      refine r_ic_gt 6 51 K (dk_of tX2_lowestWaterBeside 6 rfl) (by decide) hR (fun hR => ?_) (fun hR => ?_)
      · refine r_iload_n 51 2 K (dk_of tX2_lowestWaterBeside 28 rfl) rfl rfl ?_
        exact r_iret 52 K hQ (dk_of tX2_lowestWaterBeside 29 rfl) (Nat.zero_le _) (Nat.zero_le _) (lfi0 hR)
      · refine r_iload_n 9 1 K (dk_of tX2_lowestWaterBeside 7 rfl) rfl rfl ?_
        refine r_iload_n 10 3 K (dk_of tX2_lowestWaterBeside 8 rfl) rfl rfl ?_
        obtain ⟨x4, hc, hR⟩ := o1 hR
        refine r_cSi 11 [.int y1, .int y3] [] x4 (wB γ h σ ++ (r)) K (ct_X2_beside hl hc.symm) cs_X2_42 ⟨rfl, rfl, rfl⟩ (dk_of tX2_lowestWaterBeside 9 rfl) rfl rfl rfl rfl ?_
        refine r_istore 14 4 [some (.ref (h 1)), some (.int y1), some (.int y2), some (.int y3), some (.int x4)] K (dk_of tX2_lowestWaterBeside 10 rfl) rfl rfl (by decide) ?_
        refine r_iload 16 4 K (dk_of tX2_lowestWaterBeside 11 rfl) rfl ?_
        refine r_iconst 18 (-1) K (dk_of tX2_lowestWaterBeside 12 rfl) (by decide) ?_
        refine r_ic_eq 19 45 K (dk_of tX2_lowestWaterBeside 13 rfl) (by decide) hR (fun hR => ?_) (fun hR => ?_)
        · refine r_iinc 45 3 (y3 + 1) [some (.ref (h 1)), some (.int y1), some (.int y2), some (.int (y3 + 1)), some (.int x4)] K (dk_of tX2_lowestWaterBeside 26 rfl) rfl rfl rfl rfl (by decide) ?_
          refine r_goto 48 4 K (dk_of tX2_lowestWaterBeside 27 rfl) (by decide) ?_
          exact r_msk [true, true, true, true, false] [some (.ref (h 1)), some (.int y1), some (.int y2), some (.int (y3 + 1)), none] rfl (ih4 y2 (y3 + 1) hR)
        · refine r_aload_n 22 0 K (dk_of tX2_lowestWaterBeside 14 rfl) rfl rfl ?_
          refine r_iload 23 4 K (dk_of tX2_lowestWaterBeside 15 rfl) rfl ?_
          obtain ⟨x5, hc, hR⟩ := o1 hR
          refine r_cVi 25 1 [.int x4] [] x5 (wB γ h σ ++ (r)) K (ct_X2_isWater hl hc.symm) cs_X2_46 ⟨rfl, rfl, rfl⟩ (dk_of tX2_lowestWaterBeside 16 rfl) rfl rfl rfl rfl rfl rfl ?_
          refine r_if_eq 28 45 K (dk_of tX2_lowestWaterBeside 17 rfl) (by decide) hR (fun hR => ?_) (fun hR => ?_)
          · refine r_iinc 45 3 (y3 + 1) [some (.ref (h 1)), some (.int y1), some (.int y2), some (.int (y3 + 1)), some (.int x4)] K (dk_of tX2_lowestWaterBeside 26 rfl) rfl rfl rfl rfl (by decide) ?_
            refine r_goto 48 4 K (dk_of tX2_lowestWaterBeside 27 rfl) (by decide) ?_
            exact r_msk [true, true, true, true, false] [some (.ref (h 1)), some (.int y1), some (.int y2), some (.int (y3 + 1)), none] rfl (ih4 y2 (y3 + 1) hR)
          · refine r_iload_n 31 2 K (dk_of tX2_lowestWaterBeside 18 rfl) rfl rfl ?_
            refine r_iconst 32 (-1) K (dk_of tX2_lowestWaterBeside 19 rfl) (by decide) ?_
            refine r_ic_eq 33 42 K (dk_of tX2_lowestWaterBeside 20 rfl) (by decide) hR (fun hR => ?_) (fun hR => ?_)
            · refine r_iload 42 4 K (dk_of tX2_lowestWaterBeside 24 rfl) rfl ?_
              refine r_istore_n 44 2 [some (.ref (h 1)), some (.int y1), some (.int x4), some (.int y3), some (.int x4)] K (dk_of tX2_lowestWaterBeside 25 rfl) rfl rfl rfl (by decide) ?_
              refine r_iinc 45 3 (y3 + 1) [some (.ref (h 1)), some (.int y1), some (.int x4), some (.int (y3 + 1)), some (.int x4)] K (dk_of tX2_lowestWaterBeside 26 rfl) rfl rfl rfl rfl (by decide) ?_
              refine r_goto 48 4 K (dk_of tX2_lowestWaterBeside 27 rfl) (by decide) ?_
              exact r_msk [true, true, true, true, false] [some (.ref (h 1)), some (.int y1), some (.int x4), some (.int (y3 + 1)), none] rfl (ih4 x4 (y3 + 1) hR)
            · refine r_iload 36 4 K (dk_of tX2_lowestWaterBeside 21 rfl) rfl ?_
              refine r_iload_n 38 2 K (dk_of tX2_lowestWaterBeside 22 rfl) rfl rfl ?_
              refine r_ic_ge 39 45 K (dk_of tX2_lowestWaterBeside 23 rfl) (by decide) hR (fun hR => ?_) (fun hR => ?_)
              · refine r_iinc 45 3 (y3 + 1) [some (.ref (h 1)), some (.int y1), some (.int y2), some (.int (y3 + 1)), some (.int x4)] K (dk_of tX2_lowestWaterBeside 26 rfl) rfl rfl rfl rfl (by decide) ?_
                refine r_goto 48 4 K (dk_of tX2_lowestWaterBeside 27 rfl) (by decide) ?_
                exact r_msk [true, true, true, true, false] [some (.ref (h 1)), some (.int y1), some (.int y2), some (.int (y3 + 1)), none] rfl (ih4 y2 (y3 + 1) hR)
              · refine r_iload 42 4 K (dk_of tX2_lowestWaterBeside 24 rfl) rfl ?_
                refine r_istore_n 44 2 [some (.ref (h 1)), some (.int y1), some (.int x4), some (.int y3), some (.int x4)] K (dk_of tX2_lowestWaterBeside 25 rfl) rfl rfl rfl (by decide) ?_
                refine r_iinc 45 3 (y3 + 1) [some (.ref (h 1)), some (.int y1), some (.int x4), some (.int (y3 + 1)), some (.int x4)] K (dk_of tX2_lowestWaterBeside 26 rfl) rfl rfl rfl rfl (by decide) ?_
                refine r_goto 48 4 K (dk_of tX2_lowestWaterBeside 27 rfl) (by decide) ?_
                exact r_msk [true, true, true, true, false] [some (.ref (h 1)), some (.int y1), some (.int x4), some (.int (y3 + 1)), none] rfl (ih4 x4 (y3 + 1) hR)
  refine r_iconst 0 (-1) K (dk_of tX2_lowestWaterBeside 0 rfl) (by decide) ?_
  refine r_istore_n 1 2 [some (.ref (h 1)), some (.int p1), some (.int (-1 : Int32)), none, none] K (dk_of tX2_lowestWaterBeside 1 rfl) rfl rfl rfl (by decide) ?_
  refine r_iconst 2 (0 : Int32) K (dk_of tX2_lowestWaterBeside 2 rfl) (by decide) ?_
  refine r_istore_n 3 3 [some (.ref (h 1)), some (.int p1), some (.int (-1 : Int32)), some (.int (0 : Int32)), none] K (dk_of tX2_lowestWaterBeside 3 rfl) rfl rfl rfl (by decide) ?_
  exact b4 p1 200 (-1 : Int32) (0 : Int32) hR

def sp_X2_backOf (p1 : Int32) (p2 : Int32) (σ : St) : Option (Int32) := if p1 < 0 ∨ 24 ≤ p1.toNatClampNeg then none else (if (σ 2 p1.toNatClampNeg) < 0 ∨ 4 ≤ (σ 2 p1.toNatClampNeg).toNatClampNeg then none else (sl ((tabB (σ 2 p1.toNatClampNeg))) (fun x1 : Int32 => if x1 = 0 then (some (0 : Int32)) else (if x1 = 0 then none else (some (p2 / x1))))))
set_option maxHeartbeats 4000000 in
set_option maxRecDepth 100000 in
theorem ct_X2_backOf {l : Launch} (hl : l.stackTraces = false) {γ : Gd} {h : Nat → Nat} {σ : St} {r : va_W} {p1 : Int32} {p2 : Int32} {x0 : Int32} (hR : some x0 = sp_X2_backOf p1 p2 σ) : Ct l γ yX2_backOf (Cond.code yX2_backOf cX2_backOf 4 (some .int)) ({ frames := 0, cells := 0, slots := 0, locals := 0 } : Room) [.ref (h 1), .int p1, .int p2] (wB γ h σ ++ (r)) (Pr (some (.int x0)) (wB γ h σ ++ (r))) 0 0 := by
  refine Ct_of hl (by decide +kernel) rfl (Nat.le_of_ble_eq_true rfl) (L := [some (.ref (h 1)), some (.int p1), some (.int p2), none]) rfl ?_
  intro X Q K hQ
  generalize ((wB γ h σ ++ (r), Q) : MX) = M at K hQ ⊢
  unfold sp_X2_backOf at hR
  refine r_gets1 0 K (dk_of tX2_backOf 0 rfl) ?_
  refine r_aload_n 3 0 K (dk_of tX2_backOf 1 rfl) rfl rfl ?_
  refine r_getf (C := RX2) (T := TX2) (N := 8) 4 1 0 K (dk_of tX2_backOf 2 rfl) w45 gwX2 rfl rfl (by decide) rfl ?_
  refine r_iload_n 7 1 K (dk_of tX2_backOf 3 rfl) rfl rfl ?_
  refine r_ialdR 8 2 K (dk_of tX2_backOf 4 rfl) rfl hR (fun hR => ?_)
  refine r_tab1R 9 K (dk_of tX2_backOf 5 rfl) hR (fun hR => ?_)
  refine r_nmI hR (fun x1 hR => ?_)
  refine r_istore_n 10 3 [some (.ref (h 1)), some (.int p1), some (.int p2), some (.int x1)] K (dk_of tX2_backOf 6 rfl) rfl rfl rfl (by decide) ?_
  refine r_iload_n 11 3 K (dk_of tX2_backOf 7 rfl) rfl rfl ?_
  refine r_if_ne 12 19 K (dk_of tX2_backOf 8 rfl) (by decide) hR (fun hR => ?_) (fun hR => ?_)
  · refine r_iconst 15 (0 : Int32) K (dk_of tX2_backOf 9 rfl) (by decide) ?_
    refine r_goto 16 22 K (dk_of tX2_backOf 10 rfl) (by decide) ?_
    exact r_iret 22 K hQ (dk_of tX2_backOf 14 rfl) (Nat.zero_le _) (Nat.zero_le _) (lfi0 hR)
  · refine r_iload_n 19 2 K (dk_of tX2_backOf 11 rfl) rfl rfl ?_
    refine r_iload_n 20 3 K (dk_of tX2_backOf 12 rfl) rfl rfl ?_
    refine r_idivR 21 K (dk_of tX2_backOf 13 rfl) hR (fun hR => ?_)
    exact r_iret 22 K hQ (dk_of tX2_backOf 14 rfl) (Nat.zero_le _) (Nat.zero_le _) (lfi0 hR)

def sp_X2_oilBirds (p1 : Int32) (σ : St) : Option (St) := if p1 < 0 ∨ 24 ≤ p1.toNatClampNeg then none else (if p1 < 0 ∨ 24 ≤ p1.toNatClampNeg then none else (if p1 < 0 ∨ 24 ≤ p1.toNatClampNeg then none else (sl ((iMin ((σ 6 p1.toNatClampNeg) / (100 : Int32)) ((σ 7 p1.toNatClampNeg) - (σ 8 p1.toNatClampNeg)))) (fun x1 : Int32 => if p1 < 0 ∨ 24 ≤ p1.toNatClampNeg then none else (if p1 < 0 ∨ 24 ≤ p1.toNatClampNeg then none else (sl (stU σ 8 p1.toNatClampNeg ((σ 8 p1.toNatClampNeg) + x1)) (fun σ2 : St => some σ2)))))))
set_option maxHeartbeats 4000000 in
set_option maxRecDepth 100000 in
theorem ct_X2_oilBirds {l : Launch} (hl : l.stackTraces = false) {γ : Gd} {h : Nat → Nat} {σ : St} {r : va_W} {p1 : Int32} {σ0 : St} (hR : some σ0 = sp_X2_oilBirds p1 σ) : Ct l γ yX2_oilBirds (Cond.code yX2_oilBirds cX2_oilBirds 3 none) ({ frames := 1, cells := 0, slots := 0, locals := 15 } : Room) [.ref (h 1), .int p1] (wB γ h σ ++ (r)) (Pr none (wB γ h σ0 ++ (r))) 0 0 := by
  refine Ct_of hl (by decide +kernel) rfl (Nat.le_of_ble_eq_true rfl) (L := [some (.ref (h 1)), some (.int p1), none]) rfl ?_
  intro X Q K hQ
  generalize ((wB γ h σ ++ (r), Q) : MX) = M at K hQ ⊢
  unfold sp_X2_oilBirds at hR
  refine r_aload_n 0 0 K (dk_of tX2_oilBirds 0 rfl) rfl rfl ?_
  refine r_getf (C := RX2) (T := TX2) (N := 8) 1 1 4 K (dk_of tX2_oilBirds 1 rfl) w60 gwX2 rfl rfl (by decide) rfl ?_
  refine r_iload_n 4 1 K (dk_of tX2_oilBirds 2 rfl) rfl rfl ?_
  refine r_ialdR 5 6 K (dk_of tX2_oilBirds 3 rfl) rfl hR (fun hR => ?_)
  refine r_bipush 6 (100 : Int32) K (dk_of tX2_oilBirds 4 rfl) (by decide) ?_
  refine r_idiv 8 K (dk_of tX2_oilBirds 5 rfl) (by decide) ?_
  refine r_aload_n 9 0 K (dk_of tX2_oilBirds 6 rfl) rfl rfl ?_
  refine r_getf (C := RX2) (T := TX2) (N := 8) 10 1 5 K (dk_of tX2_oilBirds 7 rfl) w64 gwX2 rfl rfl (by decide) rfl ?_
  refine r_iload_n 13 1 K (dk_of tX2_oilBirds 8 rfl) rfl rfl ?_
  refine r_ialdR 14 7 K (dk_of tX2_oilBirds 9 rfl) rfl hR (fun hR => ?_)
  refine r_aload_n 15 0 K (dk_of tX2_oilBirds 10 rfl) rfl rfl ?_
  refine r_getf (C := RX2) (T := TX2) (N := 8) 16 1 6 K (dk_of tX2_oilBirds 11 rfl) w66 gwX2 rfl rfl (by decide) rfl ?_
  refine r_iload_n 19 1 K (dk_of tX2_oilBirds 12 rfl) rfl rfl ?_
  refine r_ialdR 20 8 K (dk_of tX2_oilBirds 13 rfl) rfl hR (fun hR => ?_)
  refine r_isub 21 K (dk_of tX2_oilBirds 14 rfl) ?_
  refine r_min 22 K w644 w557 w19 w558 (dk_of tX2_oilBirds 15 rfl) rfl ?_
  refine r_nmI hR (fun x1 hR => ?_)
  refine r_istore_n 25 2 [some (.ref (h 1)), some (.int p1), some (.int x1)] K (dk_of tX2_oilBirds 16 rfl) rfl rfl rfl (by decide) ?_
  refine r_aload_n 26 0 K (dk_of tX2_oilBirds 17 rfl) rfl rfl ?_
  refine r_getf (C := RX2) (T := TX2) (N := 8) 27 1 6 K (dk_of tX2_oilBirds 18 rfl) w66 gwX2 rfl rfl (by decide) rfl ?_
  refine r_iload_n 30 1 K (dk_of tX2_oilBirds 19 rfl) rfl rfl ?_
  refine r_dup2 31 K (dk_of tX2_oilBirds 20 rfl) rfl rfl ?_
  refine r_ialdR 32 8 K (dk_of tX2_oilBirds 21 rfl) rfl hR (fun hR => ?_)
  refine r_iload_n 33 2 K (dk_of tX2_oilBirds 22 rfl) rfl rfl ?_
  refine r_iadd 34 K (dk_of tX2_oilBirds 23 rfl) ?_
  refine r_iastR 35 8 K (dk_of tX2_oilBirds 24 rfl) rfl sB_8 hR (fun hR => ?_)
  refine r_nmS (fun σ2 : St => wB γ h σ2 ++ (r)) hR (fun σ2 hR => ?_)
  exact r_vret 36 K hQ (dk_of tX2_oilBirds 25 rfl) (Nat.zero_le _) (Nat.zero_le _) (lfv (fun u9 : St => wB γ h u9 ++ (r)) hR)

def sp_X2_isTooDirty (p1 : Int32) (σ : St) : Option (Int32) := if p1 < 0 ∨ 24 ≤ p1.toNatClampNeg then none else (if p1 < 0 ∨ 24 ≤ p1.toNatClampNeg then none else (if (σ 2 p1.toNatClampNeg) < 0 ∨ 4 ≤ (σ 2 p1.toNatClampNeg).toNatClampNeg then none else (if (σ 6 p1.toNatClampNeg) ≤ ((tabH (σ 2 p1.toNatClampNeg)) / (20 : Int32)) then (some (0 : Int32)) else (some (1 : Int32)))))
set_option maxHeartbeats 4000000 in
set_option maxRecDepth 100000 in
theorem ct_X2_isTooDirty {l : Launch} (hl : l.stackTraces = false) {γ : Gd} {h : Nat → Nat} {σ : St} {r : va_W} {p1 : Int32} {x0 : Int32} (hR : some x0 = sp_X2_isTooDirty p1 σ) : Ct l γ yX2_isTooDirty (Cond.code yX2_isTooDirty cX2_isTooDirty 2 (some .boolean)) ({ frames := 0, cells := 0, slots := 0, locals := 0 } : Room) [.ref (h 1), .int p1] (wB γ h σ ++ (r)) (Pr (some (.int x0)) (wB γ h σ ++ (r))) 0 0 := by
  refine Ct_of hl (by decide +kernel) rfl (Nat.le_of_ble_eq_true rfl) (L := [some (.ref (h 1)), some (.int p1)]) rfl ?_
  intro X Q K hQ
  generalize ((wB γ h σ ++ (r), Q) : MX) = M at K hQ ⊢
  unfold sp_X2_isTooDirty at hR
  refine r_aload_n 0 0 K (dk_of tX2_isTooDirty 0 rfl) rfl rfl ?_
  refine r_getf (C := RX2) (T := TX2) (N := 8) 1 1 4 K (dk_of tX2_isTooDirty 1 rfl) w60 gwX2 rfl rfl (by decide) rfl ?_
  refine r_iload_n 4 1 K (dk_of tX2_isTooDirty 2 rfl) rfl rfl ?_
  refine r_ialdR 5 6 K (dk_of tX2_isTooDirty 3 rfl) rfl hR (fun hR => ?_)
  refine r_gets0 6 K (dk_of tX2_isTooDirty 4 rfl) ?_
  refine r_aload_n 9 0 K (dk_of tX2_isTooDirty 5 rfl) rfl rfl ?_
  refine r_getf (C := RX2) (T := TX2) (N := 8) 10 1 0 K (dk_of tX2_isTooDirty 6 rfl) w45 gwX2 rfl rfl (by decide) rfl ?_
  refine r_iload_n 13 1 K (dk_of tX2_isTooDirty 7 rfl) rfl rfl ?_
  refine r_ialdR 14 2 K (dk_of tX2_isTooDirty 8 rfl) rfl hR (fun hR => ?_)
  refine r_tab0R 15 K (dk_of tX2_isTooDirty 9 rfl) hR (fun hR => ?_)
  refine r_bipush 16 (20 : Int32) K (dk_of tX2_isTooDirty 10 rfl) (by decide) ?_
  refine r_idiv 18 K (dk_of tX2_isTooDirty 11 rfl) (by decide) ?_
  refine r_ic_le 19 26 K (dk_of tX2_isTooDirty 12 rfl) (by decide) hR (fun hR => ?_) (fun hR => ?_)
  · refine r_iconst 26 (0 : Int32) K (dk_of tX2_isTooDirty 15 rfl) (by decide) ?_
    exact r_zret 27 K hQ (dk_of tX2_isTooDirty 16 rfl) zb0 (Nat.zero_le _) (Nat.zero_le _) (lfi0 hR)
  · refine r_iconst 22 (1 : Int32) K (dk_of tX2_isTooDirty 13 rfl) (by decide) ?_
    refine r_goto 23 27 K (dk_of tX2_isTooDirty 14 rfl) (by decide) ?_
    exact r_zret 27 K hQ (dk_of tX2_isTooDirty 16 rfl) zb1 (Nat.zero_le _) (Nat.zero_le _) (lfi0 hR)

def sp_X2_isClean (p1 : Int32) (σ : St) : Option (Int32) := if p1 < 0 ∨ 24 ≤ p1.toNatClampNeg then none else (b1 (sp_J6_bitCount_0f7a4 (σ 9 p1.toNatClampNeg)) (fun (x1 : Int32) => if x1 < (2 : Int32) then (some (0 : Int32)) else (some (1 : Int32))))
set_option maxHeartbeats 4000000 in
set_option maxRecDepth 100000 in
theorem ct_X2_isClean {l : Launch} (hl : l.stackTraces = false) {γ : Gd} {h : Nat → Nat} {σ : St} {r : va_W} {p1 : Int32} {x0 : Int32} (hR : some x0 = sp_X2_isClean p1 σ) : Ct l γ yX2_isClean (Cond.code yX2_isClean cX2_isClean 2 (some .boolean)) ({ frames := 1, cells := 0, slots := 0, locals := 20 } : Room) [.ref (h 1), .int p1] (wB γ h σ ++ (r)) (Pr (some (.int x0)) (wB γ h σ ++ (r))) 0 0 := by
  refine Ct_of hl (by decide +kernel) rfl (Nat.le_of_ble_eq_true rfl) (L := [some (.ref (h 1)), some (.int p1)]) rfl ?_
  intro X Q K hQ
  generalize ((wB γ h σ ++ (r), Q) : MX) = M at K hQ ⊢
  unfold sp_X2_isClean at hR
  refine r_aload_n 0 0 K (dk_of tX2_isClean 0 rfl) rfl rfl ?_
  refine r_getf (C := RX2) (T := TX2) (N := 8) 1 1 7 K (dk_of tX2_isClean 1 rfl) w68 gwX2 rfl rfl (by decide) rfl ?_
  refine r_iload_n 4 1 K (dk_of tX2_isClean 2 rfl) rfl rfl ?_
  refine r_ialdR 5 9 K (dk_of tX2_isClean 3 rfl) rfl hR (fun hR => ?_)
  obtain ⟨x1, hc, hR⟩ := o1 hR
  refine r_cSi 6 [.int (σ 9 p1.toNatClampNeg)] [] x1 (wB γ h σ ++ (r)) K (ct_J6_bitCount_0f7a4 hl hc.symm) cs_X2_56 ⟨rfl, rfl, rfl⟩ (dk_of tX2_isClean 4 rfl) rfl rfl rfl rfl ?_
  refine r_iconst 9 (2 : Int32) K (dk_of tX2_isClean 5 rfl) (by decide) ?_
  refine r_ic_lt 10 17 K (dk_of tX2_isClean 6 rfl) (by decide) hR (fun hR => ?_) (fun hR => ?_)
  · refine r_iconst 17 (0 : Int32) K (dk_of tX2_isClean 9 rfl) (by decide) ?_
    exact r_zret 18 K hQ (dk_of tX2_isClean 10 rfl) zb0 (Nat.zero_le _) (Nat.zero_le _) (lfi0 hR)
  · refine r_iconst 13 (1 : Int32) K (dk_of tX2_isClean 7 rfl) (by decide) ?_
    refine r_goto 14 18 K (dk_of tX2_isClean 8 rfl) (by decide) ?_
    exact r_zret 18 K hQ (dk_of tX2_isClean 10 rfl) zb1 (Nat.zero_le _) (Nat.zero_le _) (lfi0 hR)

def sp_X2_isKindBeside_3 (σ : St) (y1 : Int32) (y2 : Int32) (y3 : Int32) : Nat → Int32 → Option (Int32)
  | 0, _ => none
  | n + 1, y4 => if (3 : Int32) < y4 then (some (0 : Int32)) else (b1 (sp_X2_beside y1 y4) (fun (x5 : Int32) => if x5 = (-1 : Int32) then (sp_X2_isKindBeside_3 σ y1 y2 y3 n (y4 + 1)) else (if x5 < 0 ∨ 24 ≤ x5.toNatClampNeg then none else (if (σ 2 x5.toNatClampNeg) < y2 then (sp_X2_isKindBeside_3 σ y1 y2 y3 n (y4 + 1)) else (if x5 < 0 ∨ 24 ≤ x5.toNatClampNeg then none else (if y3 < (σ 2 x5.toNatClampNeg) then (sp_X2_isKindBeside_3 σ y1 y2 y3 n (y4 + 1)) else (some (1 : Int32))))))))
def sp_X2_isKindBeside (p1 : Int32) (p2 : Int32) (p3 : Int32) (σ : St) : Option (Int32) := sp_X2_isKindBeside_3 σ p1 p2 p3 200 (0 : Int32)
set_option maxHeartbeats 4000000 in
set_option maxRecDepth 100000 in
theorem ct_X2_isKindBeside {l : Launch} (hl : l.stackTraces = false) {γ : Gd} {h : Nat → Nat} {σ : St} {r : va_W} {p1 : Int32} {p2 : Int32} {p3 : Int32} {x0 : Int32} (hR : some x0 = sp_X2_isKindBeside p1 p2 p3 σ) : Ct l γ yX2_isKindBeside (Cond.code yX2_isKindBeside cX2_isKindBeside 6 (some .boolean)) ({ frames := 1, cells := 0, slots := 0, locals := 23 } : Room) [.ref (h 1), .int p1, .int p2, .int p3] (wB γ h σ ++ (r)) (Pr (some (.int x0)) (wB γ h σ ++ (r))) 0 0 := by
  refine Ct_of hl (by decide +kernel) rfl (Nat.le_of_ble_eq_true rfl) (L := [some (.ref (h 1)), some (.int p1), some (.int p2), some (.int p3), none, none]) rfl ?_
  intro X Q K hQ
  generalize ((wB γ h σ ++ (r), Q) : MX) = M at K hQ ⊢
  unfold sp_X2_isKindBeside at hR
  have b3 : ∀ (y1 : Int32) (y2 : Int32) (y3 : Int32) (n : Nat) (y4 : Int32), some x0 = sp_X2_isKindBeside_3 σ y1 y2 y3 n y4 → V l γ X M (wB γ h σ ++ (r)) [some (.ref (h 1)), some (.int y1), some (.int y2), some (.int y3), some (.int y4), none] 0 0 3 [] := by
    intro y1 y2 y3 n
    induction n with
    | zero => intro y4 hR; exact nn_ hR
    | succ n ih3 =>
      intro y4 hR
      rw [sp_X2_isKindBeside_3] at hR
      refine r_iload 3 4 K (dk_of tX2_isKindBeside 2 rfl) rfl ?_
      refine r_iconst 5 (3 : Int32) K (dk_of tX2_isKindBeside 3 rfl) (by decide) ?_
      refine r_ic_gt 6 53 K (dk_of tX2_isKindBeside 4 rfl) (by decide) hR (fun hR => ?_) (fun hR => ?_)
      · refine r_iconst 53 (0 : Int32) K (dk_of tX2_isKindBeside 28 rfl) (by decide) ?_
        exact r_zret 54 K hQ (dk_of tX2_isKindBeside 29 rfl) zb0 (Nat.zero_le _) (Nat.zero_le _) (lfi0 hR)
      · refine r_iload_n 9 1 K (dk_of tX2_isKindBeside 5 rfl) rfl rfl ?_
        refine r_iload 10 4 K (dk_of tX2_isKindBeside 6 rfl) rfl ?_
        obtain ⟨x5, hc, hR⟩ := o1 hR
        refine r_cSi 12 [.int y1, .int y4] [] x5 (wB γ h σ ++ (r)) K (ct_X2_beside hl hc.symm) cs_X2_42 ⟨rfl, rfl, rfl⟩ (dk_of tX2_isKindBeside 7 rfl) rfl rfl rfl rfl ?_
        refine r_istore 15 5 [some (.ref (h 1)), some (.int y1), some (.int y2), some (.int y3), some (.int y4), some (.int x5)] K (dk_of tX2_isKindBeside 8 rfl) rfl rfl (by decide) ?_
        refine r_iload 17 5 K (dk_of tX2_isKindBeside 9 rfl) rfl ?_
        refine r_iconst 19 (-1) K (dk_of tX2_isKindBeside 10 rfl) (by decide) ?_
        refine r_ic_eq 20 47 K (dk_of tX2_isKindBeside 11 rfl) (by decide) hR (fun hR => ?_) (fun hR => ?_)
        · refine r_iinc 47 4 (y4 + 1) [some (.ref (h 1)), some (.int y1), some (.int y2), some (.int y3), some (.int (y4 + 1)), some (.int x5)] K (dk_of tX2_isKindBeside 26 rfl) rfl rfl rfl rfl (by decide) ?_
          refine r_goto 50 3 K (dk_of tX2_isKindBeside 27 rfl) (by decide) ?_
          exact r_msk [true, true, true, true, true, false] [some (.ref (h 1)), some (.int y1), some (.int y2), some (.int y3), some (.int (y4 + 1)), none] rfl (ih3 (y4 + 1) hR)
        · refine r_aload_n 23 0 K (dk_of tX2_isKindBeside 12 rfl) rfl rfl ?_
          refine r_getf (C := RX2) (T := TX2) (N := 8) 24 1 0 K (dk_of tX2_isKindBeside 13 rfl) w45 gwX2 rfl rfl (by decide) rfl ?_
          refine r_iload 27 5 K (dk_of tX2_isKindBeside 14 rfl) rfl ?_
          refine r_ialdR 29 2 K (dk_of tX2_isKindBeside 15 rfl) rfl hR (fun hR => ?_)
          refine r_iload_n 30 2 K (dk_of tX2_isKindBeside 16 rfl) rfl rfl ?_
          refine r_ic_lt 31 47 K (dk_of tX2_isKindBeside 17 rfl) (by decide) hR (fun hR => ?_) (fun hR => ?_)
          · refine r_iinc 47 4 (y4 + 1) [some (.ref (h 1)), some (.int y1), some (.int y2), some (.int y3), some (.int (y4 + 1)), some (.int x5)] K (dk_of tX2_isKindBeside 26 rfl) rfl rfl rfl rfl (by decide) ?_
            refine r_goto 50 3 K (dk_of tX2_isKindBeside 27 rfl) (by decide) ?_
            exact r_msk [true, true, true, true, true, false] [some (.ref (h 1)), some (.int y1), some (.int y2), some (.int y3), some (.int (y4 + 1)), none] rfl (ih3 (y4 + 1) hR)
          · refine r_aload_n 34 0 K (dk_of tX2_isKindBeside 18 rfl) rfl rfl ?_
            refine r_getf (C := RX2) (T := TX2) (N := 8) 35 1 0 K (dk_of tX2_isKindBeside 19 rfl) w45 gwX2 rfl rfl (by decide) rfl ?_
            refine r_iload 38 5 K (dk_of tX2_isKindBeside 20 rfl) rfl ?_
            refine r_ialdR 40 2 K (dk_of tX2_isKindBeside 21 rfl) rfl hR (fun hR => ?_)
            refine r_iload_n 41 3 K (dk_of tX2_isKindBeside 22 rfl) rfl rfl ?_
            refine r_ic_gt 42 47 K (dk_of tX2_isKindBeside 23 rfl) (by decide) hR (fun hR => ?_) (fun hR => ?_)
            · refine r_iinc 47 4 (y4 + 1) [some (.ref (h 1)), some (.int y1), some (.int y2), some (.int y3), some (.int (y4 + 1)), some (.int x5)] K (dk_of tX2_isKindBeside 26 rfl) rfl rfl rfl rfl (by decide) ?_
              refine r_goto 50 3 K (dk_of tX2_isKindBeside 27 rfl) (by decide) ?_
              exact r_msk [true, true, true, true, true, false] [some (.ref (h 1)), some (.int y1), some (.int y2), some (.int y3), some (.int (y4 + 1)), none] rfl (ih3 (y4 + 1) hR)
            · refine r_iconst 45 (1 : Int32) K (dk_of tX2_isKindBeside 24 rfl) (by decide) ?_
              exact r_zret 46 K hQ (dk_of tX2_isKindBeside 25 rfl) zb1 (Nat.zero_le _) (Nat.zero_le _) (lfi0 hR)
  refine r_iconst 0 (0 : Int32) K (dk_of tX2_isKindBeside 0 rfl) (by decide) ?_
  refine r_istore 1 4 [some (.ref (h 1)), some (.int p1), some (.int p2), some (.int p3), some (.int (0 : Int32)), none] K (dk_of tX2_isKindBeside 1 rfl) rfl rfl (by decide) ?_
  exact b3 p1 p2 p3 200 (0 : Int32) hR

def sp_X2_becomeLike  (σ : St) (τ : St) : Option (St) := sl (stC σ 2 (va_cpy (τ 2) (σ 2) (0 : Int32).toNatClampNeg (0 : Int32).toNatClampNeg (24 : Int32).toNatClampNeg)) (fun σ1 : St => sl (stC σ1 4 (va_cpy (τ 4) (σ1 4) (0 : Int32).toNatClampNeg (0 : Int32).toNatClampNeg (24 : Int32).toNatClampNeg)) (fun σ2 : St => sl (stC σ2 5 (va_cpy (τ 5) (σ2 5) (0 : Int32).toNatClampNeg (0 : Int32).toNatClampNeg (24 : Int32).toNatClampNeg)) (fun σ3 : St => sl (stC σ3 6 (va_cpy (τ 6) (σ3 6) (0 : Int32).toNatClampNeg (0 : Int32).toNatClampNeg (24 : Int32).toNatClampNeg)) (fun σ4 : St => some σ4))))
set_option maxHeartbeats 4000000 in
set_option maxRecDepth 100000 in
theorem ct_X2_becomeLike {l : Launch} (hl : l.stackTraces = false) {γ : Gd} {h : Nat → Nat} {g : Nat → Nat} {σ : St} {τ : St} {r : va_W}  {σ0 : St} (hR : some σ0 = sp_X2_becomeLike σ τ) : Ct l γ yX2_becomeLike (Cond.code yX2_becomeLike cX2_becomeLike 2 none) ({ frames := 1, cells := 0, slots := 0, locals := 40 } : Room) [.ref (h 1), .ref (g 1)] (wB γ h σ ++ (wB γ g τ ++ (r))) (Pr none (wB γ h σ0 ++ (wB γ g τ ++ (r)))) 0 0 := by
  refine Ct_of hl (by decide +kernel) rfl (Nat.le_of_ble_eq_true rfl) (L := [some (.ref (h 1)), some (.ref (g 1))]) rfl ?_
  intro X Q K hQ
  generalize ((wB γ h σ ++ (wB γ g τ ++ (r)), Q) : MX) = M at K hQ ⊢
  unfold sp_X2_becomeLike at hR
  refine r_aload_n 0 1 K (dk_of tX2_becomeLike 0 rfl) rfl rfl ?_
  refine r_getf (C := RX2) (T := TX2) (N := 8) 1 27 0 K (dk_of tX2_becomeLike 1 rfl) w45 gwX2 rfl rfl (by decide) rfl ?_
  refine r_iconst 4 (0 : Int32) K (dk_of tX2_becomeLike 2 rfl) (by decide) ?_
  refine r_aload_n 5 0 K (dk_of tX2_becomeLike 3 rfl) rfl rfl ?_
  refine r_getf (C := RX2) (T := TX2) (N := 8) 6 1 0 K (dk_of tX2_becomeLike 4 rfl) w45 gwX2 rfl rfl (by decide) rfl ?_
  refine r_iconst 9 (0 : Int32) K (dk_of tX2_becomeLike 5 rfl) (by decide) ?_
  refine r_bipush 10 (24 : Int32) K (dk_of tX2_becomeLike 6 rfl) (by decide) ?_
  refine r_copy 12 28 2 K w922 w924 w923 w21 (dk_of tX2_becomeLike 7 rfl) rfl rfl (by decide) (by decide) (by decide) (by decide) (by decide) cB_2 rfl ?_
  refine r_nmS (fun σ1 : St => wB γ h σ1 ++ (wB γ g τ ++ (r))) hR (fun σ1 hR => ?_)
  refine r_aload_n 15 1 K (dk_of tX2_becomeLike 8 rfl) rfl rfl ?_
  refine r_getf (C := RX2) (T := TX2) (N := 8) 16 27 2 K (dk_of tX2_becomeLike 9 rfl) w50 gwX2 rfl rfl (by decide) rfl ?_
  refine r_iconst 19 (0 : Int32) K (dk_of tX2_becomeLike 10 rfl) (by decide) ?_
  refine r_aload_n 20 0 K (dk_of tX2_becomeLike 11 rfl) rfl rfl ?_
  refine r_getf (C := RX2) (T := TX2) (N := 8) 21 1 2 K (dk_of tX2_becomeLike 12 rfl) w50 gwX2 rfl rfl (by decide) rfl ?_
  refine r_iconst 24 (0 : Int32) K (dk_of tX2_becomeLike 13 rfl) (by decide) ?_
  refine r_bipush 25 (24 : Int32) K (dk_of tX2_becomeLike 14 rfl) (by decide) ?_
  refine r_copy 27 30 4 K w922 w924 w923 w21 (dk_of tX2_becomeLike 15 rfl) rfl rfl (by decide) (by decide) (by decide) (by decide) (by decide) cB_4 rfl ?_
  refine r_nmS (fun σ2 : St => wB γ h σ2 ++ (wB γ g τ ++ (r))) hR (fun σ2 hR => ?_)
  refine r_aload_n 30 1 K (dk_of tX2_becomeLike 16 rfl) rfl rfl ?_
  refine r_getf (C := RX2) (T := TX2) (N := 8) 31 27 3 K (dk_of tX2_becomeLike 17 rfl) w55 gwX2 rfl rfl (by decide) rfl ?_
  refine r_iconst 34 (0 : Int32) K (dk_of tX2_becomeLike 18 rfl) (by decide) ?_
  refine r_aload_n 35 0 K (dk_of tX2_becomeLike 19 rfl) rfl rfl ?_
  refine r_getf (C := RX2) (T := TX2) (N := 8) 36 1 3 K (dk_of tX2_becomeLike 20 rfl) w55 gwX2 rfl rfl (by decide) rfl ?_
  refine r_iconst 39 (0 : Int32) K (dk_of tX2_becomeLike 21 rfl) (by decide) ?_
  refine r_bipush 40 (24 : Int32) K (dk_of tX2_becomeLike 22 rfl) (by decide) ?_
  refine r_copy 42 31 5 K w922 w924 w923 w21 (dk_of tX2_becomeLike 23 rfl) rfl rfl (by decide) (by decide) (by decide) (by decide) (by decide) cB_5 rfl ?_
  refine r_nmS (fun σ3 : St => wB γ h σ3 ++ (wB γ g τ ++ (r))) hR (fun σ3 hR => ?_)
  refine r_aload_n 45 1 K (dk_of tX2_becomeLike 24 rfl) rfl rfl ?_
  refine r_getf (C := RX2) (T := TX2) (N := 8) 46 27 4 K (dk_of tX2_becomeLike 25 rfl) w60 gwX2 rfl rfl (by decide) rfl ?_
  refine r_iconst 49 (0 : Int32) K (dk_of tX2_becomeLike 26 rfl) (by decide) ?_
  refine r_aload_n 50 0 K (dk_of tX2_becomeLike 27 rfl) rfl rfl ?_
  refine r_getf (C := RX2) (T := TX2) (N := 8) 51 1 4 K (dk_of tX2_becomeLike 28 rfl) w60 gwX2 rfl rfl (by decide) rfl ?_
  refine r_iconst 54 (0 : Int32) K (dk_of tX2_becomeLike 29 rfl) (by decide) ?_
  refine r_bipush 55 (24 : Int32) K (dk_of tX2_becomeLike 30 rfl) (by decide) ?_
  refine r_copy 57 32 6 K w922 w924 w923 w21 (dk_of tX2_becomeLike 31 rfl) rfl rfl (by decide) (by decide) (by decide) (by decide) (by decide) cB_6 rfl ?_
  refine r_nmS (fun σ4 : St => wB γ h σ4 ++ (wB γ g τ ++ (r))) hR (fun σ4 hR => ?_)
  exact r_vret 60 K hQ (dk_of tX2_becomeLike 32 rfl) (Nat.zero_le _) (Nat.zero_le _) (lfv (fun u9 : St => wB γ h u9 ++ (wB γ g τ ++ (r))) hR)

def sp_X2_oilOf (p1 : Int32) (σ : St) : Option (Int32) := if p1 < 0 ∨ 24 ≤ p1.toNatClampNeg then none else (if p1 < 0 ∨ 24 ≤ p1.toNatClampNeg then none else (if p1 < 0 ∨ 24 ≤ p1.toNatClampNeg then none else (some (((σ 4 p1.toNatClampNeg) + (σ 5 p1.toNatClampNeg)) + (σ 6 p1.toNatClampNeg)))))
set_option maxHeartbeats 4000000 in
set_option maxRecDepth 100000 in
theorem ct_X2_oilOf {l : Launch} (hl : l.stackTraces = false) {γ : Gd} {h : Nat → Nat} {σ : St} {r : va_W} {p1 : Int32} {x0 : Int32} (hR : some x0 = sp_X2_oilOf p1 σ) : Ct l γ yX2_oilOf (Cond.code yX2_oilOf cX2_oilOf 2 (some .int)) ({ frames := 0, cells := 0, slots := 0, locals := 0 } : Room) [.ref (h 1), .int p1] (wB γ h σ ++ (r)) (Pr (some (.int x0)) (wB γ h σ ++ (r))) 0 0 := by
  refine Ct_of hl (by decide +kernel) rfl (Nat.le_of_ble_eq_true rfl) (L := [some (.ref (h 1)), some (.int p1)]) rfl ?_
  intro X Q K hQ
  generalize ((wB γ h σ ++ (r), Q) : MX) = M at K hQ ⊢
  unfold sp_X2_oilOf at hR
  refine r_aload_n 0 0 K (dk_of tX2_oilOf 0 rfl) rfl rfl ?_
  refine r_getf (C := RX2) (T := TX2) (N := 8) 1 1 2 K (dk_of tX2_oilOf 1 rfl) w50 gwX2 rfl rfl (by decide) rfl ?_
  refine r_iload_n 4 1 K (dk_of tX2_oilOf 2 rfl) rfl rfl ?_
  refine r_ialdR 5 4 K (dk_of tX2_oilOf 3 rfl) rfl hR (fun hR => ?_)
  refine r_aload_n 6 0 K (dk_of tX2_oilOf 4 rfl) rfl rfl ?_
  refine r_getf (C := RX2) (T := TX2) (N := 8) 7 1 3 K (dk_of tX2_oilOf 5 rfl) w55 gwX2 rfl rfl (by decide) rfl ?_
  refine r_iload_n 10 1 K (dk_of tX2_oilOf 6 rfl) rfl rfl ?_
  refine r_ialdR 11 5 K (dk_of tX2_oilOf 7 rfl) rfl hR (fun hR => ?_)
  refine r_iadd 12 K (dk_of tX2_oilOf 8 rfl) ?_
  refine r_aload_n 13 0 K (dk_of tX2_oilOf 9 rfl) rfl rfl ?_
  refine r_getf (C := RX2) (T := TX2) (N := 8) 14 1 4 K (dk_of tX2_oilOf 10 rfl) w60 gwX2 rfl rfl (by decide) rfl ?_
  refine r_iload_n 17 1 K (dk_of tX2_oilOf 11 rfl) rfl rfl ?_
  refine r_ialdR 18 6 K (dk_of tX2_oilOf 12 rfl) rfl hR (fun hR => ?_)
  refine r_iadd 19 K (dk_of tX2_oilOf 13 rfl) ?_
  exact r_iret 20 K hQ (dk_of tX2_oilOf 14 rfl) (Nat.zero_le _) (Nat.zero_le _) (lfi0 hR)

def sp_X2_allFloating_4 (σ : St) : Nat → Int32 → Int32 → Option (Int32)
  | 0, _, _ => none
  | n + 1, y1, y2 => if (24 : Int32) ≤ y2 then (some y1) else (if y2 < 0 ∨ 24 ≤ y2.toNatClampNeg then none else (if y2 < 0 ∨ 24 ≤ y2.toNatClampNeg then none else (sl ((y1 + ((σ 4 y2.toNatClampNeg) + (σ 5 y2.toNatClampNeg)))) (fun x3 : Int32 => sp_X2_allFloating_4 σ n x3 (y2 + 1)))))
def sp_X2_allFloating  (σ : St) : Option (Int32) := sp_X2_allFloating_4 σ 200 (0 : Int32) (0 : Int32)
set_option maxHeartbeats 4000000 in
set_option maxRecDepth 100000 in
theorem ct_X2_allFloating {l : Launch} (hl : l.stackTraces = false) {γ : Gd} {h : Nat → Nat} {σ : St} {r : va_W}  {x0 : Int32} (hR : some x0 = sp_X2_allFloating σ) : Ct l γ yX2_allFloating (Cond.code yX2_allFloating cX2_allFloating 3 (some .int)) ({ frames := 0, cells := 0, slots := 0, locals := 0 } : Room) [.ref (h 1)] (wB γ h σ ++ (r)) (Pr (some (.int x0)) (wB γ h σ ++ (r))) 0 0 := by
  refine Ct_of hl (by decide +kernel) rfl (Nat.le_of_ble_eq_true rfl) (L := [some (.ref (h 1)), none, none]) rfl ?_
  intro X Q K hQ
  generalize ((wB γ h σ ++ (r), Q) : MX) = M at K hQ ⊢
  unfold sp_X2_allFloating at hR
  have b4 : ∀  (n : Nat) (y1 : Int32) (y2 : Int32), some x0 = sp_X2_allFloating_4 σ n y1 y2 → V l γ X M (wB γ h σ ++ (r)) [some (.ref (h 1)), some (.int y1), some (.int y2)] 0 0 4 [] := by
    intro  n
    induction n with
    | zero => intro y1 y2 hR; exact nn_ hR
    | succ n ih4 =>
      intro y1 y2 hR
      rw [sp_X2_allFloating_4] at hR
      refine r_iload_n 4 2 K (dk_of tX2_allFloating 4 rfl) rfl rfl ?_
      refine r_bipush 5 (24 : Int32) K (dk_of tX2_allFloating 5 rfl) (by decide) ?_
      refine r_ic_ge 7 32 K (dk_of tX2_allFloating 6 rfl) (by decide) hR (fun hR => ?_) (fun hR => ?_)
      · refine r_iload_n 32 1 K (dk_of tX2_allFloating 21 rfl) rfl rfl ?_
        exact r_iret 33 K hQ (dk_of tX2_allFloating 22 rfl) (Nat.zero_le _) (Nat.zero_le _) (lfi0 hR)
      · refine r_iload_n 10 1 K (dk_of tX2_allFloating 7 rfl) rfl rfl ?_
        refine r_aload_n 11 0 K (dk_of tX2_allFloating 8 rfl) rfl rfl ?_
        refine r_getf (C := RX2) (T := TX2) (N := 8) 12 1 2 K (dk_of tX2_allFloating 9 rfl) w50 gwX2 rfl rfl (by decide) rfl ?_
        refine r_iload_n 15 2 K (dk_of tX2_allFloating 10 rfl) rfl rfl ?_
        refine r_ialdR 16 4 K (dk_of tX2_allFloating 11 rfl) rfl hR (fun hR => ?_)
        refine r_aload_n 17 0 K (dk_of tX2_allFloating 12 rfl) rfl rfl ?_
        refine r_getf (C := RX2) (T := TX2) (N := 8) 18 1 3 K (dk_of tX2_allFloating 13 rfl) w55 gwX2 rfl rfl (by decide) rfl ?_
        refine r_iload_n 21 2 K (dk_of tX2_allFloating 14 rfl) rfl rfl ?_
        refine r_ialdR 22 5 K (dk_of tX2_allFloating 15 rfl) rfl hR (fun hR => ?_)
        refine r_iadd 23 K (dk_of tX2_allFloating 16 rfl) ?_
        refine r_iadd 24 K (dk_of tX2_allFloating 17 rfl) ?_
        refine r_nmI hR (fun x3 hR => ?_)
        refine r_istore_n 25 1 [some (.ref (h 1)), some (.int x3), some (.int y2)] K (dk_of tX2_allFloating 18 rfl) rfl rfl rfl (by decide) ?_
        refine r_iinc 26 2 (y2 + 1) [some (.ref (h 1)), some (.int x3), some (.int (y2 + 1))] K (dk_of tX2_allFloating 19 rfl) rfl rfl rfl rfl (by decide) ?_
        refine r_goto 29 4 K (dk_of tX2_allFloating 20 rfl) (by decide) ?_
        exact ih4 x3 (y2 + 1) hR
  refine r_iconst 0 (0 : Int32) K (dk_of tX2_allFloating 0 rfl) (by decide) ?_
  refine r_istore_n 1 1 [some (.ref (h 1)), some (.int (0 : Int32)), none] K (dk_of tX2_allFloating 1 rfl) rfl rfl rfl (by decide) ?_
  refine r_iconst 2 (0 : Int32) K (dk_of tX2_allFloating 2 rfl) (by decide) ?_
  refine r_istore_n 3 2 [some (.ref (h 1)), some (.int (0 : Int32)), some (.int (0 : Int32))] K (dk_of tX2_allFloating 3 rfl) rfl rfl rfl (by decide) ?_
  exact b4 200 (0 : Int32) (0 : Int32) hR

def sp_X2_allStranded_4 (σ : St) : Nat → Int32 → Int32 → Option (Int32)
  | 0, _, _ => none
  | n + 1, y1, y2 => if (24 : Int32) ≤ y2 then (some y1) else (if y2 < 0 ∨ 24 ≤ y2.toNatClampNeg then none else (sl ((y1 + (σ 6 y2.toNatClampNeg))) (fun x3 : Int32 => sp_X2_allStranded_4 σ n x3 (y2 + 1))))
def sp_X2_allStranded  (σ : St) : Option (Int32) := sp_X2_allStranded_4 σ 200 (0 : Int32) (0 : Int32)
set_option maxHeartbeats 4000000 in
set_option maxRecDepth 100000 in
theorem ct_X2_allStranded {l : Launch} (hl : l.stackTraces = false) {γ : Gd} {h : Nat → Nat} {σ : St} {r : va_W}  {x0 : Int32} (hR : some x0 = sp_X2_allStranded σ) : Ct l γ yX2_allStranded (Cond.code yX2_allStranded cX2_allStranded 3 (some .int)) ({ frames := 0, cells := 0, slots := 0, locals := 0 } : Room) [.ref (h 1)] (wB γ h σ ++ (r)) (Pr (some (.int x0)) (wB γ h σ ++ (r))) 0 0 := by
  refine Ct_of hl (by decide +kernel) rfl (Nat.le_of_ble_eq_true rfl) (L := [some (.ref (h 1)), none, none]) rfl ?_
  intro X Q K hQ
  generalize ((wB γ h σ ++ (r), Q) : MX) = M at K hQ ⊢
  unfold sp_X2_allStranded at hR
  have b4 : ∀  (n : Nat) (y1 : Int32) (y2 : Int32), some x0 = sp_X2_allStranded_4 σ n y1 y2 → V l γ X M (wB γ h σ ++ (r)) [some (.ref (h 1)), some (.int y1), some (.int y2)] 0 0 4 [] := by
    intro  n
    induction n with
    | zero => intro y1 y2 hR; exact nn_ hR
    | succ n ih4 =>
      intro y1 y2 hR
      rw [sp_X2_allStranded_4] at hR
      refine r_iload_n 4 2 K (dk_of tX2_allStranded 4 rfl) rfl rfl ?_
      refine r_bipush 5 (24 : Int32) K (dk_of tX2_allStranded 5 rfl) (by decide) ?_
      refine r_ic_ge 7 25 K (dk_of tX2_allStranded 6 rfl) (by decide) hR (fun hR => ?_) (fun hR => ?_)
      · refine r_iload_n 25 1 K (dk_of tX2_allStranded 16 rfl) rfl rfl ?_
        exact r_iret 26 K hQ (dk_of tX2_allStranded 17 rfl) (Nat.zero_le _) (Nat.zero_le _) (lfi0 hR)
      · refine r_iload_n 10 1 K (dk_of tX2_allStranded 7 rfl) rfl rfl ?_
        refine r_aload_n 11 0 K (dk_of tX2_allStranded 8 rfl) rfl rfl ?_
        refine r_getf (C := RX2) (T := TX2) (N := 8) 12 1 4 K (dk_of tX2_allStranded 9 rfl) w60 gwX2 rfl rfl (by decide) rfl ?_
        refine r_iload_n 15 2 K (dk_of tX2_allStranded 10 rfl) rfl rfl ?_
        refine r_ialdR 16 6 K (dk_of tX2_allStranded 11 rfl) rfl hR (fun hR => ?_)
        refine r_iadd 17 K (dk_of tX2_allStranded 12 rfl) ?_
        refine r_nmI hR (fun x3 hR => ?_)
        refine r_istore_n 18 1 [some (.ref (h 1)), some (.int x3), some (.int y2)] K (dk_of tX2_allStranded 13 rfl) rfl rfl rfl (by decide) ?_
        refine r_iinc 19 2 (y2 + 1) [some (.ref (h 1)), some (.int x3), some (.int (y2 + 1))] K (dk_of tX2_allStranded 14 rfl) rfl rfl rfl rfl (by decide) ?_
        refine r_goto 22 4 K (dk_of tX2_allStranded 15 rfl) (by decide) ?_
        exact ih4 x3 (y2 + 1) hR
  refine r_iconst 0 (0 : Int32) K (dk_of tX2_allStranded 0 rfl) (by decide) ?_
  refine r_istore_n 1 1 [some (.ref (h 1)), some (.int (0 : Int32)), none] K (dk_of tX2_allStranded 1 rfl) rfl rfl rfl (by decide) ?_
  refine r_iconst 2 (0 : Int32) K (dk_of tX2_allStranded 2 rfl) (by decide) ?_
  refine r_istore_n 3 2 [some (.ref (h 1)), some (.int (0 : Int32)), some (.int (0 : Int32))] K (dk_of tX2_allStranded 3 rfl) rfl rfl rfl (by decide) ?_
  exact b4 200 (0 : Int32) (0 : Int32) hR
end
section
def sp_X1_noteLeak_17  (y1 : Int32) (σ2 : St) : Option (St) := sl (stU σ2 23 0 ((σ2 23 0) + y1)) (fun σ3 : St => some σ3)
def sp_X1_noteLeak (p1 : Int32) (p2 : Int32) (σ : St) : Option (St) := if p1 ≤ 0 then (sp_X1_noteLeak_17 p1 σ) else (if (σ 23 1) = (-1 : Int32) then (sl (stU σ 23 1 p2) (fun σ4 : St => sp_X1_noteLeak_17 p1 σ4)) else (sp_X1_noteLeak_17 p1 σ))
set_option maxHeartbeats 4000000 in
set_option maxRecDepth 100000 in
theorem ct_X1_noteLeak {l : Launch} (hl : l.stackTraces = false) {γ : Gd} {h : Nat → Nat} {σ : St} {r : va_W} {p1 : Int32} {p2 : Int32} {σ0 : St} (hR : some σ0 = sp_X1_noteLeak p1 p2 σ) : Ct l γ yX1_noteLeak (Cond.code yX1_noteLeak cX1_noteLeak 3 none) ({ frames := 0, cells := 0, slots := 0, locals := 0 } : Room) [.ref (h 23), .int p1, .int p2] (wB γ h σ ++ (r)) (Pr none (wB γ h σ0 ++ (r))) 0 0 := by
  refine Ct_of hl (by decide +kernel) rfl (Nat.le_of_ble_eq_true rfl) (L := [some (.ref (h 23)), some (.int p1), some (.int p2)]) rfl ?_
  intro X Q K hQ
  generalize ((wB γ h σ ++ (r), Q) : MX) = M at K hQ ⊢
  unfold sp_X1_noteLeak at hR
  have b17 : ∀ (y1 : Int32) (σ2 : St), some σ0 = sp_X1_noteLeak_17  y1 σ2 → V l γ X M (wB γ h σ2 ++ (r)) [some (.ref (h 23)), some (.int y1), none] 0 0 17 [] := by
    intro  y1 σ2 hR
    unfold sp_X1_noteLeak_17 at hR
    refine r_aload_n 17 0 K (dk_of tX1_noteLeak 9 rfl) rfl rfl ?_
    refine r_dup 18 K (dk_of tX1_noteLeak 10 rfl) rfl ?_
    refine r_getf (C := RX1) (T := TX1) (N := 7) 19 23 0 K (dk_of tX1_noteLeak 11 rfl) w172 gwX1 rfl rfl (by decide) rfl ?_
    refine r_iload_n 22 1 K (dk_of tX1_noteLeak 12 rfl) rfl rfl ?_
    refine r_iadd 23 K (dk_of tX1_noteLeak 13 rfl) ?_
    refine r_putf (C := RX1) (T := TX1) (N := 7) 24 23 0 K (dk_of tX1_noteLeak 14 rfl) w172 gwX1 tyX1_ok nmX1 rfl rfl (by decide) rfl rfl rfl rfl (Nat.le_of_ble_eq_true rfl) sB_23_0 ?_
    refine r_nmS (fun σ3 : St => wB γ h σ3 ++ (r)) hR (fun σ3 hR => ?_)
    exact r_vret 27 K hQ (dk_of tX1_noteLeak 15 rfl) (Nat.zero_le _) (Nat.zero_le _) (lfv (fun u9 : St => wB γ h u9 ++ (r)) hR)
  refine r_iload_n 0 1 K (dk_of tX1_noteLeak 0 rfl) rfl rfl ?_
  refine r_if_le 1 17 K (dk_of tX1_noteLeak 1 rfl) (by decide) hR (fun hR => ?_) (fun hR => ?_)
  · exact r_msk [true, true, false] [some (.ref (h 23)), some (.int p1), none] rfl (b17 p1 σ hR)
  · refine r_aload_n 4 0 K (dk_of tX1_noteLeak 2 rfl) rfl rfl ?_
    refine r_getf (C := RX1) (T := TX1) (N := 7) 5 23 1 K (dk_of tX1_noteLeak 3 rfl) w174 gwX1 rfl rfl (by decide) rfl ?_
    refine r_iconst 8 (-1) K (dk_of tX1_noteLeak 4 rfl) (by decide) ?_
    refine r_ic_ne 9 17 K (dk_of tX1_noteLeak 5 rfl) (by decide) hR (fun hR => ?_) (fun hR => ?_)
    · refine r_aload_n 12 0 K (dk_of tX1_noteLeak 6 rfl) rfl rfl ?_
      refine r_iload_n 13 2 K (dk_of tX1_noteLeak 7 rfl) rfl rfl ?_
      refine r_putf (C := RX1) (T := TX1) (N := 7) 14 23 1 K (dk_of tX1_noteLeak 8 rfl) w174 gwX1 tyX1_ok nmX1 rfl rfl (by decide) rfl rfl rfl rfl (Nat.le_of_ble_eq_true rfl) sB_23_1 ?_
      refine r_nmS (fun σ4 : St => wB γ h σ4 ++ (r)) hR (fun σ4 hR => ?_)
      exact r_msk [true, true, false] [some (.ref (h 23)), some (.int p1), none] rfl (b17 p1 σ4 hR)
    · exact r_msk [true, true, false] [some (.ref (h 23)), some (.int p1), none] rfl (b17 p1 σ hR)

def sp_X8_isAnyAt_2 (σ : St) (y1 : Int32) : Nat → Int32 → Option (Int32)
  | 0, _ => none
  | n + 1, y2 => if (σ 10 0) ≤ y2 then (some (0 : Int32)) else (if y2 < 0 ∨ 4 ≤ y2.toNatClampNeg then none else (if (σ 11 y2.toNatClampNeg) = y1 then (some (1 : Int32)) else (sp_X8_isAnyAt_2 σ y1 n (y2 + 1))))
def sp_X8_isAnyAt (p1 : Int32) (σ : St) : Option (Int32) := sp_X8_isAnyAt_2 σ p1 200 (0 : Int32)
set_option maxHeartbeats 4000000 in
set_option maxRecDepth 100000 in
theorem ct_X8_isAnyAt {l : Launch} (hl : l.stackTraces = false) {γ : Gd} {h : Nat → Nat} {σ : St} {r : va_W} {p1 : Int32} {x0 : Int32} (hR : some x0 = sp_X8_isAnyAt p1 σ) : Ct l γ yX8_isAnyAt (Cond.code yX8_isAnyAt cX8_isAnyAt 3 (some .boolean)) ({ frames := 0, cells := 0, slots := 0, locals := 0 } : Room) [.ref (h 10), .int p1] (wB γ h σ ++ (r)) (Pr (some (.int x0)) (wB γ h σ ++ (r))) 0 0 := by
  refine Ct_of hl (by decide +kernel) rfl (Nat.le_of_ble_eq_true rfl) (L := [some (.ref (h 10)), some (.int p1), none]) rfl ?_
  intro X Q K hQ
  generalize ((wB γ h σ ++ (r), Q) : MX) = M at K hQ ⊢
  unfold sp_X8_isAnyAt at hR
  have b2 : ∀ (y1 : Int32) (n : Nat) (y2 : Int32), some x0 = sp_X8_isAnyAt_2 σ y1 n y2 → V l γ X M (wB γ h σ ++ (r)) [some (.ref (h 10)), some (.int y1), some (.int y2)] 0 0 2 [] := by
    intro y1 n
    induction n with
    | zero => intro y2 hR; exact nn_ hR
    | succ n ih2 =>
      intro y2 hR
      rw [sp_X8_isAnyAt_2] at hR
      refine r_iload_n 2 2 K (dk_of tX8_isAnyAt 2 rfl) rfl rfl ?_
      refine r_aload_n 3 0 K (dk_of tX8_isAnyAt 3 rfl) rfl rfl ?_
      refine r_getf (C := RX8) (T := TX8) (N := 4) 4 10 0 K (dk_of tX8_isAnyAt 4 rfl) w95 gwX8 rfl rfl (by decide) rfl ?_
      refine r_ic_ge 7 28 K (dk_of tX8_isAnyAt 5 rfl) (by decide) hR (fun hR => ?_) (fun hR => ?_)
      · refine r_iconst 28 (0 : Int32) K (dk_of tX8_isAnyAt 16 rfl) (by decide) ?_
        exact r_zret 29 K hQ (dk_of tX8_isAnyAt 17 rfl) zb0 (Nat.zero_le _) (Nat.zero_le _) (lfi0 hR)
      · refine r_aload_n 10 0 K (dk_of tX8_isAnyAt 6 rfl) rfl rfl ?_
        refine r_getf (C := RX8) (T := TX8) (N := 4) 11 10 1 K (dk_of tX8_isAnyAt 7 rfl) w99 gwX8 rfl rfl (by decide) rfl ?_
        refine r_iload_n 14 2 K (dk_of tX8_isAnyAt 8 rfl) rfl rfl ?_
        refine r_ialdR 15 11 K (dk_of tX8_isAnyAt 9 rfl) rfl hR (fun hR => ?_)
        refine r_iload_n 16 1 K (dk_of tX8_isAnyAt 10 rfl) rfl rfl ?_
        refine r_ic_ne 17 22 K (dk_of tX8_isAnyAt 11 rfl) (by decide) hR (fun hR => ?_) (fun hR => ?_)
        · refine r_iconst 20 (1 : Int32) K (dk_of tX8_isAnyAt 12 rfl) (by decide) ?_
          exact r_zret 21 K hQ (dk_of tX8_isAnyAt 13 rfl) zb1 (Nat.zero_le _) (Nat.zero_le _) (lfi0 hR)
        · refine r_iinc 22 2 (y2 + 1) [some (.ref (h 10)), some (.int y1), some (.int (y2 + 1))] K (dk_of tX8_isAnyAt 14 rfl) rfl rfl rfl rfl (by decide) ?_
          refine r_goto 25 2 K (dk_of tX8_isAnyAt 15 rfl) (by decide) ?_
          exact ih2 (y2 + 1) hR
  refine r_iconst 0 (0 : Int32) K (dk_of tX8_isAnyAt 0 rfl) (by decide) ?_
  refine r_istore_n 1 2 [some (.ref (h 10)), some (.int p1), some (.int (0 : Int32))] K (dk_of tX8_isAnyAt 1 rfl) rfl rfl rfl (by decide) ?_
  exact b2 p1 200 (0 : Int32) hR

def sp_X8_add (p1 : Int32) (p2 : Int32) (σ : St) : Option (Int32 × St) := sl ((σ 10 0)) (fun x1 : Int32 => if x1 < 0 ∨ 4 ≤ x1.toNatClampNeg then none else (sl (stU σ 11 x1.toNatClampNeg p1) (fun σ2 : St => if x1 < 0 ∨ 4 ≤ x1.toNatClampNeg then none else (sl (stU σ2 12 x1.toNatClampNeg p2) (fun σ3 : St => sl (stU σ3 10 0 ((σ3 10 0) + (1 : Int32))) (fun σ4 : St => some (x1, σ4)))))))
set_option maxHeartbeats 4000000 in
set_option maxRecDepth 100000 in
theorem ct_X8_add {l : Launch} (hl : l.stackTraces = false) {γ : Gd} {h : Nat → Nat} {σ : St} {r : va_W} {p1 : Int32} {p2 : Int32} {x0 : Int32} {σ0 : St} (hR : some (x0, σ0) = sp_X8_add p1 p2 σ) : Ct l γ yX8_add (Cond.code yX8_add cX8_add 4 (some .int)) ({ frames := 0, cells := 0, slots := 0, locals := 0 } : Room) [.ref (h 10), .int p1, .int p2] (wB γ h σ ++ (r)) (Pr (some (.int x0)) (wB γ h σ0 ++ (r))) 0 0 := by
  refine Ct_of hl (by decide +kernel) rfl (Nat.le_of_ble_eq_true rfl) (L := [some (.ref (h 10)), some (.int p1), some (.int p2), none]) rfl ?_
  intro X Q K hQ
  generalize ((wB γ h σ ++ (r), Q) : MX) = M at K hQ ⊢
  unfold sp_X8_add at hR
  refine r_aload_n 0 0 K (dk_of tX8_add 0 rfl) rfl rfl ?_
  refine r_getf (C := RX8) (T := TX8) (N := 4) 1 10 0 K (dk_of tX8_add 1 rfl) w95 gwX8 rfl rfl (by decide) rfl ?_
  refine r_nmI hR (fun x1 hR => ?_)
  refine r_istore_n 4 3 [some (.ref (h 10)), some (.int p1), some (.int p2), some (.int x1)] K (dk_of tX8_add 2 rfl) rfl rfl rfl (by decide) ?_
  refine r_aload_n 5 0 K (dk_of tX8_add 3 rfl) rfl rfl ?_
  refine r_getf (C := RX8) (T := TX8) (N := 4) 6 10 1 K (dk_of tX8_add 4 rfl) w99 gwX8 rfl rfl (by decide) rfl ?_
  refine r_iload_n 9 3 K (dk_of tX8_add 5 rfl) rfl rfl ?_
  refine r_iload_n 10 1 K (dk_of tX8_add 6 rfl) rfl rfl ?_
  refine r_iastR 11 11 K (dk_of tX8_add 7 rfl) rfl sB_11 hR (fun hR => ?_)
  refine r_nmS (fun σ2 : St => wB γ h σ2 ++ (r)) hR (fun σ2 hR => ?_)
  refine r_aload_n 12 0 K (dk_of tX8_add 8 rfl) rfl rfl ?_
  refine r_getf (C := RX8) (T := TX8) (N := 4) 13 10 2 K (dk_of tX8_add 9 rfl) w102 gwX8 rfl rfl (by decide) rfl ?_
  refine r_iload_n 16 3 K (dk_of tX8_add 10 rfl) rfl rfl ?_
  refine r_iload_n 17 2 K (dk_of tX8_add 11 rfl) rfl rfl ?_
  refine r_iastR 18 12 K (dk_of tX8_add 12 rfl) rfl sB_12 hR (fun hR => ?_)
  refine r_nmS (fun σ3 : St => wB γ h σ3 ++ (r)) hR (fun σ3 hR => ?_)
  refine r_aload_n 19 0 K (dk_of tX8_add 13 rfl) rfl rfl ?_
  refine r_dup 20 K (dk_of tX8_add 14 rfl) rfl ?_
  refine r_getf (C := RX8) (T := TX8) (N := 4) 21 10 0 K (dk_of tX8_add 15 rfl) w95 gwX8 rfl rfl (by decide) rfl ?_
  refine r_iconst 24 (1 : Int32) K (dk_of tX8_add 16 rfl) (by decide) ?_
  refine r_iadd 25 K (dk_of tX8_add 17 rfl) ?_
  refine r_putf (C := RX8) (T := TX8) (N := 4) 26 10 0 K (dk_of tX8_add 18 rfl) w95 gwX8 tyX8_ok nmX8 rfl rfl (by decide) rfl rfl rfl rfl (Nat.le_of_ble_eq_true rfl) sB_10_0 ?_
  refine r_nmS (fun σ4 : St => wB γ h σ4 ++ (r)) hR (fun σ4 hR => ?_)
  refine r_iload_n 29 3 K (dk_of tX8_add 19 rfl) rfl rfl ?_
  exact r_iret 30 K hQ (dk_of tX8_add 20 rfl) (Nat.zero_le _) (Nat.zero_le _) (lfi (fun u9 : St => wB γ h u9 ++ (r)) hR)

def sp_X8_leakOf (p1 : Int32) (p2 : Int32) (σ : St) : Option (Int32) := if p1 < 0 ∨ 4 ≤ p1.toNatClampNeg then none else (sl ((((σ 12 p1.toNatClampNeg) / (1000 : Int32)) - p2)) (fun x1 : Int32 => if x1 ≤ 0 then (some (0 : Int32)) else (if p1 < 0 ∨ 4 ≤ p1.toNatClampNeg then none else (if p1 < 0 ∨ 4 ≤ p1.toNatClampNeg then none else (some (iMin ((σ 13 p1.toNatClampNeg) * x1) (σ 12 p1.toNatClampNeg)))))))
set_option maxHeartbeats 4000000 in
set_option maxRecDepth 100000 in
theorem ct_X8_leakOf {l : Launch} (hl : l.stackTraces = false) {γ : Gd} {h : Nat → Nat} {σ : St} {r : va_W} {p1 : Int32} {p2 : Int32} {x0 : Int32} (hR : some x0 = sp_X8_leakOf p1 p2 σ) : Ct l γ yX8_leakOf (Cond.code yX8_leakOf cX8_leakOf 4 (some .int)) ({ frames := 1, cells := 0, slots := 0, locals := 15 } : Room) [.ref (h 10), .int p1, .int p2] (wB γ h σ ++ (r)) (Pr (some (.int x0)) (wB γ h σ ++ (r))) 0 0 := by
  refine Ct_of hl (by decide +kernel) rfl (Nat.le_of_ble_eq_true rfl) (L := [some (.ref (h 10)), some (.int p1), some (.int p2), none]) rfl ?_
  intro X Q K hQ
  generalize ((wB γ h σ ++ (r), Q) : MX) = M at K hQ ⊢
  unfold sp_X8_leakOf at hR
  refine r_aload_n 0 0 K (dk_of tX8_leakOf 0 rfl) rfl rfl ?_
  refine r_getf (C := RX8) (T := TX8) (N := 4) 1 10 2 K (dk_of tX8_leakOf 1 rfl) w102 gwX8 rfl rfl (by decide) rfl ?_
  refine r_iload_n 4 1 K (dk_of tX8_leakOf 2 rfl) rfl rfl ?_
  refine r_ialdR 5 12 K (dk_of tX8_leakOf 3 rfl) rfl hR (fun hR => ?_)
  refine r_sipush 6 (1000 : Int32) K (dk_of tX8_leakOf 4 rfl) (by decide) ?_
  refine r_idiv 9 K (dk_of tX8_leakOf 5 rfl) (by decide) ?_
  refine r_iload_n 10 2 K (dk_of tX8_leakOf 6 rfl) rfl rfl ?_
  refine r_isub 11 K (dk_of tX8_leakOf 7 rfl) ?_
  refine r_nmI hR (fun x1 hR => ?_)
  refine r_istore_n 12 3 [some (.ref (h 10)), some (.int p1), some (.int p2), some (.int x1)] K (dk_of tX8_leakOf 8 rfl) rfl rfl rfl (by decide) ?_
  refine r_iload_n 13 3 K (dk_of tX8_leakOf 9 rfl) rfl rfl ?_
  refine r_if_le 14 37 K (dk_of tX8_leakOf 10 rfl) (by decide) hR (fun hR => ?_) (fun hR => ?_)
  · refine r_iconst 37 (0 : Int32) K (dk_of tX8_leakOf 23 rfl) (by decide) ?_
    exact r_iret 38 K hQ (dk_of tX8_leakOf 24 rfl) (Nat.zero_le _) (Nat.zero_le _) (lfi0 hR)
  · refine r_aload_n 17 0 K (dk_of tX8_leakOf 11 rfl) rfl rfl ?_
    refine r_getf (C := RX8) (T := TX8) (N := 4) 18 10 3 K (dk_of tX8_leakOf 12 rfl) w105 gwX8 rfl rfl (by decide) rfl ?_
    refine r_iload_n 21 1 K (dk_of tX8_leakOf 13 rfl) rfl rfl ?_
    refine r_ialdR 22 13 K (dk_of tX8_leakOf 14 rfl) rfl hR (fun hR => ?_)
    refine r_iload_n 23 3 K (dk_of tX8_leakOf 15 rfl) rfl rfl ?_
    refine r_imul 24 K (dk_of tX8_leakOf 16 rfl) ?_
    refine r_aload_n 25 0 K (dk_of tX8_leakOf 17 rfl) rfl rfl ?_
    refine r_getf (C := RX8) (T := TX8) (N := 4) 26 10 2 K (dk_of tX8_leakOf 18 rfl) w102 gwX8 rfl rfl (by decide) rfl ?_
    refine r_iload_n 29 1 K (dk_of tX8_leakOf 19 rfl) rfl rfl ?_
    refine r_ialdR 30 12 K (dk_of tX8_leakOf 20 rfl) rfl hR (fun hR => ?_)
    refine r_min 31 K w556 w557 w19 w558 (dk_of tX8_leakOf 21 rfl) rfl ?_
    refine r_goto 34 38 K (dk_of tX8_leakOf 22 rfl) (by decide) ?_
    exact r_iret 38 K hQ (dk_of tX8_leakOf 24 rfl) (Nat.zero_le _) (Nat.zero_le _) (lfi0 hR)

def sp_X8_becomeLike  (σ : St) (τ : St) : Option (St) := sl (stU σ 10 0 (τ 10 0)) (fun σ1 : St => sl (stC σ1 11 (va_cpy (τ 11) (σ1 11) (0 : Int32).toNatClampNeg (0 : Int32).toNatClampNeg (4 : Int32).toNatClampNeg)) (fun σ2 : St => sl (stC σ2 12 (va_cpy (τ 12) (σ2 12) (0 : Int32).toNatClampNeg (0 : Int32).toNatClampNeg (4 : Int32).toNatClampNeg)) (fun σ3 : St => sl (stC σ3 13 (va_cpy (τ 13) (σ3 13) (0 : Int32).toNatClampNeg (0 : Int32).toNatClampNeg (4 : Int32).toNatClampNeg)) (fun σ4 : St => some σ4))))
set_option maxHeartbeats 4000000 in
set_option maxRecDepth 100000 in
theorem ct_X8_becomeLike {l : Launch} (hl : l.stackTraces = false) {γ : Gd} {h : Nat → Nat} {g : Nat → Nat} {σ : St} {τ : St} {r : va_W}  {σ0 : St} (hR : some σ0 = sp_X8_becomeLike σ τ) : Ct l γ yX8_becomeLike (Cond.code yX8_becomeLike cX8_becomeLike 2 none) ({ frames := 1, cells := 0, slots := 0, locals := 40 } : Room) [.ref (h 10), .ref (g 10)] (wB γ h σ ++ (wB γ g τ ++ (r))) (Pr none (wB γ h σ0 ++ (wB γ g τ ++ (r)))) 0 0 := by
  refine Ct_of hl (by decide +kernel) rfl (Nat.le_of_ble_eq_true rfl) (L := [some (.ref (h 10)), some (.ref (g 10))]) rfl ?_
  intro X Q K hQ
  generalize ((wB γ h σ ++ (wB γ g τ ++ (r)), Q) : MX) = M at K hQ ⊢
  unfold sp_X8_becomeLike at hR
  refine r_aload_n 0 0 K (dk_of tX8_becomeLike 0 rfl) rfl rfl ?_
  refine r_aload_n 1 1 K (dk_of tX8_becomeLike 1 rfl) rfl rfl ?_
  refine r_getf (C := RX8) (T := TX8) (N := 4) 2 36 0 K (dk_of tX8_becomeLike 2 rfl) w95 gwX8 rfl rfl (by decide) rfl ?_
  refine r_putf (C := RX8) (T := TX8) (N := 4) 5 10 0 K (dk_of tX8_becomeLike 3 rfl) w95 gwX8 tyX8_ok nmX8 rfl rfl (by decide) rfl rfl rfl rfl (Nat.le_of_ble_eq_true rfl) sB_10_0 ?_
  refine r_nmS (fun σ1 : St => wB γ h σ1 ++ (wB γ g τ ++ (r))) hR (fun σ1 hR => ?_)
  refine r_aload_n 8 1 K (dk_of tX8_becomeLike 4 rfl) rfl rfl ?_
  refine r_getf (C := RX8) (T := TX8) (N := 4) 9 36 1 K (dk_of tX8_becomeLike 5 rfl) w99 gwX8 rfl rfl (by decide) rfl ?_
  refine r_iconst 12 (0 : Int32) K (dk_of tX8_becomeLike 6 rfl) (by decide) ?_
  refine r_aload_n 13 0 K (dk_of tX8_becomeLike 7 rfl) rfl rfl ?_
  refine r_getf (C := RX8) (T := TX8) (N := 4) 14 10 1 K (dk_of tX8_becomeLike 8 rfl) w99 gwX8 rfl rfl (by decide) rfl ?_
  refine r_iconst 17 (0 : Int32) K (dk_of tX8_becomeLike 9 rfl) (by decide) ?_
  refine r_iconst 18 (4 : Int32) K (dk_of tX8_becomeLike 10 rfl) (by decide) ?_
  refine r_copy 19 37 11 K w929 w924 w923 w21 (dk_of tX8_becomeLike 11 rfl) rfl rfl (by decide) (by decide) (by decide) (by decide) (by decide) cB_11 rfl ?_
  refine r_nmS (fun σ2 : St => wB γ h σ2 ++ (wB γ g τ ++ (r))) hR (fun σ2 hR => ?_)
  refine r_aload_n 22 1 K (dk_of tX8_becomeLike 12 rfl) rfl rfl ?_
  refine r_getf (C := RX8) (T := TX8) (N := 4) 23 36 2 K (dk_of tX8_becomeLike 13 rfl) w102 gwX8 rfl rfl (by decide) rfl ?_
  refine r_iconst 26 (0 : Int32) K (dk_of tX8_becomeLike 14 rfl) (by decide) ?_
  refine r_aload_n 27 0 K (dk_of tX8_becomeLike 15 rfl) rfl rfl ?_
  refine r_getf (C := RX8) (T := TX8) (N := 4) 28 10 2 K (dk_of tX8_becomeLike 16 rfl) w102 gwX8 rfl rfl (by decide) rfl ?_
  refine r_iconst 31 (0 : Int32) K (dk_of tX8_becomeLike 17 rfl) (by decide) ?_
  refine r_iconst 32 (4 : Int32) K (dk_of tX8_becomeLike 18 rfl) (by decide) ?_
  refine r_copy 33 38 12 K w929 w924 w923 w21 (dk_of tX8_becomeLike 19 rfl) rfl rfl (by decide) (by decide) (by decide) (by decide) (by decide) cB_12 rfl ?_
  refine r_nmS (fun σ3 : St => wB γ h σ3 ++ (wB γ g τ ++ (r))) hR (fun σ3 hR => ?_)
  refine r_aload_n 36 1 K (dk_of tX8_becomeLike 20 rfl) rfl rfl ?_
  refine r_getf (C := RX8) (T := TX8) (N := 4) 37 36 3 K (dk_of tX8_becomeLike 21 rfl) w105 gwX8 rfl rfl (by decide) rfl ?_
  refine r_iconst 40 (0 : Int32) K (dk_of tX8_becomeLike 22 rfl) (by decide) ?_
  refine r_aload_n 41 0 K (dk_of tX8_becomeLike 23 rfl) rfl rfl ?_
  refine r_getf (C := RX8) (T := TX8) (N := 4) 42 10 3 K (dk_of tX8_becomeLike 24 rfl) w105 gwX8 rfl rfl (by decide) rfl ?_
  refine r_iconst 45 (0 : Int32) K (dk_of tX8_becomeLike 25 rfl) (by decide) ?_
  refine r_iconst 46 (4 : Int32) K (dk_of tX8_becomeLike 26 rfl) (by decide) ?_
  refine r_copy 47 39 13 K w929 w924 w923 w21 (dk_of tX8_becomeLike 27 rfl) rfl rfl (by decide) (by decide) (by decide) (by decide) (by decide) cB_13 rfl ?_
  refine r_nmS (fun σ4 : St => wB γ h σ4 ++ (wB γ g τ ++ (r))) hR (fun σ4 hR => ?_)
  exact r_vret 50 K hQ (dk_of tX8_becomeLike 28 rfl) (Nat.zero_le _) (Nat.zero_le _) (lfv (fun u9 : St => wB γ h u9 ++ (wB γ g τ ++ (r))) hR)

def sp_X8_allLitres_4 (σ : St) : Nat → Int32 → Int32 → Option (Int32)
  | 0, _, _ => none
  | n + 1, y1, y2 => if (σ 10 0) ≤ y2 then (some y1) else (if y2 < 0 ∨ 4 ≤ y2.toNatClampNeg then none else (sl ((y1 + (σ 12 y2.toNatClampNeg))) (fun x3 : Int32 => sp_X8_allLitres_4 σ n x3 (y2 + 1))))
def sp_X8_allLitres  (σ : St) : Option (Int32) := sp_X8_allLitres_4 σ 200 (0 : Int32) (0 : Int32)
set_option maxHeartbeats 4000000 in
set_option maxRecDepth 100000 in
theorem ct_X8_allLitres {l : Launch} (hl : l.stackTraces = false) {γ : Gd} {h : Nat → Nat} {σ : St} {r : va_W}  {x0 : Int32} (hR : some x0 = sp_X8_allLitres σ) : Ct l γ yX8_allLitres (Cond.code yX8_allLitres cX8_allLitres 3 (some .int)) ({ frames := 0, cells := 0, slots := 0, locals := 0 } : Room) [.ref (h 10)] (wB γ h σ ++ (r)) (Pr (some (.int x0)) (wB γ h σ ++ (r))) 0 0 := by
  refine Ct_of hl (by decide +kernel) rfl (Nat.le_of_ble_eq_true rfl) (L := [some (.ref (h 10)), none, none]) rfl ?_
  intro X Q K hQ
  generalize ((wB γ h σ ++ (r), Q) : MX) = M at K hQ ⊢
  unfold sp_X8_allLitres at hR
  have b4 : ∀  (n : Nat) (y1 : Int32) (y2 : Int32), some x0 = sp_X8_allLitres_4 σ n y1 y2 → V l γ X M (wB γ h σ ++ (r)) [some (.ref (h 10)), some (.int y1), some (.int y2)] 0 0 4 [] := by
    intro  n
    induction n with
    | zero => intro y1 y2 hR; exact nn_ hR
    | succ n ih4 =>
      intro y1 y2 hR
      rw [sp_X8_allLitres_4] at hR
      refine r_iload_n 4 2 K (dk_of tX8_allLitres 4 rfl) rfl rfl ?_
      refine r_aload_n 5 0 K (dk_of tX8_allLitres 5 rfl) rfl rfl ?_
      refine r_getf (C := RX8) (T := TX8) (N := 4) 6 10 0 K (dk_of tX8_allLitres 6 rfl) w95 gwX8 rfl rfl (by decide) rfl ?_
      refine r_ic_ge 9 27 K (dk_of tX8_allLitres 7 rfl) (by decide) hR (fun hR => ?_) (fun hR => ?_)
      · refine r_iload_n 27 1 K (dk_of tX8_allLitres 17 rfl) rfl rfl ?_
        exact r_iret 28 K hQ (dk_of tX8_allLitres 18 rfl) (Nat.zero_le _) (Nat.zero_le _) (lfi0 hR)
      · refine r_iload_n 12 1 K (dk_of tX8_allLitres 8 rfl) rfl rfl ?_
        refine r_aload_n 13 0 K (dk_of tX8_allLitres 9 rfl) rfl rfl ?_
        refine r_getf (C := RX8) (T := TX8) (N := 4) 14 10 2 K (dk_of tX8_allLitres 10 rfl) w102 gwX8 rfl rfl (by decide) rfl ?_
        refine r_iload_n 17 2 K (dk_of tX8_allLitres 11 rfl) rfl rfl ?_
        refine r_ialdR 18 12 K (dk_of tX8_allLitres 12 rfl) rfl hR (fun hR => ?_)
        refine r_iadd 19 K (dk_of tX8_allLitres 13 rfl) ?_
        refine r_nmI hR (fun x3 hR => ?_)
        refine r_istore_n 20 1 [some (.ref (h 10)), some (.int x3), some (.int y2)] K (dk_of tX8_allLitres 14 rfl) rfl rfl rfl (by decide) ?_
        refine r_iinc 21 2 (y2 + 1) [some (.ref (h 10)), some (.int x3), some (.int (y2 + 1))] K (dk_of tX8_allLitres 15 rfl) rfl rfl rfl rfl (by decide) ?_
        refine r_goto 24 4 K (dk_of tX8_allLitres 16 rfl) (by decide) ?_
        exact ih4 x3 (y2 + 1) hR
  refine r_iconst 0 (0 : Int32) K (dk_of tX8_allLitres 0 rfl) (by decide) ?_
  refine r_istore_n 1 1 [some (.ref (h 10)), some (.int (0 : Int32)), none] K (dk_of tX8_allLitres 1 rfl) rfl rfl rfl (by decide) ?_
  refine r_iconst 2 (0 : Int32) K (dk_of tX8_allLitres 2 rfl) (by decide) ?_
  refine r_istore_n 3 2 [some (.ref (h 10)), some (.int (0 : Int32)), some (.int (0 : Int32))] K (dk_of tX8_allLitres 3 rfl) rfl rfl rfl (by decide) ?_
  exact b4 200 (0 : Int32) (0 : Int32) hR

def sp_X4_isSkimmer (p1 : Int32) (p2 : Int32) (σ : St) : Option (Int32) := if p1 < 0 ∨ 20 ≤ p1.toNatClampNeg then none else (if (σ 15 p1.toNatClampNeg) = (1 : Int32) then (if p1 < 0 ∨ 20 ≤ p1.toNatClampNeg then none else (if (σ 16 p1.toNatClampNeg) = p2 then (some (1 : Int32)) else (some (0 : Int32)))) else (some (0 : Int32)))
set_option maxHeartbeats 4000000 in
set_option maxRecDepth 100000 in
theorem ct_X4_isSkimmer {l : Launch} (hl : l.stackTraces = false) {γ : Gd} {h : Nat → Nat} {σ : St} {r : va_W} {p1 : Int32} {p2 : Int32} {x0 : Int32} (hR : some x0 = sp_X4_isSkimmer p1 p2 σ) : Ct l γ yX4_isSkimmer (Cond.code yX4_isSkimmer cX4_isSkimmer 3 (some .boolean)) ({ frames := 0, cells := 0, slots := 0, locals := 0 } : Room) [.ref (h 14), .int p1, .int p2] (wB γ h σ ++ (r)) (Pr (some (.int x0)) (wB γ h σ ++ (r))) 0 0 := by
  refine Ct_of hl (by decide +kernel) rfl (Nat.le_of_ble_eq_true rfl) (L := [some (.ref (h 14)), some (.int p1), some (.int p2)]) rfl ?_
  intro X Q K hQ
  generalize ((wB γ h σ ++ (r), Q) : MX) = M at K hQ ⊢
  unfold sp_X4_isSkimmer at hR
  refine r_aload_n 0 0 K (dk_of tX4_isSkimmer 0 rfl) rfl rfl ?_
  refine r_getf (C := RX4) (T := TX4) (N := 9) 1 14 1 K (dk_of tX4_isSkimmer 1 rfl) w126 gwX4 rfl rfl (by decide) rfl ?_
  refine r_iload_n 4 1 K (dk_of tX4_isSkimmer 2 rfl) rfl rfl ?_
  refine r_ialdR 5 15 K (dk_of tX4_isSkimmer 3 rfl) rfl hR (fun hR => ?_)
  refine r_iconst 6 (1 : Int32) K (dk_of tX4_isSkimmer 4 rfl) (by decide) ?_
  refine r_ic_ne 7 24 K (dk_of tX4_isSkimmer 5 rfl) (by decide) hR (fun hR => ?_) (fun hR => ?_)
  · refine r_aload_n 10 0 K (dk_of tX4_isSkimmer 6 rfl) rfl rfl ?_
    refine r_getf (C := RX4) (T := TX4) (N := 9) 11 14 2 K (dk_of tX4_isSkimmer 7 rfl) w129 gwX4 rfl rfl (by decide) rfl ?_
    refine r_iload_n 14 1 K (dk_of tX4_isSkimmer 8 rfl) rfl rfl ?_
    refine r_ialdR 15 16 K (dk_of tX4_isSkimmer 9 rfl) rfl hR (fun hR => ?_)
    refine r_iload_n 16 2 K (dk_of tX4_isSkimmer 10 rfl) rfl rfl ?_
    refine r_ic_ne 17 24 K (dk_of tX4_isSkimmer 11 rfl) (by decide) hR (fun hR => ?_) (fun hR => ?_)
    · refine r_iconst 20 (1 : Int32) K (dk_of tX4_isSkimmer 12 rfl) (by decide) ?_
      refine r_goto 21 25 K (dk_of tX4_isSkimmer 13 rfl) (by decide) ?_
      exact r_zret 25 K hQ (dk_of tX4_isSkimmer 15 rfl) zb1 (Nat.zero_le _) (Nat.zero_le _) (lfi0 hR)
    · refine r_iconst 24 (0 : Int32) K (dk_of tX4_isSkimmer 14 rfl) (by decide) ?_
      exact r_zret 25 K hQ (dk_of tX4_isSkimmer 15 rfl) zb0 (Nat.zero_le _) (Nat.zero_le _) (lfi0 hR)
  · refine r_iconst 24 (0 : Int32) K (dk_of tX4_isSkimmer 14 rfl) (by decide) ?_
    exact r_zret 25 K hQ (dk_of tX4_isSkimmer 15 rfl) zb0 (Nat.zero_le _) (Nat.zero_le _) (lfi0 hR)

def sp_X4_isSkimmerAt_2 (σ : St) (y1 : Int32) : Nat → Int32 → Option (Int32)
  | 0, _ => none
  | n + 1, y2 => if (σ 14 0) ≤ y2 then (some (0 : Int32)) else (b1 (sp_X4_isSkimmer y2 y1 σ) (fun (x3 : Int32) => if x3 = 0 then (sp_X4_isSkimmerAt_2 σ y1 n (y2 + 1)) else (some (1 : Int32))))
def sp_X4_isSkimmerAt (p1 : Int32) (σ : St) : Option (Int32) := sp_X4_isSkimmerAt_2 σ p1 200 (0 : Int32)
set_option maxHeartbeats 4000000 in
set_option maxRecDepth 100000 in
theorem ct_X4_isSkimmerAt {l : Launch} (hl : l.stackTraces = false) {γ : Gd} {h : Nat → Nat} {σ : St} {r : va_W} {p1 : Int32} {x0 : Int32} (hR : some x0 = sp_X4_isSkimmerAt p1 σ) : Ct l γ yX4_isSkimmerAt (Cond.code yX4_isSkimmerAt cX4_isSkimmerAt 3 (some .boolean)) ({ frames := 1, cells := 0, slots := 0, locals := 22 } : Room) [.ref (h 14), .int p1] (wB γ h σ ++ (r)) (Pr (some (.int x0)) (wB γ h σ ++ (r))) 0 0 := by
  refine Ct_of hl (by decide +kernel) rfl (Nat.le_of_ble_eq_true rfl) (L := [some (.ref (h 14)), some (.int p1), none]) rfl ?_
  intro X Q K hQ
  generalize ((wB γ h σ ++ (r), Q) : MX) = M at K hQ ⊢
  unfold sp_X4_isSkimmerAt at hR
  have b2 : ∀ (y1 : Int32) (n : Nat) (y2 : Int32), some x0 = sp_X4_isSkimmerAt_2 σ y1 n y2 → V l γ X M (wB γ h σ ++ (r)) [some (.ref (h 14)), some (.int y1), some (.int y2)] 0 0 2 [] := by
    intro y1 n
    induction n with
    | zero => intro y2 hR; exact nn_ hR
    | succ n ih2 =>
      intro y2 hR
      rw [sp_X4_isSkimmerAt_2] at hR
      refine r_iload_n 2 2 K (dk_of tX4_isSkimmerAt 2 rfl) rfl rfl ?_
      refine r_aload_n 3 0 K (dk_of tX4_isSkimmerAt 3 rfl) rfl rfl ?_
      refine r_getf (C := RX4) (T := TX4) (N := 9) 4 14 0 K (dk_of tX4_isSkimmerAt 4 rfl) w122 gwX4 rfl rfl (by decide) rfl ?_
      refine r_ic_ge 7 27 K (dk_of tX4_isSkimmerAt 5 rfl) (by decide) hR (fun hR => ?_) (fun hR => ?_)
      · refine r_iconst 27 (0 : Int32) K (dk_of tX4_isSkimmerAt 15 rfl) (by decide) ?_
        exact r_zret 28 K hQ (dk_of tX4_isSkimmerAt 16 rfl) zb0 (Nat.zero_le _) (Nat.zero_le _) (lfi0 hR)
      · refine r_aload_n 10 0 K (dk_of tX4_isSkimmerAt 6 rfl) rfl rfl ?_
        refine r_iload_n 11 2 K (dk_of tX4_isSkimmerAt 7 rfl) rfl rfl ?_
        refine r_iload_n 12 1 K (dk_of tX4_isSkimmerAt 8 rfl) rfl rfl ?_
        obtain ⟨x3, hc, hR⟩ := o1 hR
        refine r_cVi 13 14 [.int y2, .int y1] [] x3 (wB γ h σ ++ (r)) K (ct_X4_isSkimmer hl hc.symm) cs_X4_41 ⟨rfl, rfl, rfl⟩ (dk_of tX4_isSkimmerAt 9 rfl) rfl rfl rfl rfl rfl rfl ?_
        refine r_if_eq 16 21 K (dk_of tX4_isSkimmerAt 10 rfl) (by decide) hR (fun hR => ?_) (fun hR => ?_)
        · refine r_iinc 21 2 (y2 + 1) [some (.ref (h 14)), some (.int y1), some (.int (y2 + 1))] K (dk_of tX4_isSkimmerAt 13 rfl) rfl rfl rfl rfl (by decide) ?_
          refine r_goto 24 2 K (dk_of tX4_isSkimmerAt 14 rfl) (by decide) ?_
          exact ih2 (y2 + 1) hR
        · refine r_iconst 19 (1 : Int32) K (dk_of tX4_isSkimmerAt 11 rfl) (by decide) ?_
          exact r_zret 20 K hQ (dk_of tX4_isSkimmerAt 12 rfl) zb1 (Nat.zero_le _) (Nat.zero_le _) (lfi0 hR)
  refine r_iconst 0 (0 : Int32) K (dk_of tX4_isSkimmerAt 0 rfl) (by decide) ?_
  refine r_istore_n 1 2 [some (.ref (h 14)), some (.int p1), some (.int (0 : Int32))] K (dk_of tX4_isSkimmerAt 1 rfl) rfl rfl rfl (by decide) ?_
  exact b2 p1 200 (0 : Int32) hR

def sp_X4_boomOn_15 (σ : St) (y3 : Int32) (y4 : Int32) (y5 : Int32) (y6 : Int32) : Nat → Int32 → Option (Int32)
  | 0, _ => none
  | n + 1, y7 => if (σ 14 0) ≤ y7 then (some (-1 : Int32)) else (if y7 < 0 ∨ 20 ≤ y7.toNatClampNeg then none else (if (σ 15 y7.toNatClampNeg) = 0 then (if y7 < 0 ∨ 20 ≤ y7.toNatClampNeg then none else (if (σ 20 y7.toNatClampNeg) = 0 then (if y7 < 0 ∨ 20 ≤ y7.toNatClampNeg then none else (if (σ 16 y7.toNatClampNeg) = y3 then (if y7 < 0 ∨ 20 ≤ y7.toNatClampNeg then none else (if (σ 17 y7.toNatClampNeg) = y4 then (some y7) else (if y5 = (-1 : Int32) then (sp_X4_boomOn_15 σ y3 y4 y5 y6 n (y7 + 1)) else (if y7 < 0 ∨ 20 ≤ y7.toNatClampNeg then none else (if (σ 16 y7.toNatClampNeg) = y5 then (if y7 < 0 ∨ 20 ≤ y7.toNatClampNeg then none else (if (σ 17 y7.toNatClampNeg) = y6 then (some y7) else (sp_X4_boomOn_15 σ y3 y4 y5 y6 n (y7 + 1)))) else (sp_X4_boomOn_15 σ y3 y4 y5 y6 n (y7 + 1))))))) else (if y5 = (-1 : Int32) then (sp_X4_boomOn_15 σ y3 y4 y5 y6 n (y7 + 1)) else (if y7 < 0 ∨ 20 ≤ y7.toNatClampNeg then none else (if (σ 16 y7.toNatClampNeg) = y5 then (if y7 < 0 ∨ 20 ≤ y7.toNatClampNeg then none else (if (σ 17 y7.toNatClampNeg) = y6 then (some y7) else (sp_X4_boomOn_15 σ y3 y4 y5 y6 n (y7 + 1)))) else (sp_X4_boomOn_15 σ y3 y4 y5 y6 n (y7 + 1))))))) else (sp_X4_boomOn_15 σ y3 y4 y5 y6 n (y7 + 1)))) else (sp_X4_boomOn_15 σ y3 y4 y5 y6 n (y7 + 1))))
def sp_X4_boomOn (p1 : Int32) (p2 : Int32) (σ : St) : Option (Int32) := b1 (sp_X2_beside p1 p2) (fun (x1 : Int32) => b1 (sp_X2_opposite p2) (fun (x2 : Int32) => sp_X4_boomOn_15 σ p1 p2 x1 x2 200 (0 : Int32)))
set_option maxHeartbeats 4000000 in
set_option maxRecDepth 100000 in
theorem ct_X4_boomOn {l : Launch} (hl : l.stackTraces = false) {γ : Gd} {h : Nat → Nat} {σ : St} {r : va_W} {p1 : Int32} {p2 : Int32} {x0 : Int32} (hR : some x0 = sp_X4_boomOn p1 p2 σ) : Ct l γ yX4_boomOn (Cond.code yX4_boomOn cX4_boomOn 6 (some .int)) ({ frames := 1, cells := 0, slots := 0, locals := 23 } : Room) [.ref (h 14), .int p1, .int p2] (wB γ h σ ++ (r)) (Pr (some (.int x0)) (wB γ h σ ++ (r))) 0 0 := by
  refine Ct_of hl (by decide +kernel) rfl (Nat.le_of_ble_eq_true rfl) (L := [some (.ref (h 14)), some (.int p1), some (.int p2), none, none, none]) rfl ?_
  intro X Q K hQ
  generalize ((wB γ h σ ++ (r), Q) : MX) = M at K hQ ⊢
  unfold sp_X4_boomOn at hR
  have b15 : ∀ (y3 : Int32) (y4 : Int32) (y5 : Int32) (y6 : Int32) (n : Nat) (y7 : Int32), some x0 = sp_X4_boomOn_15 σ y3 y4 y5 y6 n y7 → V l γ X M (wB γ h σ ++ (r)) [some (.ref (h 14)), some (.int y3), some (.int y4), some (.int y5), some (.int y6), some (.int y7)] 0 0 15 [] := by
    intro y3 y4 y5 y6 n
    induction n with
    | zero => intro y7 hR; exact nn_ hR
    | succ n ih15 =>
      intro y7 hR
      rw [sp_X4_boomOn_15] at hR
      refine r_iload 15 5 K (dk_of tX4_boomOn 9 rfl) rfl ?_
      refine r_aload_n 17 0 K (dk_of tX4_boomOn 10 rfl) rfl rfl ?_
      refine r_getf (C := RX4) (T := TX4) (N := 9) 18 14 0 K (dk_of tX4_boomOn 11 rfl) w122 gwX4 rfl rfl (by decide) rfl ?_
      refine r_ic_ge 21 103 K (dk_of tX4_boomOn 12 rfl) (by decide) hR (fun hR => ?_) (fun hR => ?_)
      · refine r_iconst 103 (-1) K (dk_of tX4_boomOn 54 rfl) (by decide) ?_
        exact r_iret 104 K hQ (dk_of tX4_boomOn 55 rfl) (Nat.zero_le _) (Nat.zero_le _) (lfi0 hR)
      · refine r_aload_n 24 0 K (dk_of tX4_boomOn 13 rfl) rfl rfl ?_
        refine r_getf (C := RX4) (T := TX4) (N := 9) 25 14 1 K (dk_of tX4_boomOn 14 rfl) w126 gwX4 rfl rfl (by decide) rfl ?_
        refine r_iload 28 5 K (dk_of tX4_boomOn 15 rfl) rfl ?_
        refine r_ialdR 30 15 K (dk_of tX4_boomOn 16 rfl) rfl hR (fun hR => ?_)
        refine r_if_ne 31 97 K (dk_of tX4_boomOn 17 rfl) (by decide) hR (fun hR => ?_) (fun hR => ?_)
        · refine r_aload_n 34 0 K (dk_of tX4_boomOn 18 rfl) rfl rfl ?_
          refine r_getf (C := RX4) (T := TX4) (N := 9) 35 14 6 K (dk_of tX4_boomOn 19 rfl) w140 gwX4 rfl rfl (by decide) rfl ?_
          refine r_iload 38 5 K (dk_of tX4_boomOn 20 rfl) rfl ?_
          refine r_ialdR 40 20 K (dk_of tX4_boomOn 21 rfl) rfl hR (fun hR => ?_)
          refine r_if_ne 41 97 K (dk_of tX4_boomOn 22 rfl) (by decide) hR (fun hR => ?_) (fun hR => ?_)
          · refine r_aload_n 44 0 K (dk_of tX4_boomOn 23 rfl) rfl rfl ?_
            refine r_getf (C := RX4) (T := TX4) (N := 9) 45 14 2 K (dk_of tX4_boomOn 24 rfl) w129 gwX4 rfl rfl (by decide) rfl ?_
            refine r_iload 48 5 K (dk_of tX4_boomOn 25 rfl) rfl ?_
            refine r_ialdR 50 16 K (dk_of tX4_boomOn 26 rfl) rfl hR (fun hR => ?_)
            refine r_iload_n 51 1 K (dk_of tX4_boomOn 27 rfl) rfl rfl ?_
            refine r_ic_ne 52 66 K (dk_of tX4_boomOn 28 rfl) (by decide) hR (fun hR => ?_) (fun hR => ?_)
            · refine r_aload_n 55 0 K (dk_of tX4_boomOn 29 rfl) rfl rfl ?_
              refine r_getf (C := RX4) (T := TX4) (N := 9) 56 14 3 K (dk_of tX4_boomOn 30 rfl) w132 gwX4 rfl rfl (by decide) rfl ?_
              refine r_iload 59 5 K (dk_of tX4_boomOn 31 rfl) rfl ?_
              refine r_ialdR 61 17 K (dk_of tX4_boomOn 32 rfl) rfl hR (fun hR => ?_)
              refine r_iload_n 62 2 K (dk_of tX4_boomOn 33 rfl) rfl rfl ?_
              refine r_ic_eq 63 94 K (dk_of tX4_boomOn 34 rfl) (by decide) hR (fun hR => ?_) (fun hR => ?_)
              · refine r_iload 94 5 K (dk_of tX4_boomOn 50 rfl) rfl ?_
                exact r_iret 96 K hQ (dk_of tX4_boomOn 51 rfl) (Nat.zero_le _) (Nat.zero_le _) (lfi0 hR)
              · refine r_iload_n 66 3 K (dk_of tX4_boomOn 35 rfl) rfl rfl ?_
                refine r_iconst 67 (-1) K (dk_of tX4_boomOn 36 rfl) (by decide) ?_
                refine r_ic_eq 68 97 K (dk_of tX4_boomOn 37 rfl) (by decide) hR (fun hR => ?_) (fun hR => ?_)
                · refine r_iinc 97 5 (y7 + 1) [some (.ref (h 14)), some (.int y3), some (.int y4), some (.int y5), some (.int y6), some (.int (y7 + 1))] K (dk_of tX4_boomOn 52 rfl) rfl rfl rfl rfl (by decide) ?_
                  refine r_goto 100 15 K (dk_of tX4_boomOn 53 rfl) (by decide) ?_
                  exact ih15 (y7 + 1) hR
                · refine r_aload_n 71 0 K (dk_of tX4_boomOn 38 rfl) rfl rfl ?_
                  refine r_getf (C := RX4) (T := TX4) (N := 9) 72 14 2 K (dk_of tX4_boomOn 39 rfl) w129 gwX4 rfl rfl (by decide) rfl ?_
                  refine r_iload 75 5 K (dk_of tX4_boomOn 40 rfl) rfl ?_
                  refine r_ialdR 77 16 K (dk_of tX4_boomOn 41 rfl) rfl hR (fun hR => ?_)
                  refine r_iload_n 78 3 K (dk_of tX4_boomOn 42 rfl) rfl rfl ?_
                  refine r_ic_ne 79 97 K (dk_of tX4_boomOn 43 rfl) (by decide) hR (fun hR => ?_) (fun hR => ?_)
                  · refine r_aload_n 82 0 K (dk_of tX4_boomOn 44 rfl) rfl rfl ?_
                    refine r_getf (C := RX4) (T := TX4) (N := 9) 83 14 3 K (dk_of tX4_boomOn 45 rfl) w132 gwX4 rfl rfl (by decide) rfl ?_
                    refine r_iload 86 5 K (dk_of tX4_boomOn 46 rfl) rfl ?_
                    refine r_ialdR 88 17 K (dk_of tX4_boomOn 47 rfl) rfl hR (fun hR => ?_)
                    refine r_iload 89 4 K (dk_of tX4_boomOn 48 rfl) rfl ?_
                    refine r_ic_ne 91 97 K (dk_of tX4_boomOn 49 rfl) (by decide) hR (fun hR => ?_) (fun hR => ?_)
                    · refine r_iload 94 5 K (dk_of tX4_boomOn 50 rfl) rfl ?_
                      exact r_iret 96 K hQ (dk_of tX4_boomOn 51 rfl) (Nat.zero_le _) (Nat.zero_le _) (lfi0 hR)
                    · refine r_iinc 97 5 (y7 + 1) [some (.ref (h 14)), some (.int y3), some (.int y4), some (.int y5), some (.int y6), some (.int (y7 + 1))] K (dk_of tX4_boomOn 52 rfl) rfl rfl rfl rfl (by decide) ?_
                      refine r_goto 100 15 K (dk_of tX4_boomOn 53 rfl) (by decide) ?_
                      exact ih15 (y7 + 1) hR
                  · refine r_iinc 97 5 (y7 + 1) [some (.ref (h 14)), some (.int y3), some (.int y4), some (.int y5), some (.int y6), some (.int (y7 + 1))] K (dk_of tX4_boomOn 52 rfl) rfl rfl rfl rfl (by decide) ?_
                    refine r_goto 100 15 K (dk_of tX4_boomOn 53 rfl) (by decide) ?_
                    exact ih15 (y7 + 1) hR
            · refine r_iload_n 66 3 K (dk_of tX4_boomOn 35 rfl) rfl rfl ?_
              refine r_iconst 67 (-1) K (dk_of tX4_boomOn 36 rfl) (by decide) ?_
              refine r_ic_eq 68 97 K (dk_of tX4_boomOn 37 rfl) (by decide) hR (fun hR => ?_) (fun hR => ?_)
              · refine r_iinc 97 5 (y7 + 1) [some (.ref (h 14)), some (.int y3), some (.int y4), some (.int y5), some (.int y6), some (.int (y7 + 1))] K (dk_of tX4_boomOn 52 rfl) rfl rfl rfl rfl (by decide) ?_
                refine r_goto 100 15 K (dk_of tX4_boomOn 53 rfl) (by decide) ?_
                exact ih15 (y7 + 1) hR
              · refine r_aload_n 71 0 K (dk_of tX4_boomOn 38 rfl) rfl rfl ?_
                refine r_getf (C := RX4) (T := TX4) (N := 9) 72 14 2 K (dk_of tX4_boomOn 39 rfl) w129 gwX4 rfl rfl (by decide) rfl ?_
                refine r_iload 75 5 K (dk_of tX4_boomOn 40 rfl) rfl ?_
                refine r_ialdR 77 16 K (dk_of tX4_boomOn 41 rfl) rfl hR (fun hR => ?_)
                refine r_iload_n 78 3 K (dk_of tX4_boomOn 42 rfl) rfl rfl ?_
                refine r_ic_ne 79 97 K (dk_of tX4_boomOn 43 rfl) (by decide) hR (fun hR => ?_) (fun hR => ?_)
                · refine r_aload_n 82 0 K (dk_of tX4_boomOn 44 rfl) rfl rfl ?_
                  refine r_getf (C := RX4) (T := TX4) (N := 9) 83 14 3 K (dk_of tX4_boomOn 45 rfl) w132 gwX4 rfl rfl (by decide) rfl ?_
                  refine r_iload 86 5 K (dk_of tX4_boomOn 46 rfl) rfl ?_
                  refine r_ialdR 88 17 K (dk_of tX4_boomOn 47 rfl) rfl hR (fun hR => ?_)
                  refine r_iload 89 4 K (dk_of tX4_boomOn 48 rfl) rfl ?_
                  refine r_ic_ne 91 97 K (dk_of tX4_boomOn 49 rfl) (by decide) hR (fun hR => ?_) (fun hR => ?_)
                  · refine r_iload 94 5 K (dk_of tX4_boomOn 50 rfl) rfl ?_
                    exact r_iret 96 K hQ (dk_of tX4_boomOn 51 rfl) (Nat.zero_le _) (Nat.zero_le _) (lfi0 hR)
                  · refine r_iinc 97 5 (y7 + 1) [some (.ref (h 14)), some (.int y3), some (.int y4), some (.int y5), some (.int y6), some (.int (y7 + 1))] K (dk_of tX4_boomOn 52 rfl) rfl rfl rfl rfl (by decide) ?_
                    refine r_goto 100 15 K (dk_of tX4_boomOn 53 rfl) (by decide) ?_
                    exact ih15 (y7 + 1) hR
                · refine r_iinc 97 5 (y7 + 1) [some (.ref (h 14)), some (.int y3), some (.int y4), some (.int y5), some (.int y6), some (.int (y7 + 1))] K (dk_of tX4_boomOn 52 rfl) rfl rfl rfl rfl (by decide) ?_
                  refine r_goto 100 15 K (dk_of tX4_boomOn 53 rfl) (by decide) ?_
                  exact ih15 (y7 + 1) hR
          · refine r_iinc 97 5 (y7 + 1) [some (.ref (h 14)), some (.int y3), some (.int y4), some (.int y5), some (.int y6), some (.int (y7 + 1))] K (dk_of tX4_boomOn 52 rfl) rfl rfl rfl rfl (by decide) ?_
            refine r_goto 100 15 K (dk_of tX4_boomOn 53 rfl) (by decide) ?_
            exact ih15 (y7 + 1) hR
        · refine r_iinc 97 5 (y7 + 1) [some (.ref (h 14)), some (.int y3), some (.int y4), some (.int y5), some (.int y6), some (.int (y7 + 1))] K (dk_of tX4_boomOn 52 rfl) rfl rfl rfl rfl (by decide) ?_
          refine r_goto 100 15 K (dk_of tX4_boomOn 53 rfl) (by decide) ?_
          exact ih15 (y7 + 1) hR
  refine r_iload_n 0 1 K (dk_of tX4_boomOn 0 rfl) rfl rfl ?_
  refine r_iload_n 1 2 K (dk_of tX4_boomOn 1 rfl) rfl rfl ?_
  obtain ⟨x1, hc, hR⟩ := o1 hR
  refine r_cSi 2 [.int p1, .int p2] [] x1 (wB γ h σ ++ (r)) K (ct_X2_beside hl hc.symm) cs_X4_45 ⟨rfl, rfl, rfl⟩ (dk_of tX4_boomOn 2 rfl) rfl rfl rfl rfl ?_
  refine r_istore_n 5 3 [some (.ref (h 14)), some (.int p1), some (.int p2), some (.int x1), none, none] K (dk_of tX4_boomOn 3 rfl) rfl rfl rfl (by decide) ?_
  refine r_iload_n 6 2 K (dk_of tX4_boomOn 4 rfl) rfl rfl ?_
  obtain ⟨x2, hc, hR⟩ := o1 hR
  refine r_cSi 7 [.int p2] [] x2 (wB γ h σ ++ (r)) K (ct_X2_opposite hl hc.symm) cs_X4_51 ⟨rfl, rfl, rfl⟩ (dk_of tX4_boomOn 5 rfl) rfl rfl rfl rfl ?_
  refine r_istore 10 4 [some (.ref (h 14)), some (.int p1), some (.int p2), some (.int x1), some (.int x2), none] K (dk_of tX4_boomOn 6 rfl) rfl rfl (by decide) ?_
  refine r_iconst 12 (0 : Int32) K (dk_of tX4_boomOn 7 rfl) (by decide) ?_
  refine r_istore 13 5 [some (.ref (h 14)), some (.int p1), some (.int p2), some (.int x1), some (.int x2), some (.int (0 : Int32))] K (dk_of tX4_boomOn 8 rfl) rfl rfl (by decide) ?_
  exact b15 p1 p2 x1 x2 200 (0 : Int32) hR

def sp_X4_freshTaken (p1 : Int32) (p2 : Int32) (σ : St) : Option (Int32) := if p1 < 0 ∨ 20 ≤ p1.toNatClampNeg then none else (if p1 < 0 ∨ 20 ≤ p1.toNatClampNeg then none else (sl (((σ 19 p1.toNatClampNeg) - (σ 20 p1.toNatClampNeg))) (fun x1 : Int32 => if p1 < 0 ∨ 20 ≤ p1.toNatClampNeg then none else (some (iMin (iMin (σ 18 p1.toNatClampNeg) p2) x1)))))
set_option maxHeartbeats 4000000 in
set_option maxRecDepth 100000 in
theorem ct_X4_freshTaken {l : Launch} (hl : l.stackTraces = false) {γ : Gd} {h : Nat → Nat} {σ : St} {r : va_W} {p1 : Int32} {p2 : Int32} {x0 : Int32} (hR : some x0 = sp_X4_freshTaken p1 p2 σ) : Ct l γ yX4_freshTaken (Cond.code yX4_freshTaken cX4_freshTaken 4 (some .int)) ({ frames := 1, cells := 0, slots := 0, locals := 15 } : Room) [.ref (h 14), .int p1, .int p2] (wB γ h σ ++ (r)) (Pr (some (.int x0)) (wB γ h σ ++ (r))) 0 0 := by
  refine Ct_of hl (by decide +kernel) rfl (Nat.le_of_ble_eq_true rfl) (L := [some (.ref (h 14)), some (.int p1), some (.int p2), none]) rfl ?_
  intro X Q K hQ
  generalize ((wB γ h σ ++ (r), Q) : MX) = M at K hQ ⊢
  unfold sp_X4_freshTaken at hR
  refine r_aload_n 0 0 K (dk_of tX4_freshTaken 0 rfl) rfl rfl ?_
  refine r_getf (C := RX4) (T := TX4) (N := 9) 1 14 5 K (dk_of tX4_freshTaken 1 rfl) w138 gwX4 rfl rfl (by decide) rfl ?_
  refine r_iload_n 4 1 K (dk_of tX4_freshTaken 2 rfl) rfl rfl ?_
  refine r_ialdR 5 19 K (dk_of tX4_freshTaken 3 rfl) rfl hR (fun hR => ?_)
  refine r_aload_n 6 0 K (dk_of tX4_freshTaken 4 rfl) rfl rfl ?_
  refine r_getf (C := RX4) (T := TX4) (N := 9) 7 14 6 K (dk_of tX4_freshTaken 5 rfl) w140 gwX4 rfl rfl (by decide) rfl ?_
  refine r_iload_n 10 1 K (dk_of tX4_freshTaken 6 rfl) rfl rfl ?_
  refine r_ialdR 11 20 K (dk_of tX4_freshTaken 7 rfl) rfl hR (fun hR => ?_)
  refine r_isub 12 K (dk_of tX4_freshTaken 8 rfl) ?_
  refine r_nmI hR (fun x1 hR => ?_)
  refine r_istore_n 13 3 [some (.ref (h 14)), some (.int p1), some (.int p2), some (.int x1)] K (dk_of tX4_freshTaken 9 rfl) rfl rfl rfl (by decide) ?_
  refine r_aload_n 14 0 K (dk_of tX4_freshTaken 10 rfl) rfl rfl ?_
  refine r_getf (C := RX4) (T := TX4) (N := 9) 15 14 4 K (dk_of tX4_freshTaken 11 rfl) w134 gwX4 rfl rfl (by decide) rfl ?_
  refine r_iload_n 18 1 K (dk_of tX4_freshTaken 12 rfl) rfl rfl ?_
  refine r_ialdR 19 18 K (dk_of tX4_freshTaken 13 rfl) rfl hR (fun hR => ?_)
  refine r_iload_n 20 2 K (dk_of tX4_freshTaken 14 rfl) rfl rfl ?_
  refine r_min 21 K w631 w557 w19 w558 (dk_of tX4_freshTaken 15 rfl) rfl ?_
  refine r_iload_n 24 3 K (dk_of tX4_freshTaken 16 rfl) rfl rfl ?_
  refine r_min 25 K w631 w557 w19 w558 (dk_of tX4_freshTaken 17 rfl) rfl ?_
  exact r_iret 28 K hQ (dk_of tX4_freshTaken 18 rfl) (Nat.zero_le _) (Nat.zero_le _) (lfi0 hR)

def sp_X4_thickTaken (p1 : Int32) (p2 : Int32) (p3 : Int32) (σ : St) : Option (Int32) := if p1 < 0 ∨ 20 ≤ p1.toNatClampNeg then none else (if p1 < 0 ∨ 20 ≤ p1.toNatClampNeg then none else (sl ((((σ 19 p1.toNatClampNeg) - (σ 20 p1.toNatClampNeg)) - p2)) (fun x1 : Int32 => if p1 < 0 ∨ 20 ≤ p1.toNatClampNeg then none else (some (iMin (iMin (((σ 18 p1.toNatClampNeg) - p2) / (2 : Int32)) p3) x1)))))
set_option maxHeartbeats 4000000 in
set_option maxRecDepth 100000 in
theorem ct_X4_thickTaken {l : Launch} (hl : l.stackTraces = false) {γ : Gd} {h : Nat → Nat} {σ : St} {r : va_W} {p1 : Int32} {p2 : Int32} {p3 : Int32} {x0 : Int32} (hR : some x0 = sp_X4_thickTaken p1 p2 p3 σ) : Ct l γ yX4_thickTaken (Cond.code yX4_thickTaken cX4_thickTaken 5 (some .int)) ({ frames := 1, cells := 0, slots := 0, locals := 15 } : Room) [.ref (h 14), .int p1, .int p2, .int p3] (wB γ h σ ++ (r)) (Pr (some (.int x0)) (wB γ h σ ++ (r))) 0 0 := by
  refine Ct_of hl (by decide +kernel) rfl (Nat.le_of_ble_eq_true rfl) (L := [some (.ref (h 14)), some (.int p1), some (.int p2), some (.int p3), none]) rfl ?_
  intro X Q K hQ
  generalize ((wB γ h σ ++ (r), Q) : MX) = M at K hQ ⊢
  unfold sp_X4_thickTaken at hR
  refine r_aload_n 0 0 K (dk_of tX4_thickTaken 0 rfl) rfl rfl ?_
  refine r_getf (C := RX4) (T := TX4) (N := 9) 1 14 5 K (dk_of tX4_thickTaken 1 rfl) w138 gwX4 rfl rfl (by decide) rfl ?_
  refine r_iload_n 4 1 K (dk_of tX4_thickTaken 2 rfl) rfl rfl ?_
  refine r_ialdR 5 19 K (dk_of tX4_thickTaken 3 rfl) rfl hR (fun hR => ?_)
  refine r_aload_n 6 0 K (dk_of tX4_thickTaken 4 rfl) rfl rfl ?_
  refine r_getf (C := RX4) (T := TX4) (N := 9) 7 14 6 K (dk_of tX4_thickTaken 5 rfl) w140 gwX4 rfl rfl (by decide) rfl ?_
  refine r_iload_n 10 1 K (dk_of tX4_thickTaken 6 rfl) rfl rfl ?_
  refine r_ialdR 11 20 K (dk_of tX4_thickTaken 7 rfl) rfl hR (fun hR => ?_)
  refine r_isub 12 K (dk_of tX4_thickTaken 8 rfl) ?_
  refine r_iload_n 13 2 K (dk_of tX4_thickTaken 9 rfl) rfl rfl ?_
  refine r_isub 14 K (dk_of tX4_thickTaken 10 rfl) ?_
  refine r_nmI hR (fun x1 hR => ?_)
  refine r_istore 15 4 [some (.ref (h 14)), some (.int p1), some (.int p2), some (.int p3), some (.int x1)] K (dk_of tX4_thickTaken 11 rfl) rfl rfl (by decide) ?_
  refine r_aload_n 17 0 K (dk_of tX4_thickTaken 12 rfl) rfl rfl ?_
  refine r_getf (C := RX4) (T := TX4) (N := 9) 18 14 4 K (dk_of tX4_thickTaken 13 rfl) w134 gwX4 rfl rfl (by decide) rfl ?_
  refine r_iload_n 21 1 K (dk_of tX4_thickTaken 14 rfl) rfl rfl ?_
  refine r_ialdR 22 18 K (dk_of tX4_thickTaken 15 rfl) rfl hR (fun hR => ?_)
  refine r_iload_n 23 2 K (dk_of tX4_thickTaken 16 rfl) rfl rfl ?_
  refine r_isub 24 K (dk_of tX4_thickTaken 17 rfl) ?_
  refine r_iconst 25 (2 : Int32) K (dk_of tX4_thickTaken 18 rfl) (by decide) ?_
  refine r_idiv 26 K (dk_of tX4_thickTaken 19 rfl) (by decide) ?_
  refine r_iload_n 27 3 K (dk_of tX4_thickTaken 20 rfl) rfl rfl ?_
  refine r_min 28 K w631 w557 w19 w558 (dk_of tX4_thickTaken 21 rfl) rfl ?_
  refine r_iload 31 4 K (dk_of tX4_thickTaken 22 rfl) rfl ?_
  refine r_min 33 K w631 w557 w19 w558 (dk_of tX4_thickTaken 23 rfl) rfl ?_
  exact r_iret 36 K hQ (dk_of tX4_thickTaken 24 rfl) (Nat.zero_le _) (Nat.zero_le _) (lfi0 hR)

def sp_X4_add (p1 : Int32) (p2 : Int32) (p3 : Int32) (σ : St) : Option (Int32 × St) := sl ((σ 14 0)) (fun x1 : Int32 => if x1 < 0 ∨ 20 ≤ x1.toNatClampNeg then none else (sl (stU σ 15 x1.toNatClampNeg p1) (fun σ2 : St => if x1 < 0 ∨ 20 ≤ x1.toNatClampNeg then none else (sl (stU σ2 16 x1.toNatClampNeg p2) (fun σ3 : St => if x1 < 0 ∨ 20 ≤ x1.toNatClampNeg then none else (sl (stU σ3 18 x1.toNatClampNeg p3) (fun σ4 : St => if x1 < 0 ∨ 20 ≤ x1.toNatClampNeg then none else (sl (stU σ4 22 x1.toNatClampNeg (-1 : Int32)) (fun σ5 : St => sl (stU σ5 14 0 ((σ5 14 0) + (1 : Int32))) (fun σ6 : St => some (x1, σ6)))))))))))
set_option maxHeartbeats 4000000 in
set_option maxRecDepth 100000 in
theorem ct_X4_add {l : Launch} (hl : l.stackTraces = false) {γ : Gd} {h : Nat → Nat} {σ : St} {r : va_W} {p1 : Int32} {p2 : Int32} {p3 : Int32} {x0 : Int32} {σ0 : St} (hR : some (x0, σ0) = sp_X4_add p1 p2 p3 σ) : Ct l γ yX4_add (Cond.code yX4_add cX4_add 5 (some .int)) ({ frames := 0, cells := 0, slots := 0, locals := 0 } : Room) [.ref (h 14), .int p1, .int p2, .int p3] (wB γ h σ ++ (r)) (Pr (some (.int x0)) (wB γ h σ0 ++ (r))) 0 0 := by
  refine Ct_of hl (by decide +kernel) rfl (Nat.le_of_ble_eq_true rfl) (L := [some (.ref (h 14)), some (.int p1), some (.int p2), some (.int p3), none]) rfl ?_
  intro X Q K hQ
  generalize ((wB γ h σ ++ (r), Q) : MX) = M at K hQ ⊢
  unfold sp_X4_add at hR
  refine r_aload_n 0 0 K (dk_of tX4_add 0 rfl) rfl rfl ?_
  refine r_getf (C := RX4) (T := TX4) (N := 9) 1 14 0 K (dk_of tX4_add 1 rfl) w122 gwX4 rfl rfl (by decide) rfl ?_
  refine r_nmI hR (fun x1 hR => ?_)
  refine r_istore 4 4 [some (.ref (h 14)), some (.int p1), some (.int p2), some (.int p3), some (.int x1)] K (dk_of tX4_add 2 rfl) rfl rfl (by decide) ?_
  refine r_aload_n 6 0 K (dk_of tX4_add 3 rfl) rfl rfl ?_
  refine r_getf (C := RX4) (T := TX4) (N := 9) 7 14 1 K (dk_of tX4_add 4 rfl) w126 gwX4 rfl rfl (by decide) rfl ?_
  refine r_iload 10 4 K (dk_of tX4_add 5 rfl) rfl ?_
  refine r_iload_n 12 1 K (dk_of tX4_add 6 rfl) rfl rfl ?_
  refine r_iastR 13 15 K (dk_of tX4_add 7 rfl) rfl sB_15 hR (fun hR => ?_)
  refine r_nmS (fun σ2 : St => wB γ h σ2 ++ (r)) hR (fun σ2 hR => ?_)
  refine r_aload_n 14 0 K (dk_of tX4_add 8 rfl) rfl rfl ?_
  refine r_getf (C := RX4) (T := TX4) (N := 9) 15 14 2 K (dk_of tX4_add 9 rfl) w129 gwX4 rfl rfl (by decide) rfl ?_
  refine r_iload 18 4 K (dk_of tX4_add 10 rfl) rfl ?_
  refine r_iload_n 20 2 K (dk_of tX4_add 11 rfl) rfl rfl ?_
  refine r_iastR 21 16 K (dk_of tX4_add 12 rfl) rfl sB_16 hR (fun hR => ?_)
  refine r_nmS (fun σ3 : St => wB γ h σ3 ++ (r)) hR (fun σ3 hR => ?_)
  refine r_aload_n 22 0 K (dk_of tX4_add 13 rfl) rfl rfl ?_
  refine r_getf (C := RX4) (T := TX4) (N := 9) 23 14 4 K (dk_of tX4_add 14 rfl) w134 gwX4 rfl rfl (by decide) rfl ?_
  refine r_iload 26 4 K (dk_of tX4_add 15 rfl) rfl ?_
  refine r_iload_n 28 3 K (dk_of tX4_add 16 rfl) rfl rfl ?_
  refine r_iastR 29 18 K (dk_of tX4_add 17 rfl) rfl sB_18 hR (fun hR => ?_)
  refine r_nmS (fun σ4 : St => wB γ h σ4 ++ (r)) hR (fun σ4 hR => ?_)
  refine r_aload_n 30 0 K (dk_of tX4_add 18 rfl) rfl rfl ?_
  refine r_getf (C := RX4) (T := TX4) (N := 9) 31 14 8 K (dk_of tX4_add 19 rfl) w145 gwX4 rfl rfl (by decide) rfl ?_
  refine r_iload 34 4 K (dk_of tX4_add 20 rfl) rfl ?_
  refine r_iconst 36 (-1) K (dk_of tX4_add 21 rfl) (by decide) ?_
  refine r_iastR 37 22 K (dk_of tX4_add 22 rfl) rfl sB_22 hR (fun hR => ?_)
  refine r_nmS (fun σ5 : St => wB γ h σ5 ++ (r)) hR (fun σ5 hR => ?_)
  refine r_aload_n 38 0 K (dk_of tX4_add 23 rfl) rfl rfl ?_
  refine r_dup 39 K (dk_of tX4_add 24 rfl) rfl ?_
  refine r_getf (C := RX4) (T := TX4) (N := 9) 40 14 0 K (dk_of tX4_add 25 rfl) w122 gwX4 rfl rfl (by decide) rfl ?_
  refine r_iconst 43 (1 : Int32) K (dk_of tX4_add 26 rfl) (by decide) ?_
  refine r_iadd 44 K (dk_of tX4_add 27 rfl) ?_
  refine r_putf (C := RX4) (T := TX4) (N := 9) 45 14 0 K (dk_of tX4_add 28 rfl) w122 gwX4 tyX4_ok nmX4 rfl rfl (by decide) rfl rfl rfl rfl (Nat.le_of_ble_eq_true rfl) sB_14_0 ?_
  refine r_nmS (fun σ6 : St => wB γ h σ6 ++ (r)) hR (fun σ6 hR => ?_)
  refine r_iload 48 4 K (dk_of tX4_add 29 rfl) rfl ?_
  exact r_iret 50 K hQ (dk_of tX4_add 30 rfl) (Nat.zero_le _) (Nat.zero_le _) (lfi (fun u9 : St => wB γ h u9 ++ (r)) hR)

def sp_X4_hasRested (p1 : Int32) (p2 : Int32) (σ : St) : Option (Int32) := if p1 < 0 ∨ 20 ≤ p1.toNatClampNeg then none else (if (σ 22 p1.toNatClampNeg) = (-1 : Int32) then (some (1 : Int32)) else (if p1 < 0 ∨ 20 ≤ p1.toNatClampNeg then none else (if (p2 - (σ 22 p1.toNatClampNeg)) < (12 : Int32) then (some (0 : Int32)) else (some (1 : Int32)))))
set_option maxHeartbeats 4000000 in
set_option maxRecDepth 100000 in
theorem ct_X4_hasRested {l : Launch} (hl : l.stackTraces = false) {γ : Gd} {h : Nat → Nat} {σ : St} {r : va_W} {p1 : Int32} {p2 : Int32} {x0 : Int32} (hR : some x0 = sp_X4_hasRested p1 p2 σ) : Ct l γ yX4_hasRested (Cond.code yX4_hasRested cX4_hasRested 3 (some .boolean)) ({ frames := 0, cells := 0, slots := 0, locals := 0 } : Room) [.ref (h 14), .int p1, .int p2] (wB γ h σ ++ (r)) (Pr (some (.int x0)) (wB γ h σ ++ (r))) 0 0 := by
  refine Ct_of hl (by decide +kernel) rfl (Nat.le_of_ble_eq_true rfl) (L := [some (.ref (h 14)), some (.int p1), some (.int p2)]) rfl ?_
  intro X Q K hQ
  generalize ((wB γ h σ ++ (r), Q) : MX) = M at K hQ ⊢
  unfold sp_X4_hasRested at hR
  refine r_aload_n 0 0 K (dk_of tX4_hasRested 0 rfl) rfl rfl ?_
  refine r_getf (C := RX4) (T := TX4) (N := 9) 1 14 8 K (dk_of tX4_hasRested 1 rfl) w145 gwX4 rfl rfl (by decide) rfl ?_
  refine r_iload_n 4 1 K (dk_of tX4_hasRested 2 rfl) rfl rfl ?_
  refine r_ialdR 5 22 K (dk_of tX4_hasRested 3 rfl) rfl hR (fun hR => ?_)
  refine r_iconst 6 (-1) K (dk_of tX4_hasRested 4 rfl) (by decide) ?_
  refine r_ic_eq 7 23 K (dk_of tX4_hasRested 5 rfl) (by decide) hR (fun hR => ?_) (fun hR => ?_)
  · refine r_iconst 23 (1 : Int32) K (dk_of tX4_hasRested 14 rfl) (by decide) ?_
    refine r_goto 24 28 K (dk_of tX4_hasRested 15 rfl) (by decide) ?_
    exact r_zret 28 K hQ (dk_of tX4_hasRested 17 rfl) zb1 (Nat.zero_le _) (Nat.zero_le _) (lfi0 hR)
  · refine r_iload_n 10 2 K (dk_of tX4_hasRested 6 rfl) rfl rfl ?_
    refine r_aload_n 11 0 K (dk_of tX4_hasRested 7 rfl) rfl rfl ?_
    refine r_getf (C := RX4) (T := TX4) (N := 9) 12 14 8 K (dk_of tX4_hasRested 8 rfl) w145 gwX4 rfl rfl (by decide) rfl ?_
    refine r_iload_n 15 1 K (dk_of tX4_hasRested 9 rfl) rfl rfl ?_
    refine r_ialdR 16 22 K (dk_of tX4_hasRested 10 rfl) rfl hR (fun hR => ?_)
    refine r_isub 17 K (dk_of tX4_hasRested 11 rfl) ?_
    refine r_bipush 18 (12 : Int32) K (dk_of tX4_hasRested 12 rfl) (by decide) ?_
    refine r_ic_lt 20 27 K (dk_of tX4_hasRested 13 rfl) (by decide) hR (fun hR => ?_) (fun hR => ?_)
    · refine r_iconst 27 (0 : Int32) K (dk_of tX4_hasRested 16 rfl) (by decide) ?_
      exact r_zret 28 K hQ (dk_of tX4_hasRested 17 rfl) zb0 (Nat.zero_le _) (Nat.zero_le _) (lfi0 hR)
    · refine r_iconst 23 (1 : Int32) K (dk_of tX4_hasRested 14 rfl) (by decide) ?_
      refine r_goto 24 28 K (dk_of tX4_hasRested 15 rfl) (by decide) ?_
      exact r_zret 28 K hQ (dk_of tX4_hasRested 17 rfl) zb1 (Nat.zero_le _) (Nat.zero_le _) (lfi0 hR)

def sp_X4_canWork (p1 : Int32) (p2 : Int32) (σ : St) : Option (Int32) := if p1 < 0 ∨ 20 ≤ p1.toNatClampNeg then none else (if (σ 21 p1.toNatClampNeg) = 0 then (some (0 : Int32)) else (if p1 < 0 ∨ 20 ≤ p1.toNatClampNeg then none else (if (σ 22 p1.toNatClampNeg) = p2 then (some (0 : Int32)) else (b1 (sp_X4_hasRested p1 p2 σ) (fun (x1 : Int32) => if x1 = 0 then (if p1 < 0 ∨ 20 ≤ p1.toNatClampNeg then none else (if (8 : Int32) ≤ (σ 20 p1.toNatClampNeg) then (some (0 : Int32)) else (some (1 : Int32)))) else (some (1 : Int32)))))))
set_option maxHeartbeats 4000000 in
set_option maxRecDepth 100000 in
theorem ct_X4_canWork {l : Launch} (hl : l.stackTraces = false) {γ : Gd} {h : Nat → Nat} {σ : St} {r : va_W} {p1 : Int32} {p2 : Int32} {x0 : Int32} (hR : some x0 = sp_X4_canWork p1 p2 σ) : Ct l γ yX4_canWork (Cond.code yX4_canWork cX4_canWork 3 (some .boolean)) ({ frames := 1, cells := 0, slots := 0, locals := 22 } : Room) [.ref (h 14), .int p1, .int p2] (wB γ h σ ++ (r)) (Pr (some (.int x0)) (wB γ h σ ++ (r))) 0 0 := by
  refine Ct_of hl (by decide +kernel) rfl (Nat.le_of_ble_eq_true rfl) (L := [some (.ref (h 14)), some (.int p1), some (.int p2)]) rfl ?_
  intro X Q K hQ
  generalize ((wB γ h σ ++ (r), Q) : MX) = M at K hQ ⊢
  unfold sp_X4_canWork at hR
  refine r_aload_n 0 0 K (dk_of tX4_canWork 0 rfl) rfl rfl ?_
  refine r_getf (C := RX4) (T := TX4) (N := 9) 1 14 7 K (dk_of tX4_canWork 1 rfl) w143 gwX4 rfl rfl (by decide) rfl ?_
  refine r_iload_n 4 1 K (dk_of tX4_canWork 2 rfl) rfl rfl ?_
  refine r_zaldR 5 21 K (dk_of tX4_canWork 3 rfl) rfl hR (fun hR => ?_)
  refine r_if_eq 6 19 K (dk_of tX4_canWork 4 rfl) (by decide) hR (fun hR => ?_) (fun hR => ?_)
  · refine r_iconst 19 (0 : Int32) K (dk_of tX4_canWork 11 rfl) (by decide) ?_
    exact r_zret 20 K hQ (dk_of tX4_canWork 12 rfl) zb0 (Nat.zero_le _) (Nat.zero_le _) (lfi0 hR)
  · refine r_aload_n 9 0 K (dk_of tX4_canWork 5 rfl) rfl rfl ?_
    refine r_getf (C := RX4) (T := TX4) (N := 9) 10 14 8 K (dk_of tX4_canWork 6 rfl) w145 gwX4 rfl rfl (by decide) rfl ?_
    refine r_iload_n 13 1 K (dk_of tX4_canWork 7 rfl) rfl rfl ?_
    refine r_ialdR 14 22 K (dk_of tX4_canWork 8 rfl) rfl hR (fun hR => ?_)
    refine r_iload_n 15 2 K (dk_of tX4_canWork 9 rfl) rfl rfl ?_
    refine r_ic_ne 16 21 K (dk_of tX4_canWork 10 rfl) (by decide) hR (fun hR => ?_) (fun hR => ?_)
    · refine r_iconst 19 (0 : Int32) K (dk_of tX4_canWork 11 rfl) (by decide) ?_
      exact r_zret 20 K hQ (dk_of tX4_canWork 12 rfl) zb0 (Nat.zero_le _) (Nat.zero_le _) (lfi0 hR)
    · refine r_aload_n 21 0 K (dk_of tX4_canWork 13 rfl) rfl rfl ?_
      refine r_iload_n 22 1 K (dk_of tX4_canWork 14 rfl) rfl rfl ?_
      refine r_iload_n 23 2 K (dk_of tX4_canWork 15 rfl) rfl rfl ?_
      obtain ⟨x1, hc, hR⟩ := o1 hR
      refine r_cVi 24 14 [.int p1, .int p2] [] x1 (wB γ h σ ++ (r)) K (ct_X4_hasRested hl hc.symm) cs_X4_60 ⟨rfl, rfl, rfl⟩ (dk_of tX4_canWork 16 rfl) rfl rfl rfl rfl rfl rfl ?_
      refine r_if_ne 27 41 K (dk_of tX4_canWork 17 rfl) (by decide) hR (fun hR => ?_) (fun hR => ?_)
      · refine r_aload_n 30 0 K (dk_of tX4_canWork 18 rfl) rfl rfl ?_
        refine r_getf (C := RX4) (T := TX4) (N := 9) 31 14 6 K (dk_of tX4_canWork 19 rfl) w140 gwX4 rfl rfl (by decide) rfl ?_
        refine r_iload_n 34 1 K (dk_of tX4_canWork 20 rfl) rfl rfl ?_
        refine r_ialdR 35 20 K (dk_of tX4_canWork 21 rfl) rfl hR (fun hR => ?_)
        refine r_bipush 36 (8 : Int32) K (dk_of tX4_canWork 22 rfl) (by decide) ?_
        refine r_ic_ge 38 45 K (dk_of tX4_canWork 23 rfl) (by decide) hR (fun hR => ?_) (fun hR => ?_)
        · refine r_iconst 45 (0 : Int32) K (dk_of tX4_canWork 26 rfl) (by decide) ?_
          exact r_zret 46 K hQ (dk_of tX4_canWork 27 rfl) zb0 (Nat.zero_le _) (Nat.zero_le _) (lfi0 hR)
        · refine r_iconst 41 (1 : Int32) K (dk_of tX4_canWork 24 rfl) (by decide) ?_
          refine r_goto 42 46 K (dk_of tX4_canWork 25 rfl) (by decide) ?_
          exact r_zret 46 K hQ (dk_of tX4_canWork 27 rfl) zb1 (Nat.zero_le _) (Nat.zero_le _) (lfi0 hR)
      · refine r_iconst 41 (1 : Int32) K (dk_of tX4_canWork 24 rfl) (by decide) ?_
        refine r_goto 42 46 K (dk_of tX4_canWork 25 rfl) (by decide) ?_
        exact r_zret 46 K hQ (dk_of tX4_canWork 27 rfl) zb1 (Nat.zero_le _) (Nat.zero_le _) (lfi0 hR)

def sp_X4_noteWork_26  (y2 : Int32) (y3 : Int32) (y4 : Int32) (y5 : Int32) (σ6 : St) : Option (St) := if y4 < 0 ∨ 20 ≤ y4.toNatClampNeg then none else (sl (stU σ6 20 y4.toNatClampNeg y5) (fun σ7 : St => if y2 < 0 ∨ 20 ≤ y2.toNatClampNeg then none else (sl (stU σ7 22 y2.toNatClampNeg y3) (fun σ8 : St => some σ8))))
def sp_X4_noteWork (p1 : Int32) (p2 : Int32) (σ : St) : Option (St) := b1 (sp_X4_hasRested p1 p2 σ) (fun (x1 : Int32) => if x1 = 0 then (if p1 < 0 ∨ 20 ≤ p1.toNatClampNeg then none else (sp_X4_noteWork_26 p1 p2 p1 ((σ 20 p1.toNatClampNeg) + (1 : Int32)) σ)) else (sp_X4_noteWork_26 p1 p2 p1 (1 : Int32) σ))
set_option maxHeartbeats 4000000 in
set_option maxRecDepth 100000 in
theorem ct_X4_noteWork {l : Launch} (hl : l.stackTraces = false) {γ : Gd} {h : Nat → Nat} {σ : St} {r : va_W} {p1 : Int32} {p2 : Int32} {σ0 : St} (hR : some σ0 = sp_X4_noteWork p1 p2 σ) : Ct l γ yX4_noteWork (Cond.code yX4_noteWork cX4_noteWork 3 none) ({ frames := 1, cells := 0, slots := 0, locals := 22 } : Room) [.ref (h 14), .int p1, .int p2] (wB γ h σ ++ (r)) (Pr none (wB γ h σ0 ++ (r))) 0 0 := by
  refine Ct_of hl (by decide +kernel) rfl (Nat.le_of_ble_eq_true rfl) (L := [some (.ref (h 14)), some (.int p1), some (.int p2)]) rfl ?_
  intro X Q K hQ
  generalize ((wB γ h σ ++ (r), Q) : MX) = M at K hQ ⊢
  unfold sp_X4_noteWork at hR
  have b26 : ∀ (y2 : Int32) (y3 : Int32) (y4 : Int32) (y5 : Int32) (σ6 : St), some σ0 = sp_X4_noteWork_26  y2 y3 y4 y5 σ6 → V l γ X M (wB γ h σ6 ++ (r)) [some (.ref (h 14)), some (.int y2), some (.int y3)] 0 0 26 [.int y5, .int y4, .ref (h 20)] := by
    intro  y2 y3 y4 y5 σ6 hR
    unfold sp_X4_noteWork_26 at hR
    refine r_iastR 26 20 K (dk_of tX4_noteWork 16 rfl) rfl sB_20 hR (fun hR => ?_)
    refine r_nmS (fun σ7 : St => wB γ h σ7 ++ (r)) hR (fun σ7 hR => ?_)
    refine r_aload_n 27 0 K (dk_of tX4_noteWork 17 rfl) rfl rfl ?_
    refine r_getf (C := RX4) (T := TX4) (N := 9) 28 14 8 K (dk_of tX4_noteWork 18 rfl) w145 gwX4 rfl rfl (by decide) rfl ?_
    refine r_iload_n 31 1 K (dk_of tX4_noteWork 19 rfl) rfl rfl ?_
    refine r_iload_n 32 2 K (dk_of tX4_noteWork 20 rfl) rfl rfl ?_
    refine r_iastR 33 22 K (dk_of tX4_noteWork 21 rfl) rfl sB_22 hR (fun hR => ?_)
    refine r_nmS (fun σ8 : St => wB γ h σ8 ++ (r)) hR (fun σ8 hR => ?_)
    exact r_vret 34 K hQ (dk_of tX4_noteWork 22 rfl) (Nat.zero_le _) (Nat.zero_le _) (lfv (fun u9 : St => wB γ h u9 ++ (r)) hR)
  refine r_aload_n 0 0 K (dk_of tX4_noteWork 0 rfl) rfl rfl ?_
  refine r_getf (C := RX4) (T := TX4) (N := 9) 1 14 6 K (dk_of tX4_noteWork 1 rfl) w140 gwX4 rfl rfl (by decide) rfl ?_
  refine r_iload_n 4 1 K (dk_of tX4_noteWork 2 rfl) rfl rfl ?_
  refine r_aload_n 5 0 K (dk_of tX4_noteWork 3 rfl) rfl rfl ?_
  refine r_iload_n 6 1 K (dk_of tX4_noteWork 4 rfl) rfl rfl ?_
  refine r_iload_n 7 2 K (dk_of tX4_noteWork 5 rfl) rfl rfl ?_
  obtain ⟨x1, hc, hR⟩ := o1 hR
  refine r_cVi 8 14 [.int p1, .int p2] [.int p1, .ref (h 20)] x1 (wB γ h σ ++ (r)) K (ct_X4_hasRested hl hc.symm) cs_X4_60 ⟨rfl, rfl, rfl⟩ (dk_of tX4_noteWork 6 rfl) rfl rfl rfl rfl rfl rfl ?_
  refine r_if_eq 11 18 K (dk_of tX4_noteWork 7 rfl) (by decide) hR (fun hR => ?_) (fun hR => ?_)
  · refine r_aload_n 18 0 K (dk_of tX4_noteWork 10 rfl) rfl rfl ?_
    refine r_getf (C := RX4) (T := TX4) (N := 9) 19 14 6 K (dk_of tX4_noteWork 11 rfl) w140 gwX4 rfl rfl (by decide) rfl ?_
    refine r_iload_n 22 1 K (dk_of tX4_noteWork 12 rfl) rfl rfl ?_
    refine r_ialdR 23 20 K (dk_of tX4_noteWork 13 rfl) rfl hR (fun hR => ?_)
    refine r_iconst 24 (1 : Int32) K (dk_of tX4_noteWork 14 rfl) (by decide) ?_
    refine r_iadd 25 K (dk_of tX4_noteWork 15 rfl) ?_
    exact b26 p1 p2 p1 ((σ 20 p1.toNatClampNeg) + (1 : Int32)) σ hR
  · refine r_iconst 14 (1 : Int32) K (dk_of tX4_noteWork 8 rfl) (by decide) ?_
    refine r_goto 15 26 K (dk_of tX4_noteWork 9 rfl) (by decide) ?_
    exact b26 p1 p2 p1 (1 : Int32) σ hR

def sp_X4_becomeLike  (σ : St) (τ : St) : Option (St) := sl (stU σ 14 0 (τ 14 0)) (fun σ1 : St => sl (stC σ1 15 (va_cpy (τ 15) (σ1 15) (0 : Int32).toNatClampNeg (0 : Int32).toNatClampNeg (20 : Int32).toNatClampNeg)) (fun σ2 : St => sl (stC σ2 16 (va_cpy (τ 16) (σ2 16) (0 : Int32).toNatClampNeg (0 : Int32).toNatClampNeg (20 : Int32).toNatClampNeg)) (fun σ3 : St => sl (stC σ3 17 (va_cpy (τ 17) (σ3 17) (0 : Int32).toNatClampNeg (0 : Int32).toNatClampNeg (20 : Int32).toNatClampNeg)) (fun σ4 : St => sl (stC σ4 18 (va_cpy (τ 18) (σ4 18) (0 : Int32).toNatClampNeg (0 : Int32).toNatClampNeg (20 : Int32).toNatClampNeg)) (fun σ5 : St => sl (stC σ5 19 (va_cpy (τ 19) (σ5 19) (0 : Int32).toNatClampNeg (0 : Int32).toNatClampNeg (20 : Int32).toNatClampNeg)) (fun σ6 : St => sl (stC σ6 20 (va_cpy (τ 20) (σ6 20) (0 : Int32).toNatClampNeg (0 : Int32).toNatClampNeg (20 : Int32).toNatClampNeg)) (fun σ7 : St => some σ7)))))))
set_option maxHeartbeats 4000000 in
set_option maxRecDepth 100000 in
theorem ct_X4_becomeLike {l : Launch} (hl : l.stackTraces = false) {γ : Gd} {h : Nat → Nat} {g : Nat → Nat} {σ : St} {τ : St} {r : va_W}  {σ0 : St} (hR : some σ0 = sp_X4_becomeLike σ τ) : Ct l γ yX4_becomeLike (Cond.code yX4_becomeLike cX4_becomeLike 2 none) ({ frames := 1, cells := 0, slots := 0, locals := 40 } : Room) [.ref (h 14), .ref (g 14)] (wB γ h σ ++ (wB γ g τ ++ (r))) (Pr none (wB γ h σ0 ++ (wB γ g τ ++ (r)))) 0 0 := by
  refine Ct_of hl (by decide +kernel) rfl (Nat.le_of_ble_eq_true rfl) (L := [some (.ref (h 14)), some (.ref (g 14))]) rfl ?_
  intro X Q K hQ
  generalize ((wB γ h σ ++ (wB γ g τ ++ (r)), Q) : MX) = M at K hQ ⊢
  unfold sp_X4_becomeLike at hR
  refine r_aload_n 0 0 K (dk_of tX4_becomeLike 0 rfl) rfl rfl ?_
  refine r_aload_n 1 1 K (dk_of tX4_becomeLike 1 rfl) rfl rfl ?_
  refine r_getf (C := RX4) (T := TX4) (N := 9) 2 40 0 K (dk_of tX4_becomeLike 2 rfl) w122 gwX4 rfl rfl (by decide) rfl ?_
  refine r_putf (C := RX4) (T := TX4) (N := 9) 5 14 0 K (dk_of tX4_becomeLike 3 rfl) w122 gwX4 tyX4_ok nmX4 rfl rfl (by decide) rfl rfl rfl rfl (Nat.le_of_ble_eq_true rfl) sB_14_0 ?_
  refine r_nmS (fun σ1 : St => wB γ h σ1 ++ (wB γ g τ ++ (r))) hR (fun σ1 hR => ?_)
  refine r_aload_n 8 1 K (dk_of tX4_becomeLike 4 rfl) rfl rfl ?_
  refine r_getf (C := RX4) (T := TX4) (N := 9) 9 40 1 K (dk_of tX4_becomeLike 5 rfl) w126 gwX4 rfl rfl (by decide) rfl ?_
  refine r_iconst 12 (0 : Int32) K (dk_of tX4_becomeLike 6 rfl) (by decide) ?_
  refine r_aload_n 13 0 K (dk_of tX4_becomeLike 7 rfl) rfl rfl ?_
  refine r_getf (C := RX4) (T := TX4) (N := 9) 14 14 1 K (dk_of tX4_becomeLike 8 rfl) w126 gwX4 rfl rfl (by decide) rfl ?_
  refine r_iconst 17 (0 : Int32) K (dk_of tX4_becomeLike 9 rfl) (by decide) ?_
  refine r_bipush 18 (20 : Int32) K (dk_of tX4_becomeLike 10 rfl) (by decide) ?_
  refine r_copy 20 41 15 K w934 w924 w923 w21 (dk_of tX4_becomeLike 11 rfl) rfl rfl (by decide) (by decide) (by decide) (by decide) (by decide) cB_15 rfl ?_
  refine r_nmS (fun σ2 : St => wB γ h σ2 ++ (wB γ g τ ++ (r))) hR (fun σ2 hR => ?_)
  refine r_aload_n 23 1 K (dk_of tX4_becomeLike 12 rfl) rfl rfl ?_
  refine r_getf (C := RX4) (T := TX4) (N := 9) 24 40 2 K (dk_of tX4_becomeLike 13 rfl) w129 gwX4 rfl rfl (by decide) rfl ?_
  refine r_iconst 27 (0 : Int32) K (dk_of tX4_becomeLike 14 rfl) (by decide) ?_
  refine r_aload_n 28 0 K (dk_of tX4_becomeLike 15 rfl) rfl rfl ?_
  refine r_getf (C := RX4) (T := TX4) (N := 9) 29 14 2 K (dk_of tX4_becomeLike 16 rfl) w129 gwX4 rfl rfl (by decide) rfl ?_
  refine r_iconst 32 (0 : Int32) K (dk_of tX4_becomeLike 17 rfl) (by decide) ?_
  refine r_bipush 33 (20 : Int32) K (dk_of tX4_becomeLike 18 rfl) (by decide) ?_
  refine r_copy 35 42 16 K w934 w924 w923 w21 (dk_of tX4_becomeLike 19 rfl) rfl rfl (by decide) (by decide) (by decide) (by decide) (by decide) cB_16 rfl ?_
  refine r_nmS (fun σ3 : St => wB γ h σ3 ++ (wB γ g τ ++ (r))) hR (fun σ3 hR => ?_)
  refine r_aload_n 38 1 K (dk_of tX4_becomeLike 20 rfl) rfl rfl ?_
  refine r_getf (C := RX4) (T := TX4) (N := 9) 39 40 3 K (dk_of tX4_becomeLike 21 rfl) w132 gwX4 rfl rfl (by decide) rfl ?_
  refine r_iconst 42 (0 : Int32) K (dk_of tX4_becomeLike 22 rfl) (by decide) ?_
  refine r_aload_n 43 0 K (dk_of tX4_becomeLike 23 rfl) rfl rfl ?_
  refine r_getf (C := RX4) (T := TX4) (N := 9) 44 14 3 K (dk_of tX4_becomeLike 24 rfl) w132 gwX4 rfl rfl (by decide) rfl ?_
  refine r_iconst 47 (0 : Int32) K (dk_of tX4_becomeLike 25 rfl) (by decide) ?_
  refine r_bipush 48 (20 : Int32) K (dk_of tX4_becomeLike 26 rfl) (by decide) ?_
  refine r_copy 50 43 17 K w934 w924 w923 w21 (dk_of tX4_becomeLike 27 rfl) rfl rfl (by decide) (by decide) (by decide) (by decide) (by decide) cB_17 rfl ?_
  refine r_nmS (fun σ4 : St => wB γ h σ4 ++ (wB γ g τ ++ (r))) hR (fun σ4 hR => ?_)
  refine r_aload_n 53 1 K (dk_of tX4_becomeLike 28 rfl) rfl rfl ?_
  refine r_getf (C := RX4) (T := TX4) (N := 9) 54 40 4 K (dk_of tX4_becomeLike 29 rfl) w134 gwX4 rfl rfl (by decide) rfl ?_
  refine r_iconst 57 (0 : Int32) K (dk_of tX4_becomeLike 30 rfl) (by decide) ?_
  refine r_aload_n 58 0 K (dk_of tX4_becomeLike 31 rfl) rfl rfl ?_
  refine r_getf (C := RX4) (T := TX4) (N := 9) 59 14 4 K (dk_of tX4_becomeLike 32 rfl) w134 gwX4 rfl rfl (by decide) rfl ?_
  refine r_iconst 62 (0 : Int32) K (dk_of tX4_becomeLike 33 rfl) (by decide) ?_
  refine r_bipush 63 (20 : Int32) K (dk_of tX4_becomeLike 34 rfl) (by decide) ?_
  refine r_copy 65 44 18 K w934 w924 w923 w21 (dk_of tX4_becomeLike 35 rfl) rfl rfl (by decide) (by decide) (by decide) (by decide) (by decide) cB_18 rfl ?_
  refine r_nmS (fun σ5 : St => wB γ h σ5 ++ (wB γ g τ ++ (r))) hR (fun σ5 hR => ?_)
  refine r_aload_n 68 1 K (dk_of tX4_becomeLike 36 rfl) rfl rfl ?_
  refine r_getf (C := RX4) (T := TX4) (N := 9) 69 40 5 K (dk_of tX4_becomeLike 37 rfl) w138 gwX4 rfl rfl (by decide) rfl ?_
  refine r_iconst 72 (0 : Int32) K (dk_of tX4_becomeLike 38 rfl) (by decide) ?_
  refine r_aload_n 73 0 K (dk_of tX4_becomeLike 39 rfl) rfl rfl ?_
  refine r_getf (C := RX4) (T := TX4) (N := 9) 74 14 5 K (dk_of tX4_becomeLike 40 rfl) w138 gwX4 rfl rfl (by decide) rfl ?_
  refine r_iconst 77 (0 : Int32) K (dk_of tX4_becomeLike 41 rfl) (by decide) ?_
  refine r_bipush 78 (20 : Int32) K (dk_of tX4_becomeLike 42 rfl) (by decide) ?_
  refine r_copy 80 45 19 K w934 w924 w923 w21 (dk_of tX4_becomeLike 43 rfl) rfl rfl (by decide) (by decide) (by decide) (by decide) (by decide) cB_19 rfl ?_
  refine r_nmS (fun σ6 : St => wB γ h σ6 ++ (wB γ g τ ++ (r))) hR (fun σ6 hR => ?_)
  refine r_aload_n 83 1 K (dk_of tX4_becomeLike 44 rfl) rfl rfl ?_
  refine r_getf (C := RX4) (T := TX4) (N := 9) 84 40 6 K (dk_of tX4_becomeLike 45 rfl) w140 gwX4 rfl rfl (by decide) rfl ?_
  refine r_iconst 87 (0 : Int32) K (dk_of tX4_becomeLike 46 rfl) (by decide) ?_
  refine r_aload_n 88 0 K (dk_of tX4_becomeLike 47 rfl) rfl rfl ?_
  refine r_getf (C := RX4) (T := TX4) (N := 9) 89 14 6 K (dk_of tX4_becomeLike 48 rfl) w140 gwX4 rfl rfl (by decide) rfl ?_
  refine r_iconst 92 (0 : Int32) K (dk_of tX4_becomeLike 49 rfl) (by decide) ?_
  refine r_bipush 93 (20 : Int32) K (dk_of tX4_becomeLike 50 rfl) (by decide) ?_
  refine r_copy 95 46 20 K w934 w924 w923 w21 (dk_of tX4_becomeLike 51 rfl) rfl rfl (by decide) (by decide) (by decide) (by decide) (by decide) cB_20 rfl ?_
  refine r_nmS (fun σ7 : St => wB γ h σ7 ++ (wB γ g τ ++ (r))) hR (fun σ7 hR => ?_)
  exact r_vret 98 K hQ (dk_of tX4_becomeLike 52 rfl) (Nat.zero_le _) (Nat.zero_le _) (lfv (fun u9 : St => wB γ h u9 ++ (wB γ g τ ++ (r))) hR)

def sp_X4_allInStores_4 (σ : St) : Nat → Int32 → Int32 → Option (Int32)
  | 0, _, _ => none
  | n + 1, y1, y2 => if (σ 14 0) ≤ y2 then (some y1) else (if y2 < 0 ∨ 20 ≤ y2.toNatClampNeg then none else (if (σ 15 y2.toNatClampNeg) = (1 : Int32) then (if y2 < 0 ∨ 20 ≤ y2.toNatClampNeg then none else (sl ((y1 + (σ 20 y2.toNatClampNeg))) (fun x3 : Int32 => sp_X4_allInStores_4 σ n x3 (y2 + 1)))) else (sp_X4_allInStores_4 σ n y1 (y2 + 1))))
def sp_X4_allInStores  (σ : St) : Option (Int32) := sp_X4_allInStores_4 σ 200 (0 : Int32) (0 : Int32)
set_option maxHeartbeats 4000000 in
set_option maxRecDepth 100000 in
theorem ct_X4_allInStores {l : Launch} (hl : l.stackTraces = false) {γ : Gd} {h : Nat → Nat} {σ : St} {r : va_W}  {x0 : Int32} (hR : some x0 = sp_X4_allInStores σ) : Ct l γ yX4_allInStores (Cond.code yX4_allInStores cX4_allInStores 3 (some .int)) ({ frames := 0, cells := 0, slots := 0, locals := 0 } : Room) [.ref (h 14)] (wB γ h σ ++ (r)) (Pr (some (.int x0)) (wB γ h σ ++ (r))) 0 0 := by
  refine Ct_of hl (by decide +kernel) rfl (Nat.le_of_ble_eq_true rfl) (L := [some (.ref (h 14)), none, none]) rfl ?_
  intro X Q K hQ
  generalize ((wB γ h σ ++ (r), Q) : MX) = M at K hQ ⊢
  unfold sp_X4_allInStores at hR
  have b4 : ∀  (n : Nat) (y1 : Int32) (y2 : Int32), some x0 = sp_X4_allInStores_4 σ n y1 y2 → V l γ X M (wB γ h σ ++ (r)) [some (.ref (h 14)), some (.int y1), some (.int y2)] 0 0 4 [] := by
    intro  n
    induction n with
    | zero => intro y1 y2 hR; exact nn_ hR
    | succ n ih4 =>
      intro y1 y2 hR
      rw [sp_X4_allInStores_4] at hR
      refine r_iload_n 4 2 K (dk_of tX4_allInStores 4 rfl) rfl rfl ?_
      refine r_aload_n 5 0 K (dk_of tX4_allInStores 5 rfl) rfl rfl ?_
      refine r_getf (C := RX4) (T := TX4) (N := 9) 6 14 0 K (dk_of tX4_allInStores 6 rfl) w122 gwX4 rfl rfl (by decide) rfl ?_
      refine r_ic_ge 9 37 K (dk_of tX4_allInStores 7 rfl) (by decide) hR (fun hR => ?_) (fun hR => ?_)
      · refine r_iload_n 37 1 K (dk_of tX4_allInStores 23 rfl) rfl rfl ?_
        exact r_iret 38 K hQ (dk_of tX4_allInStores 24 rfl) (Nat.zero_le _) (Nat.zero_le _) (lfi0 hR)
      · refine r_aload_n 12 0 K (dk_of tX4_allInStores 8 rfl) rfl rfl ?_
        refine r_getf (C := RX4) (T := TX4) (N := 9) 13 14 1 K (dk_of tX4_allInStores 9 rfl) w126 gwX4 rfl rfl (by decide) rfl ?_
        refine r_iload_n 16 2 K (dk_of tX4_allInStores 10 rfl) rfl rfl ?_
        refine r_ialdR 17 15 K (dk_of tX4_allInStores 11 rfl) rfl hR (fun hR => ?_)
        refine r_iconst 18 (1 : Int32) K (dk_of tX4_allInStores 12 rfl) (by decide) ?_
        refine r_ic_ne 19 31 K (dk_of tX4_allInStores 13 rfl) (by decide) hR (fun hR => ?_) (fun hR => ?_)
        · refine r_iload_n 22 1 K (dk_of tX4_allInStores 14 rfl) rfl rfl ?_
          refine r_aload_n 23 0 K (dk_of tX4_allInStores 15 rfl) rfl rfl ?_
          refine r_getf (C := RX4) (T := TX4) (N := 9) 24 14 6 K (dk_of tX4_allInStores 16 rfl) w140 gwX4 rfl rfl (by decide) rfl ?_
          refine r_iload_n 27 2 K (dk_of tX4_allInStores 17 rfl) rfl rfl ?_
          refine r_ialdR 28 20 K (dk_of tX4_allInStores 18 rfl) rfl hR (fun hR => ?_)
          refine r_iadd 29 K (dk_of tX4_allInStores 19 rfl) ?_
          refine r_nmI hR (fun x3 hR => ?_)
          refine r_istore_n 30 1 [some (.ref (h 14)), some (.int x3), some (.int y2)] K (dk_of tX4_allInStores 20 rfl) rfl rfl rfl (by decide) ?_
          refine r_iinc 31 2 (y2 + 1) [some (.ref (h 14)), some (.int x3), some (.int (y2 + 1))] K (dk_of tX4_allInStores 21 rfl) rfl rfl rfl rfl (by decide) ?_
          refine r_goto 34 4 K (dk_of tX4_allInStores 22 rfl) (by decide) ?_
          exact ih4 x3 (y2 + 1) hR
        · refine r_iinc 31 2 (y2 + 1) [some (.ref (h 14)), some (.int y1), some (.int (y2 + 1))] K (dk_of tX4_allInStores 21 rfl) rfl rfl rfl rfl (by decide) ?_
          refine r_goto 34 4 K (dk_of tX4_allInStores 22 rfl) (by decide) ?_
          exact ih4 y1 (y2 + 1) hR
  refine r_iconst 0 (0 : Int32) K (dk_of tX4_allInStores 0 rfl) (by decide) ?_
  refine r_istore_n 1 1 [some (.ref (h 14)), some (.int (0 : Int32)), none] K (dk_of tX4_allInStores 1 rfl) rfl rfl rfl (by decide) ?_
  refine r_iconst 2 (0 : Int32) K (dk_of tX4_allInStores 2 rfl) (by decide) ?_
  refine r_istore_n 3 2 [some (.ref (h 14)), some (.int (0 : Int32)), some (.int (0 : Int32))] K (dk_of tX4_allInStores 3 rfl) rfl rfl rfl (by decide) ?_
  exact b4 200 (0 : Int32) (0 : Int32) hR
end
section
def sp_X0_tideOf (p1 : Int32)  : Option (Int32) := sl ((p1 - p1 / (12 : Int32) * (12 : Int32))) (fun x1 : Int32 => if (6 : Int32) < x1 then (some ((12 : Int32) - x1)) else (some x1))
set_option maxHeartbeats 4000000 in
set_option maxRecDepth 100000 in
theorem ct_X0_tideOf {l : Launch} (hl : l.stackTraces = false) {γ : Gd}   {w : va_W} {p1 : Int32} {x0 : Int32} (hR : some x0 = sp_X0_tideOf p1) : Ct l γ yX0_tideOf (Cond.code yX0_tideOf cX0_tideOf 2 (some .int)) ({ frames := 0, cells := 0, slots := 0, locals := 0 } : Room) [.int p1] (w) (Pr (some (.int x0)) (w)) 0 0 := by
  refine Ct_of hl (by decide +kernel) rfl (Nat.le_of_ble_eq_true rfl) (L := [some (.int p1), none]) rfl ?_
  intro X Q K hQ
  generalize ((w, Q) : MX) = M at K hQ ⊢
  unfold sp_X0_tideOf at hR
  refine r_iload_n 0 0 K (dk_of tX0_tideOf 0 rfl) rfl rfl ?_
  refine r_bipush 1 (12 : Int32) K (dk_of tX0_tideOf 1 rfl) (by decide) ?_
  refine r_irem 3 K (dk_of tX0_tideOf 2 rfl) (by decide) ?_
  refine r_nmI hR (fun x1 hR => ?_)
  refine r_istore_n 4 1 [some (.int p1), some (.int x1)] K (dk_of tX0_tideOf 3 rfl) rfl rfl rfl (by decide) ?_
  refine r_iload_n 5 1 K (dk_of tX0_tideOf 4 rfl) rfl rfl ?_
  refine r_bipush 6 (6 : Int32) K (dk_of tX0_tideOf 5 rfl) (by decide) ?_
  refine r_ic_gt 8 15 K (dk_of tX0_tideOf 6 rfl) (by decide) hR (fun hR => ?_) (fun hR => ?_)
  · refine r_bipush 15 (12 : Int32) K (dk_of tX0_tideOf 9 rfl) (by decide) ?_
    refine r_iload_n 17 1 K (dk_of tX0_tideOf 10 rfl) rfl rfl ?_
    refine r_isub 18 K (dk_of tX0_tideOf 11 rfl) ?_
    exact r_iret 19 K hQ (dk_of tX0_tideOf 12 rfl) (Nat.zero_le _) (Nat.zero_le _) (lfi0 hR)
  · refine r_iload_n 11 1 K (dk_of tX0_tideOf 7 rfl) rfl rfl ?_
    refine r_goto 12 19 K (dk_of tX0_tideOf 8 rfl) (by decide) ?_
    exact r_iret 19 K hQ (dk_of tX0_tideOf 12 rfl) (Nat.zero_le _) (Nat.zero_le _) (lfi0 hR)

def sp_X0_leak_10 (y2 : Int32) : Nat → Int32 → St → Option (St)
  | 0, _, _ => none
  | n + 1, y3, σ4 => if (σ4 10 0) ≤ y3 then (some σ4) else (b1 (sp_X8_leakOf y3 y2 σ4) (fun (x5 : Int32) => if y3 < 0 ∨ 4 ≤ y3.toNatClampNeg then none else (if y3 < 0 ∨ 4 ≤ y3.toNatClampNeg then none else (sl (stU σ4 12 y3.toNatClampNeg ((σ4 12 y3.toNatClampNeg) - x5)) (fun σ6 : St => if y3 < 0 ∨ 4 ≤ y3.toNatClampNeg then none else (if (σ6 11 y3.toNatClampNeg) < 0 ∨ 24 ≤ (σ6 11 y3.toNatClampNeg).toNatClampNeg then none else (if (σ6 11 y3.toNatClampNeg) < 0 ∨ 24 ≤ (σ6 11 y3.toNatClampNeg).toNatClampNeg then none else (sl (stU σ6 4 (σ6 11 y3.toNatClampNeg).toNatClampNeg ((σ6 4 (σ6 11 y3.toNatClampNeg).toNatClampNeg) + x5)) (fun σ7 : St => b1 (sp_X1_noteLeak x5 (σ7 0 4) σ7) (fun (σ8 : St) => sp_X0_leak_10 y2 n (y3 + 1) σ8))))))))))
def sp_X0_leak  (σ : St) : Option (St) := b1 (sp_X0_tideOf (σ 0 4)) (fun (x1 : Int32) => sp_X0_leak_10 x1 200 (0 : Int32) σ)
set_option maxHeartbeats 4000000 in
set_option maxRecDepth 100000 in
theorem ct_X0_leak {l : Launch} (hl : l.stackTraces = false) {γ : Gd} {h : Nat → Nat} {σ : St} {r : va_W}  {σ0 : St} (hR : some σ0 = sp_X0_leak σ) : Ct l γ yX0_leak (Cond.code yX0_leak cX0_leak 4 none) ({ frames := 2, cells := 0, slots := 0, locals := 38 } : Room) [.ref (h 0)] (wB γ h σ ++ (r)) (Pr none (wB γ h σ0 ++ (r))) 0 0 := by
  refine Ct_of hl (by decide +kernel) rfl (Nat.le_of_ble_eq_true rfl) (L := [some (.ref (h 0)), none, none, none]) rfl ?_
  intro X Q K hQ
  generalize ((wB γ h σ ++ (r), Q) : MX) = M at K hQ ⊢
  unfold sp_X0_leak at hR
  have b10 : ∀ (y2 : Int32) (n : Nat) (y3 : Int32) (σ4 : St), some σ0 = sp_X0_leak_10 y2 n y3 σ4 → V l γ X M (wB γ h σ4 ++ (r)) [some (.ref (h 0)), some (.int y2), some (.int y3), none] 0 0 10 [] := by
    intro y2 n
    induction n with
    | zero => intro y3 σ4 hR; exact nn_ hR
    | succ n ih10 =>
      intro y3 σ4 hR
      rw [sp_X0_leak_10] at hR
      refine r_iload_n 10 2 K (dk_of tX0_leak 6 rfl) rfl rfl ?_
      refine r_aload_n 11 0 K (dk_of tX0_leak 7 rfl) rfl rfl ?_
      refine r_getf (C := RX0) (T := TX0) (N := 9) 12 0 1 K (dk_of tX0_leak 8 rfl) w205 gwX0 rfl rfl (by decide) rfl ?_
      refine r_getf (C := RX8) (T := TX8) (N := 4) 15 10 0 K (dk_of tX0_leak 9 rfl) w96 gwX8 rfl rfl (by decide) rfl ?_
      refine r_ic_ge 18 83 K (dk_of tX0_leak 10 rfl) (by decide) hR (fun hR => ?_) (fun hR => ?_)
      · exact r_vret 83 K hQ (dk_of tX0_leak 47 rfl) (Nat.zero_le _) (Nat.zero_le _) (lfv (fun u9 : St => wB γ h u9 ++ (r)) hR)
      · refine r_aload_n 21 0 K (dk_of tX0_leak 11 rfl) rfl rfl ?_
        refine r_getf (C := RX0) (T := TX0) (N := 9) 22 0 1 K (dk_of tX0_leak 12 rfl) w205 gwX0 rfl rfl (by decide) rfl ?_
        refine r_iload_n 25 2 K (dk_of tX0_leak 13 rfl) rfl rfl ?_
        refine r_iload_n 26 1 K (dk_of tX0_leak 14 rfl) rfl rfl ?_
        obtain ⟨x5, hc, hR⟩ := o1 hR
        refine r_cVi 27 10 [.int y3, .int y2] [] x5 (wB γ h σ4 ++ (r)) K (ct_X8_leakOf hl hc.symm) cs_X0_91 ⟨rfl, rfl, rfl⟩ (dk_of tX0_leak 15 rfl) rfl rfl rfl rfl rfl rfl ?_
        refine r_istore_n 30 3 [some (.ref (h 0)), some (.int y2), some (.int y3), some (.int x5)] K (dk_of tX0_leak 16 rfl) rfl rfl rfl (by decide) ?_
        refine r_aload_n 31 0 K (dk_of tX0_leak 17 rfl) rfl rfl ?_
        refine r_getf (C := RX0) (T := TX0) (N := 9) 32 0 1 K (dk_of tX0_leak 18 rfl) w205 gwX0 rfl rfl (by decide) rfl ?_
        refine r_getf (C := RX8) (T := TX8) (N := 4) 35 10 2 K (dk_of tX0_leak 19 rfl) w103 gwX8 rfl rfl (by decide) rfl ?_
        refine r_iload_n 38 2 K (dk_of tX0_leak 20 rfl) rfl rfl ?_
        refine r_dup2 39 K (dk_of tX0_leak 21 rfl) rfl rfl ?_
        refine r_ialdR 40 12 K (dk_of tX0_leak 22 rfl) rfl hR (fun hR => ?_)
        refine r_iload_n 41 3 K (dk_of tX0_leak 23 rfl) rfl rfl ?_
        refine r_isub 42 K (dk_of tX0_leak 24 rfl) ?_
        refine r_iastR 43 12 K (dk_of tX0_leak 25 rfl) rfl sB_12 hR (fun hR => ?_)
        refine r_nmS (fun σ6 : St => wB γ h σ6 ++ (r)) hR (fun σ6 hR => ?_)
        refine r_aload_n 44 0 K (dk_of tX0_leak 26 rfl) rfl rfl ?_
        refine r_getf (C := RX0) (T := TX0) (N := 9) 45 0 0 K (dk_of tX0_leak 27 rfl) w201 gwX0 rfl rfl (by decide) rfl ?_
        refine r_getf (C := RX2) (T := TX2) (N := 8) 48 1 2 K (dk_of tX0_leak 28 rfl) w53 gwX2 rfl rfl (by decide) rfl ?_
        refine r_aload_n 51 0 K (dk_of tX0_leak 29 rfl) rfl rfl ?_
        refine r_getf (C := RX0) (T := TX0) (N := 9) 52 0 1 K (dk_of tX0_leak 30 rfl) w205 gwX0 rfl rfl (by decide) rfl ?_
        refine r_getf (C := RX8) (T := TX8) (N := 4) 55 10 1 K (dk_of tX0_leak 31 rfl) w100 gwX8 rfl rfl (by decide) rfl ?_
        refine r_iload_n 58 2 K (dk_of tX0_leak 32 rfl) rfl rfl ?_
        refine r_ialdR 59 11 K (dk_of tX0_leak 33 rfl) rfl hR (fun hR => ?_)
        refine r_dup2 60 K (dk_of tX0_leak 34 rfl) rfl rfl ?_
        refine r_ialdR 61 4 K (dk_of tX0_leak 35 rfl) rfl hR (fun hR => ?_)
        refine r_iload_n 62 3 K (dk_of tX0_leak 36 rfl) rfl rfl ?_
        refine r_iadd 63 K (dk_of tX0_leak 37 rfl) ?_
        refine r_iastR 64 4 K (dk_of tX0_leak 38 rfl) rfl sB_4 hR (fun hR => ?_)
        refine r_nmS (fun σ7 : St => wB γ h σ7 ++ (r)) hR (fun σ7 hR => ?_)
        refine r_aload_n 65 0 K (dk_of tX0_leak 39 rfl) rfl rfl ?_
        refine r_getf (C := RX0) (T := TX0) (N := 9) 66 0 3 K (dk_of tX0_leak 40 rfl) w211 gwX0 rfl rfl (by decide) rfl ?_
        refine r_iload_n 69 3 K (dk_of tX0_leak 41 rfl) rfl rfl ?_
        refine r_aload_n 70 0 K (dk_of tX0_leak 42 rfl) rfl rfl ?_
        refine r_getf (C := RX0) (T := TX0) (N := 9) 71 0 4 K (dk_of tX0_leak 43 rfl) w214 gwX0 rfl rfl (by decide) rfl ?_
        obtain ⟨σ8, hc, hR⟩ := o1 hR
        refine r_cVv 74 23 [.int x5, .int (σ7 0 4)] [] (wB γ h σ8 ++ (r)) K (ct_X1_noteLeak hl hc.symm) cs_X0_104 ⟨rfl, rfl, rfl⟩ (dk_of tX0_leak 44 rfl) rfl rfl rfl rfl rfl rfl ?_
        refine r_iinc 77 2 (y3 + 1) [some (.ref (h 0)), some (.int y2), some (.int (y3 + 1)), some (.int x5)] K (dk_of tX0_leak 45 rfl) rfl rfl rfl rfl (by decide) ?_
        refine r_goto 80 10 K (dk_of tX0_leak 46 rfl) (by decide) ?_
        exact r_msk [true, true, true, false] [some (.ref (h 0)), some (.int y2), some (.int (y3 + 1)), none] rfl (ih10 (y3 + 1) σ8 hR)
  refine r_aload_n 0 0 K (dk_of tX0_leak 0 rfl) rfl rfl ?_
  refine r_getf (C := RX0) (T := TX0) (N := 9) 1 0 4 K (dk_of tX0_leak 1 rfl) w214 gwX0 rfl rfl (by decide) rfl ?_
  obtain ⟨x1, hc, hR⟩ := o1 hR
  refine r_cSi 4 [.int (σ 0 4)] [] x1 (wB γ h σ ++ (r)) K (ct_X0_tideOf hl hc.symm) cs_X0_75 ⟨rfl, rfl, rfl⟩ (dk_of tX0_leak 2 rfl) rfl rfl rfl rfl ?_
  refine r_istore_n 7 1 [some (.ref (h 0)), some (.int x1), none, none] K (dk_of tX0_leak 3 rfl) rfl rfl rfl (by decide) ?_
  refine r_iconst 8 (0 : Int32) K (dk_of tX0_leak 4 rfl) (by decide) ?_
  refine r_istore_n 9 2 [some (.ref (h 0)), some (.int x1), some (.int (0 : Int32)), none] K (dk_of tX0_leak 5 rfl) rfl rfl rfl (by decide) ?_
  exact b10 x1 200 (0 : Int32) σ hR

def sp_X0_weather_2  : Nat → Int32 → St → Option (St)
  | 0, _, _ => none
  | n + 1, y1, σ2 => if (24 : Int32) ≤ y1 then (some σ2) else (if y1 < 0 ∨ 24 ≤ y1.toNatClampNeg then none else (sl (((σ2 4 y1.toNatClampNeg) / (20 : Int32))) (fun x3 : Int32 => if y1 < 0 ∨ 24 ≤ y1.toNatClampNeg then none else (if y1 < 0 ∨ 24 ≤ y1.toNatClampNeg then none else (sl (stU σ2 4 y1.toNatClampNeg ((σ2 4 y1.toNatClampNeg) - x3)) (fun σ4 : St => sl (stU σ4 23 2 ((σ4 23 2) + x3)) (fun σ5 : St => if y1 < 0 ∨ 24 ≤ y1.toNatClampNeg then none else (sl (((σ5 4 y1.toNatClampNeg) / (10 : Int32))) (fun x6 : Int32 => if y1 < 0 ∨ 24 ≤ y1.toNatClampNeg then none else (if y1 < 0 ∨ 24 ≤ y1.toNatClampNeg then none else (sl (stU σ5 4 y1.toNatClampNeg ((σ5 4 y1.toNatClampNeg) - x6)) (fun σ7 : St => if y1 < 0 ∨ 24 ≤ y1.toNatClampNeg then none else (if y1 < 0 ∨ 24 ≤ y1.toNatClampNeg then none else (sl (stU σ7 5 y1.toNatClampNeg ((σ7 5 y1.toNatClampNeg) + x6)) (fun σ8 : St => if y1 < 0 ∨ 24 ≤ y1.toNatClampNeg then none else (sl (((σ8 5 y1.toNatClampNeg) / (50 : Int32))) (fun x9 : Int32 => if y1 < 0 ∨ 24 ≤ y1.toNatClampNeg then none else (if y1 < 0 ∨ 24 ≤ y1.toNatClampNeg then none else (sl (stU σ8 5 y1.toNatClampNeg ((σ8 5 y1.toNatClampNeg) - x9)) (fun σ10 : St => sl (stU σ10 23 3 ((σ10 23 3) + x9)) (fun σ11 : St => sp_X0_weather_2 n (y1 + 1) σ11)))))))))))))))))))))
def sp_X0_weather  (σ : St) : Option (St) := sp_X0_weather_2 200 (0 : Int32) σ
set_option maxHeartbeats 4000000 in
set_option maxRecDepth 100000 in
theorem ct_X0_weather {l : Launch} (hl : l.stackTraces = false) {γ : Gd} {h : Nat → Nat} {σ : St} {r : va_W}  {σ0 : St} (hR : some σ0 = sp_X0_weather σ) : Ct l γ yX0_weather (Cond.code yX0_weather cX0_weather 5 none) ({ frames := 0, cells := 0, slots := 0, locals := 0 } : Room) [.ref (h 0)] (wB γ h σ ++ (r)) (Pr none (wB γ h σ0 ++ (r))) 0 0 := by
  refine Ct_of hl (by decide +kernel) rfl (Nat.le_of_ble_eq_true rfl) (L := [some (.ref (h 0)), none, none, none, none]) rfl ?_
  intro X Q K hQ
  generalize ((wB γ h σ ++ (r), Q) : MX) = M at K hQ ⊢
  unfold sp_X0_weather at hR
  have b2 : ∀  (n : Nat) (y1 : Int32) (σ2 : St), some σ0 = sp_X0_weather_2  n y1 σ2 → V l γ X M (wB γ h σ2 ++ (r)) [some (.ref (h 0)), some (.int y1), none, none, none] 0 0 2 [] := by
    intro  n
    induction n with
    | zero => intro y1 σ2 hR; exact nn_ hR
    | succ n ih2 =>
      intro y1 σ2 hR
      rw [sp_X0_weather_2] at hR
      refine r_iload_n 2 1 K (dk_of tX0_weather 2 rfl) rfl rfl ?_
      refine r_bipush 3 (24 : Int32) K (dk_of tX0_weather 3 rfl) (by decide) ?_
      refine r_ic_ge 5 134 K (dk_of tX0_weather 4 rfl) (by decide) hR (fun hR => ?_) (fun hR => ?_)
      · exact r_vret 134 K hQ (dk_of tX0_weather 81 rfl) (Nat.zero_le _) (Nat.zero_le _) (lfv (fun u9 : St => wB γ h u9 ++ (r)) hR)
      · refine r_aload_n 8 0 K (dk_of tX0_weather 5 rfl) rfl rfl ?_
        refine r_getf (C := RX0) (T := TX0) (N := 9) 9 0 0 K (dk_of tX0_weather 6 rfl) w201 gwX0 rfl rfl (by decide) rfl ?_
        refine r_getf (C := RX2) (T := TX2) (N := 8) 12 1 2 K (dk_of tX0_weather 7 rfl) w53 gwX2 rfl rfl (by decide) rfl ?_
        refine r_iload_n 15 1 K (dk_of tX0_weather 8 rfl) rfl rfl ?_
        refine r_ialdR 16 4 K (dk_of tX0_weather 9 rfl) rfl hR (fun hR => ?_)
        refine r_bipush 17 (20 : Int32) K (dk_of tX0_weather 10 rfl) (by decide) ?_
        refine r_idiv 19 K (dk_of tX0_weather 11 rfl) (by decide) ?_
        refine r_nmI hR (fun x3 hR => ?_)
        refine r_istore_n 20 2 [some (.ref (h 0)), some (.int y1), some (.int x3), none, none] K (dk_of tX0_weather 12 rfl) rfl rfl rfl (by decide) ?_
        refine r_aload_n 21 0 K (dk_of tX0_weather 13 rfl) rfl rfl ?_
        refine r_getf (C := RX0) (T := TX0) (N := 9) 22 0 0 K (dk_of tX0_weather 14 rfl) w201 gwX0 rfl rfl (by decide) rfl ?_
        refine r_getf (C := RX2) (T := TX2) (N := 8) 25 1 2 K (dk_of tX0_weather 15 rfl) w53 gwX2 rfl rfl (by decide) rfl ?_
        refine r_iload_n 28 1 K (dk_of tX0_weather 16 rfl) rfl rfl ?_
        refine r_dup2 29 K (dk_of tX0_weather 17 rfl) rfl rfl ?_
        refine r_ialdR 30 4 K (dk_of tX0_weather 18 rfl) rfl hR (fun hR => ?_)
        refine r_iload_n 31 2 K (dk_of tX0_weather 19 rfl) rfl rfl ?_
        refine r_isub 32 K (dk_of tX0_weather 20 rfl) ?_
        refine r_iastR 33 4 K (dk_of tX0_weather 21 rfl) rfl sB_4 hR (fun hR => ?_)
        refine r_nmS (fun σ4 : St => wB γ h σ4 ++ (r)) hR (fun σ4 hR => ?_)
        refine r_aload_n 34 0 K (dk_of tX0_weather 22 rfl) rfl rfl ?_
        refine r_getf (C := RX0) (T := TX0) (N := 9) 35 0 3 K (dk_of tX0_weather 23 rfl) w211 gwX0 rfl rfl (by decide) rfl ?_
        refine r_dup 38 K (dk_of tX0_weather 24 rfl) rfl ?_
        refine r_getf (C := RX1) (T := TX1) (N := 7) 39 23 2 K (dk_of tX0_weather 25 rfl) w176 gwX1 rfl rfl (by decide) rfl ?_
        refine r_iload_n 42 2 K (dk_of tX0_weather 26 rfl) rfl rfl ?_
        refine r_iadd 43 K (dk_of tX0_weather 27 rfl) ?_
        refine r_putf (C := RX1) (T := TX1) (N := 7) 44 23 2 K (dk_of tX0_weather 28 rfl) w176 gwX1 tyX1_ok nmX1 rfl rfl (by decide) rfl rfl rfl rfl (Nat.le_of_ble_eq_true rfl) sB_23_2 ?_
        refine r_nmS (fun σ5 : St => wB γ h σ5 ++ (r)) hR (fun σ5 hR => ?_)
        refine r_aload_n 47 0 K (dk_of tX0_weather 29 rfl) rfl rfl ?_
        refine r_getf (C := RX0) (T := TX0) (N := 9) 48 0 0 K (dk_of tX0_weather 30 rfl) w201 gwX0 rfl rfl (by decide) rfl ?_
        refine r_getf (C := RX2) (T := TX2) (N := 8) 51 1 2 K (dk_of tX0_weather 31 rfl) w53 gwX2 rfl rfl (by decide) rfl ?_
        refine r_iload_n 54 1 K (dk_of tX0_weather 32 rfl) rfl rfl ?_
        refine r_ialdR 55 4 K (dk_of tX0_weather 33 rfl) rfl hR (fun hR => ?_)
        refine r_bipush 56 (10 : Int32) K (dk_of tX0_weather 34 rfl) (by decide) ?_
        refine r_idiv 58 K (dk_of tX0_weather 35 rfl) (by decide) ?_
        refine r_nmI hR (fun x6 hR => ?_)
        refine r_istore_n 59 3 [some (.ref (h 0)), some (.int y1), some (.int x3), some (.int x6), none] K (dk_of tX0_weather 36 rfl) rfl rfl rfl (by decide) ?_
        refine r_aload_n 60 0 K (dk_of tX0_weather 37 rfl) rfl rfl ?_
        refine r_getf (C := RX0) (T := TX0) (N := 9) 61 0 0 K (dk_of tX0_weather 38 rfl) w201 gwX0 rfl rfl (by decide) rfl ?_
        refine r_getf (C := RX2) (T := TX2) (N := 8) 64 1 2 K (dk_of tX0_weather 39 rfl) w53 gwX2 rfl rfl (by decide) rfl ?_
        refine r_iload_n 67 1 K (dk_of tX0_weather 40 rfl) rfl rfl ?_
        refine r_dup2 68 K (dk_of tX0_weather 41 rfl) rfl rfl ?_
        refine r_ialdR 69 4 K (dk_of tX0_weather 42 rfl) rfl hR (fun hR => ?_)
        refine r_iload_n 70 3 K (dk_of tX0_weather 43 rfl) rfl rfl ?_
        refine r_isub 71 K (dk_of tX0_weather 44 rfl) ?_
        refine r_iastR 72 4 K (dk_of tX0_weather 45 rfl) rfl sB_4 hR (fun hR => ?_)
        refine r_nmS (fun σ7 : St => wB γ h σ7 ++ (r)) hR (fun σ7 hR => ?_)
        refine r_aload_n 73 0 K (dk_of tX0_weather 46 rfl) rfl rfl ?_
        refine r_getf (C := RX0) (T := TX0) (N := 9) 74 0 0 K (dk_of tX0_weather 47 rfl) w201 gwX0 rfl rfl (by decide) rfl ?_
        refine r_getf (C := RX2) (T := TX2) (N := 8) 77 1 3 K (dk_of tX0_weather 48 rfl) w58 gwX2 rfl rfl (by decide) rfl ?_
        refine r_iload_n 80 1 K (dk_of tX0_weather 49 rfl) rfl rfl ?_
        refine r_dup2 81 K (dk_of tX0_weather 50 rfl) rfl rfl ?_
        refine r_ialdR 82 5 K (dk_of tX0_weather 51 rfl) rfl hR (fun hR => ?_)
        refine r_iload_n 83 3 K (dk_of tX0_weather 52 rfl) rfl rfl ?_
        refine r_iadd 84 K (dk_of tX0_weather 53 rfl) ?_
        refine r_iastR 85 5 K (dk_of tX0_weather 54 rfl) rfl sB_5 hR (fun hR => ?_)
        refine r_nmS (fun σ8 : St => wB γ h σ8 ++ (r)) hR (fun σ8 hR => ?_)
        refine r_aload_n 86 0 K (dk_of tX0_weather 55 rfl) rfl rfl ?_
        refine r_getf (C := RX0) (T := TX0) (N := 9) 87 0 0 K (dk_of tX0_weather 56 rfl) w201 gwX0 rfl rfl (by decide) rfl ?_
        refine r_getf (C := RX2) (T := TX2) (N := 8) 90 1 3 K (dk_of tX0_weather 57 rfl) w58 gwX2 rfl rfl (by decide) rfl ?_
        refine r_iload_n 93 1 K (dk_of tX0_weather 58 rfl) rfl rfl ?_
        refine r_ialdR 94 5 K (dk_of tX0_weather 59 rfl) rfl hR (fun hR => ?_)
        refine r_bipush 95 (50 : Int32) K (dk_of tX0_weather 60 rfl) (by decide) ?_
        refine r_idiv 97 K (dk_of tX0_weather 61 rfl) (by decide) ?_
        refine r_nmI hR (fun x9 hR => ?_)
        refine r_istore 98 4 [some (.ref (h 0)), some (.int y1), some (.int x3), some (.int x6), some (.int x9)] K (dk_of tX0_weather 62 rfl) rfl rfl (by decide) ?_
        refine r_aload_n 100 0 K (dk_of tX0_weather 63 rfl) rfl rfl ?_
        refine r_getf (C := RX0) (T := TX0) (N := 9) 101 0 0 K (dk_of tX0_weather 64 rfl) w201 gwX0 rfl rfl (by decide) rfl ?_
        refine r_getf (C := RX2) (T := TX2) (N := 8) 104 1 3 K (dk_of tX0_weather 65 rfl) w58 gwX2 rfl rfl (by decide) rfl ?_
        refine r_iload_n 107 1 K (dk_of tX0_weather 66 rfl) rfl rfl ?_
        refine r_dup2 108 K (dk_of tX0_weather 67 rfl) rfl rfl ?_
        refine r_ialdR 109 5 K (dk_of tX0_weather 68 rfl) rfl hR (fun hR => ?_)
        refine r_iload 110 4 K (dk_of tX0_weather 69 rfl) rfl ?_
        refine r_isub 112 K (dk_of tX0_weather 70 rfl) ?_
        refine r_iastR 113 5 K (dk_of tX0_weather 71 rfl) rfl sB_5 hR (fun hR => ?_)
        refine r_nmS (fun σ10 : St => wB γ h σ10 ++ (r)) hR (fun σ10 hR => ?_)
        refine r_aload_n 114 0 K (dk_of tX0_weather 72 rfl) rfl rfl ?_
        refine r_getf (C := RX0) (T := TX0) (N := 9) 115 0 3 K (dk_of tX0_weather 73 rfl) w211 gwX0 rfl rfl (by decide) rfl ?_
        refine r_dup 118 K (dk_of tX0_weather 74 rfl) rfl ?_
        refine r_getf (C := RX1) (T := TX1) (N := 7) 119 23 3 K (dk_of tX0_weather 75 rfl) w178 gwX1 rfl rfl (by decide) rfl ?_
        refine r_iload 122 4 K (dk_of tX0_weather 76 rfl) rfl ?_
        refine r_iadd 124 K (dk_of tX0_weather 77 rfl) ?_
        refine r_putf (C := RX1) (T := TX1) (N := 7) 125 23 3 K (dk_of tX0_weather 78 rfl) w178 gwX1 tyX1_ok nmX1 rfl rfl (by decide) rfl rfl rfl rfl (Nat.le_of_ble_eq_true rfl) sB_23_3 ?_
        refine r_nmS (fun σ11 : St => wB γ h σ11 ++ (r)) hR (fun σ11 hR => ?_)
        refine r_iinc 128 1 (y1 + 1) [some (.ref (h 0)), some (.int (y1 + 1)), some (.int x3), some (.int x6), some (.int x9)] K (dk_of tX0_weather 79 rfl) rfl rfl rfl rfl (by decide) ?_
        refine r_goto 131 2 K (dk_of tX0_weather 80 rfl) (by decide) ?_
        exact r_msk [true, true, false, false, false] [some (.ref (h 0)), some (.int (y1 + 1)), none, none, none] rfl (ih2 (y1 + 1) σ11 hR)
  refine r_iconst 0 (0 : Int32) K (dk_of tX0_weather 0 rfl) (by decide) ?_
  refine r_istore_n 1 1 [some (.ref (h 0)), some (.int (0 : Int32)), none, none, none] K (dk_of tX0_weather 1 rfl) rfl rfl rfl (by decide) ?_
  exact b2 200 (0 : Int32) σ hR

def sp_X0_roomBehind (p1 : Int32) (σ : St) : Option (Int32) := b1 (sp_X2_beside p1 (σ 0 5)) (fun (x1 : Int32) => if x1 = (-1 : Int32) then (some (1000000 : Int32)) else (b1 (sp_X2_isWater x1 σ) (fun (x2 : Int32) => if x2 = 0 then (b1 (sp_X2_roomOf x1 σ) (fun (x3 : Int32) => some x3)) else (some (1000000 : Int32)))))
set_option maxHeartbeats 4000000 in
set_option maxRecDepth 100000 in
theorem ct_X0_roomBehind {l : Launch} (hl : l.stackTraces = false) {γ : Gd} {h : Nat → Nat} {σ : St} {r : va_W} {p1 : Int32} {x0 : Int32} (hR : some x0 = sp_X0_roomBehind p1 σ) : Ct l γ yX0_roomBehind (Cond.code yX0_roomBehind cX0_roomBehind 3 (some .int)) ({ frames := 1, cells := 0, slots := 0, locals := 23 } : Room) [.ref (h 0), .int p1] (wB γ h σ ++ (r)) (Pr (some (.int x0)) (wB γ h σ ++ (r))) 0 0 := by
  refine Ct_of hl (by decide +kernel) rfl (Nat.le_of_ble_eq_true rfl) (L := [some (.ref (h 0)), some (.int p1), none]) rfl ?_
  intro X Q K hQ
  generalize ((wB γ h σ ++ (r), Q) : MX) = M at K hQ ⊢
  unfold sp_X0_roomBehind at hR
  refine r_iload_n 0 1 K (dk_of tX0_roomBehind 0 rfl) rfl rfl ?_
  refine r_aload_n 1 0 K (dk_of tX0_roomBehind 1 rfl) rfl rfl ?_
  refine r_getf (C := RX0) (T := TX0) (N := 9) 2 0 5 K (dk_of tX0_roomBehind 2 rfl) w216 gwX0 rfl rfl (by decide) rfl ?_
  obtain ⟨x1, hc, hR⟩ := o1 hR
  refine r_cSi 5 [.int p1, .int (σ 0 5)] [] x1 (wB γ h σ ++ (r)) K (ct_X2_beside hl hc.symm) cs_X0_121 ⟨rfl, rfl, rfl⟩ (dk_of tX0_roomBehind 3 rfl) rfl rfl rfl rfl ?_
  refine r_istore_n 8 2 [some (.ref (h 0)), some (.int p1), some (.int x1)] K (dk_of tX0_roomBehind 4 rfl) rfl rfl rfl (by decide) ?_
  refine r_iload_n 9 2 K (dk_of tX0_roomBehind 5 rfl) rfl rfl ?_
  refine r_iconst 10 (-1) K (dk_of tX0_roomBehind 6 rfl) (by decide) ?_
  refine r_ic_eq 11 25 K (dk_of tX0_roomBehind 7 rfl) (by decide) hR (fun hR => ?_) (fun hR => ?_)
  · refine r_ldc 25 1000000 K (dk_of tX0_roomBehind 13 rfl) w583 ?_
    refine r_goto 27 38 K (dk_of tX0_roomBehind 14 rfl) (by decide) ?_
    exact r_iret 38 K hQ (dk_of tX0_roomBehind 19 rfl) (Nat.zero_le _) (Nat.zero_le _) (lfi0 hR)
  · refine r_aload_n 14 0 K (dk_of tX0_roomBehind 8 rfl) rfl rfl ?_
    refine r_getf (C := RX0) (T := TX0) (N := 9) 15 0 0 K (dk_of tX0_roomBehind 9 rfl) w201 gwX0 rfl rfl (by decide) rfl ?_
    refine r_iload_n 18 2 K (dk_of tX0_roomBehind 10 rfl) rfl rfl ?_
    obtain ⟨x2, hc, hR⟩ := o1 hR
    refine r_cVi 19 1 [.int x1] [] x2 (wB γ h σ ++ (r)) K (ct_X2_isWater hl hc.symm) cs_X0_147 ⟨rfl, rfl, rfl⟩ (dk_of tX0_roomBehind 11 rfl) rfl rfl rfl rfl rfl rfl ?_
    refine r_if_eq 22 30 K (dk_of tX0_roomBehind 12 rfl) (by decide) hR (fun hR => ?_) (fun hR => ?_)
    · refine r_aload_n 30 0 K (dk_of tX0_roomBehind 15 rfl) rfl rfl ?_
      refine r_getf (C := RX0) (T := TX0) (N := 9) 31 0 0 K (dk_of tX0_roomBehind 16 rfl) w201 gwX0 rfl rfl (by decide) rfl ?_
      refine r_iload_n 34 2 K (dk_of tX0_roomBehind 17 rfl) rfl rfl ?_
      obtain ⟨x3, hc, hR⟩ := o1 hR
      refine r_cVi 35 1 [.int x1] [] x3 (wB γ h σ ++ (r)) K (ct_X2_roomOf hl hc.symm) cs_X0_152 ⟨rfl, rfl, rfl⟩ (dk_of tX0_roomBehind 18 rfl) rfl rfl rfl rfl rfl rfl ?_
      exact r_iret 38 K hQ (dk_of tX0_roomBehind 19 rfl) (Nat.zero_le _) (Nat.zero_le _) (lfi0 hR)
    · refine r_ldc 25 1000000 K (dk_of tX0_roomBehind 13 rfl) w583 ?_
      refine r_goto 27 38 K (dk_of tX0_roomBehind 14 rfl) (by decide) ?_
      exact r_iret 38 K hQ (dk_of tX0_roomBehind 19 rfl) (Nat.zero_le _) (Nat.zero_le _) (lfi0 hR)

def sp_X0_blown (p1 : Int32) (p2 : Int32) (σ : St) : Option (Int32) := some (iMin ((p1 * (σ 0 6)) / (10 : Int32)) p2)
set_option maxHeartbeats 4000000 in
set_option maxRecDepth 100000 in
theorem ct_X0_blown {l : Launch} (hl : l.stackTraces = false) {γ : Gd} {h : Nat → Nat} {σ : St} {r : va_W} {p1 : Int32} {p2 : Int32} {x0 : Int32} (hR : some x0 = sp_X0_blown p1 p2 σ) : Ct l γ yX0_blown (Cond.code yX0_blown cX0_blown 3 (some .int)) ({ frames := 1, cells := 0, slots := 0, locals := 15 } : Room) [.ref (h 0), .int p1, .int p2] (wB γ h σ ++ (r)) (Pr (some (.int x0)) (wB γ h σ ++ (r))) 0 0 := by
  refine Ct_of hl (by decide +kernel) rfl (Nat.le_of_ble_eq_true rfl) (L := [some (.ref (h 0)), some (.int p1), some (.int p2)]) rfl ?_
  intro X Q K hQ
  generalize ((wB γ h σ ++ (r), Q) : MX) = M at K hQ ⊢
  unfold sp_X0_blown at hR
  refine r_iload_n 0 1 K (dk_of tX0_blown 0 rfl) rfl rfl ?_
  refine r_aload_n 1 0 K (dk_of tX0_blown 1 rfl) rfl rfl ?_
  refine r_getf (C := RX0) (T := TX0) (N := 9) 2 0 6 K (dk_of tX0_blown 2 rfl) w219 gwX0 rfl rfl (by decide) rfl ?_
  refine r_imul 5 K (dk_of tX0_blown 3 rfl) ?_
  refine r_bipush 6 (10 : Int32) K (dk_of tX0_blown 4 rfl) (by decide) ?_
  refine r_idiv 8 K (dk_of tX0_blown 5 rfl) (by decide) ?_
  refine r_iload_n 9 2 K (dk_of tX0_blown 6 rfl) rfl rfl ?_
  refine r_min 10 K w594 w557 w19 w558 (dk_of tX0_blown 7 rfl) rfl ?_
  exact r_iret 13 K hQ (dk_of tX0_blown 8 rfl) (Nat.zero_le _) (Nat.zero_le _) (lfi0 hR)

def sp_X0_findWhatGoes_108  (y4 : Int32) (y5 : Int32) (y6 : Int32) (σ7 : St) : Option (St) := if y4 < 0 ∨ 24 ≤ y4.toNatClampNeg then none else (sl (stU σ7 24 y4.toNatClampNeg y5) (fun σ8 : St => if y4 < 0 ∨ 24 ≤ y4.toNatClampNeg then none else (sl (stU σ8 25 y4.toNatClampNeg y6) (fun σ9 : St => some σ9))))
def sp_X0_findWhatGoes_91  (y11 : Int32) (y12 : Int32) (y13 : Int32) (y14 : Int32) (σ15 : St) : Option (St) := if y14 = (-1 : Int32) then (sp_X0_findWhatGoes_108 y11 y12 y13 σ15) else (if y14 < 0 ∨ 20 ≤ y14.toNatClampNeg then none else (sl (stU σ15 20 y14.toNatClampNeg (1 : Int32)) (fun σ16 : St => sp_X0_findWhatGoes_108 y11 y12 y13 σ16)))
def sp_X0_findWhatGoes (p1 : Int32) (σ : St) : Option (St) := b1 (sp_X0_roomBehind p1 σ) (fun (x1 : Int32) => if p1 < 0 ∨ 24 ≤ p1.toNatClampNeg then none else (b1 (sp_X0_blown (σ 4 p1.toNatClampNeg) x1 σ) (fun (x2 : Int32) => if p1 < 0 ∨ 24 ≤ p1.toNatClampNeg then none else (b1 (sp_X0_blown (σ 5 p1.toNatClampNeg) (x1 - x2) σ) (fun (x3 : Int32) => if (x2 + x3) ≤ 0 then (sp_X0_findWhatGoes_108 p1 x2 x3 σ) else (b1 (sp_X4_boomOn p1 (σ 0 5) σ) (fun (x10 : Int32) => if x10 = (-1 : Int32) then (sp_X0_findWhatGoes_91 p1 x2 x3 x10 σ) else (if x10 < 0 ∨ 20 ≤ x10.toNatClampNeg then none else (if (σ 18 x10.toNatClampNeg) < (σ 0 6) then (sp_X0_findWhatGoes_91 p1 x2 x3 x10 σ) else (sp_X0_findWhatGoes_108 p1 (0 : Int32) (0 : Int32) σ))))))))))
set_option maxHeartbeats 4000000 in
set_option maxRecDepth 100000 in
theorem ct_X0_findWhatGoes {l : Launch} (hl : l.stackTraces = false) {γ : Gd} {h : Nat → Nat} {σ : St} {r : va_W} {p1 : Int32} {σ0 : St} (hR : some σ0 = sp_X0_findWhatGoes p1 σ) : Ct l γ yX0_findWhatGoes (Cond.code yX0_findWhatGoes cX0_findWhatGoes 6 none) ({ frames := 2, cells := 0, slots := 0, locals := 48 } : Room) [.ref (h 0), .int p1] (wB γ h σ ++ (r)) (Pr none (wB γ h σ0 ++ (r))) 0 0 := by
  refine Ct_of hl (by decide +kernel) rfl (Nat.le_of_ble_eq_true rfl) (L := [some (.ref (h 0)), some (.int p1), none, none, none, none]) rfl ?_
  intro X Q K hQ
  generalize ((wB γ h σ ++ (r), Q) : MX) = M at K hQ ⊢
  unfold sp_X0_findWhatGoes at hR
  have b108 : ∀ (y4 : Int32) (y5 : Int32) (y6 : Int32) (σ7 : St), some σ0 = sp_X0_findWhatGoes_108  y4 y5 y6 σ7 → V l γ X M (wB γ h σ7 ++ (r)) [some (.ref (h 0)), some (.int y4), none, some (.int y5), some (.int y6), none] 0 0 108 [] := by
    intro  y4 y5 y6 σ7 hR
    unfold sp_X0_findWhatGoes_108 at hR
    refine r_aload_n 108 0 K (dk_of tX0_findWhatGoes 60 rfl) rfl rfl ?_
    refine r_getf (C := RX0) (T := TX0) (N := 9) 109 0 7 K (dk_of tX0_findWhatGoes 61 rfl) w223 gwX0 rfl rfl (by decide) rfl ?_
    refine r_iload_n 112 1 K (dk_of tX0_findWhatGoes 62 rfl) rfl rfl ?_
    refine r_iload_n 113 3 K (dk_of tX0_findWhatGoes 63 rfl) rfl rfl ?_
    refine r_iastR 114 24 K (dk_of tX0_findWhatGoes 64 rfl) rfl sB_24 hR (fun hR => ?_)
    refine r_nmS (fun σ8 : St => wB γ h σ8 ++ (r)) hR (fun σ8 hR => ?_)
    refine r_aload_n 115 0 K (dk_of tX0_findWhatGoes 65 rfl) rfl rfl ?_
    refine r_getf (C := RX0) (T := TX0) (N := 9) 116 0 8 K (dk_of tX0_findWhatGoes 66 rfl) w224 gwX0 rfl rfl (by decide) rfl ?_
    refine r_iload_n 119 1 K (dk_of tX0_findWhatGoes 67 rfl) rfl rfl ?_
    refine r_iload 120 4 K (dk_of tX0_findWhatGoes 68 rfl) rfl ?_
    refine r_iastR 122 25 K (dk_of tX0_findWhatGoes 69 rfl) rfl sB_25 hR (fun hR => ?_)
    refine r_nmS (fun σ9 : St => wB γ h σ9 ++ (r)) hR (fun σ9 hR => ?_)
    exact r_vret 123 K hQ (dk_of tX0_findWhatGoes 70 rfl) (Nat.zero_le _) (Nat.zero_le _) (lfv (fun u9 : St => wB γ h u9 ++ (r)) hR)
  have b91 : ∀ (y11 : Int32) (y12 : Int32) (y13 : Int32) (y14 : Int32) (σ15 : St), some σ0 = sp_X0_findWhatGoes_91  y11 y12 y13 y14 σ15 → V l γ X M (wB γ h σ15 ++ (r)) [some (.ref (h 0)), some (.int y11), none, some (.int y12), some (.int y13), some (.int y14)] 0 0 91 [] := by
    intro  y11 y12 y13 y14 σ15 hR
    unfold sp_X0_findWhatGoes_91 at hR
    refine r_iload 91 5 K (dk_of tX0_findWhatGoes 51 rfl) rfl ?_
    refine r_iconst 93 (-1) K (dk_of tX0_findWhatGoes 52 rfl) (by decide) ?_
    refine r_ic_eq 94 108 K (dk_of tX0_findWhatGoes 53 rfl) (by decide) hR (fun hR => ?_) (fun hR => ?_)
    · exact r_msk [true, true, true, true, true, false] [some (.ref (h 0)), some (.int y11), none, some (.int y12), some (.int y13), none] rfl (b108 y11 y12 y13 σ15 hR)
    · refine r_aload_n 97 0 K (dk_of tX0_findWhatGoes 54 rfl) rfl rfl ?_
      refine r_getf (C := RX0) (T := TX0) (N := 9) 98 0 2 K (dk_of tX0_findWhatGoes 55 rfl) w208 gwX0 rfl rfl (by decide) rfl ?_
      refine r_getf (C := RX4) (T := TX4) (N := 9) 101 14 6 K (dk_of tX0_findWhatGoes 56 rfl) w141 gwX4 rfl rfl (by decide) rfl ?_
      refine r_iload 104 5 K (dk_of tX0_findWhatGoes 57 rfl) rfl ?_
      refine r_iconst 106 (1 : Int32) K (dk_of tX0_findWhatGoes 58 rfl) (by decide) ?_
      refine r_iastR 107 20 K (dk_of tX0_findWhatGoes 59 rfl) rfl sB_20 hR (fun hR => ?_)
      refine r_nmS (fun σ16 : St => wB γ h σ16 ++ (r)) hR (fun σ16 hR => ?_)
      exact r_msk [true, true, true, true, true, false] [some (.ref (h 0)), some (.int y11), none, some (.int y12), some (.int y13), none] rfl (b108 y11 y12 y13 σ16 hR)
  refine r_aload_n 0 0 K (dk_of tX0_findWhatGoes 0 rfl) rfl rfl ?_
  refine r_iload_n 1 1 K (dk_of tX0_findWhatGoes 1 rfl) rfl rfl ?_
  obtain ⟨x1, hc, hR⟩ := o1 hR
  refine r_cVi 2 0 [.int p1] [] x1 (wB γ h σ ++ (r)) K (ct_X0_roomBehind hl hc.symm) cs_X0_127 ⟨rfl, rfl, rfl⟩ (dk_of tX0_findWhatGoes 2 rfl) rfl rfl rfl rfl rfl rfl ?_
  refine r_istore_n 5 2 [some (.ref (h 0)), some (.int p1), some (.int x1), none, none, none] K (dk_of tX0_findWhatGoes 3 rfl) rfl rfl rfl (by decide) ?_
  refine r_aload_n 6 0 K (dk_of tX0_findWhatGoes 4 rfl) rfl rfl ?_
  refine r_aload_n 7 0 K (dk_of tX0_findWhatGoes 5 rfl) rfl rfl ?_
  refine r_getf (C := RX0) (T := TX0) (N := 9) 8 0 0 K (dk_of tX0_findWhatGoes 6 rfl) w201 gwX0 rfl rfl (by decide) rfl ?_
  refine r_getf (C := RX2) (T := TX2) (N := 8) 11 1 2 K (dk_of tX0_findWhatGoes 7 rfl) w53 gwX2 rfl rfl (by decide) rfl ?_
  refine r_iload_n 14 1 K (dk_of tX0_findWhatGoes 8 rfl) rfl rfl ?_
  refine r_ialdR 15 4 K (dk_of tX0_findWhatGoes 9 rfl) rfl hR (fun hR => ?_)
  refine r_iload_n 16 2 K (dk_of tX0_findWhatGoes 10 rfl) rfl rfl ?_
  obtain ⟨x2, hc, hR⟩ := o1 hR
  refine r_cVi 17 0 [.int (σ 4 p1.toNatClampNeg), .int x1] [] x2 (wB γ h σ ++ (r)) K (ct_X0_blown hl hc.symm) cs_X0_130 ⟨rfl, rfl, rfl⟩ (dk_of tX0_findWhatGoes 11 rfl) rfl rfl rfl rfl rfl rfl ?_
  refine r_istore_n 20 3 [some (.ref (h 0)), some (.int p1), some (.int x1), some (.int x2), none, none] K (dk_of tX0_findWhatGoes 12 rfl) rfl rfl rfl (by decide) ?_
  refine r_aload_n 21 0 K (dk_of tX0_findWhatGoes 13 rfl) rfl rfl ?_
  refine r_aload_n 22 0 K (dk_of tX0_findWhatGoes 14 rfl) rfl rfl ?_
  refine r_getf (C := RX0) (T := TX0) (N := 9) 23 0 0 K (dk_of tX0_findWhatGoes 15 rfl) w201 gwX0 rfl rfl (by decide) rfl ?_
  refine r_getf (C := RX2) (T := TX2) (N := 8) 26 1 3 K (dk_of tX0_findWhatGoes 16 rfl) w58 gwX2 rfl rfl (by decide) rfl ?_
  refine r_iload_n 29 1 K (dk_of tX0_findWhatGoes 17 rfl) rfl rfl ?_
  refine r_ialdR 30 5 K (dk_of tX0_findWhatGoes 18 rfl) rfl hR (fun hR => ?_)
  refine r_iload_n 31 2 K (dk_of tX0_findWhatGoes 19 rfl) rfl rfl ?_
  refine r_iload_n 32 3 K (dk_of tX0_findWhatGoes 20 rfl) rfl rfl ?_
  refine r_isub 33 K (dk_of tX0_findWhatGoes 21 rfl) ?_
  obtain ⟨x3, hc, hR⟩ := o1 hR
  refine r_cVi 34 0 [.int (σ 5 p1.toNatClampNeg), .int (x1 - x2)] [] x3 (wB γ h σ ++ (r)) K (ct_X0_blown hl hc.symm) cs_X0_130 ⟨rfl, rfl, rfl⟩ (dk_of tX0_findWhatGoes 22 rfl) rfl rfl rfl rfl rfl rfl ?_
  refine r_istore 37 4 [some (.ref (h 0)), some (.int p1), some (.int x1), some (.int x2), some (.int x3), none] K (dk_of tX0_findWhatGoes 23 rfl) rfl rfl (by decide) ?_
  refine r_iload_n 39 3 K (dk_of tX0_findWhatGoes 24 rfl) rfl rfl ?_
  refine r_iload 40 4 K (dk_of tX0_findWhatGoes 25 rfl) rfl ?_
  refine r_iadd 42 K (dk_of tX0_findWhatGoes 26 rfl) ?_
  refine r_if_le 43 108 K (dk_of tX0_findWhatGoes 27 rfl) (by decide) hR (fun hR => ?_) (fun hR => ?_)
  · exact r_msk [true, true, false, true, true, true] [some (.ref (h 0)), some (.int p1), none, some (.int x2), some (.int x3), none] rfl (b108 p1 x2 x3 σ hR)
  · refine r_aload_n 46 0 K (dk_of tX0_findWhatGoes 28 rfl) rfl rfl ?_
    refine r_getf (C := RX0) (T := TX0) (N := 9) 47 0 2 K (dk_of tX0_findWhatGoes 29 rfl) w208 gwX0 rfl rfl (by decide) rfl ?_
    refine r_iload_n 50 1 K (dk_of tX0_findWhatGoes 30 rfl) rfl rfl ?_
    refine r_aload_n 51 0 K (dk_of tX0_findWhatGoes 31 rfl) rfl rfl ?_
    refine r_getf (C := RX0) (T := TX0) (N := 9) 52 0 5 K (dk_of tX0_findWhatGoes 32 rfl) w216 gwX0 rfl rfl (by decide) rfl ?_
    obtain ⟨x10, hc, hR⟩ := o1 hR
    refine r_cVi 55 14 [.int p1, .int (σ 0 5)] [] x10 (wB γ h σ ++ (r)) K (ct_X4_boomOn hl hc.symm) cs_X0_133 ⟨rfl, rfl, rfl⟩ (dk_of tX0_findWhatGoes 33 rfl) rfl rfl rfl rfl rfl rfl ?_
    refine r_istore 58 5 [some (.ref (h 0)), some (.int p1), some (.int x1), some (.int x2), some (.int x3), some (.int x10)] K (dk_of tX0_findWhatGoes 34 rfl) rfl rfl (by decide) ?_
    refine r_iload 60 5 K (dk_of tX0_findWhatGoes 35 rfl) rfl ?_
    refine r_iconst 62 (-1) K (dk_of tX0_findWhatGoes 36 rfl) (by decide) ?_
    refine r_ic_eq 63 91 K (dk_of tX0_findWhatGoes 37 rfl) (by decide) hR (fun hR => ?_) (fun hR => ?_)
    · exact r_msk [true, true, false, true, true, true] [some (.ref (h 0)), some (.int p1), none, some (.int x2), some (.int x3), some (.int x10)] rfl (b91 p1 x2 x3 x10 σ hR)
    · refine r_aload_n 66 0 K (dk_of tX0_findWhatGoes 38 rfl) rfl rfl ?_
      refine r_getf (C := RX0) (T := TX0) (N := 9) 67 0 2 K (dk_of tX0_findWhatGoes 39 rfl) w208 gwX0 rfl rfl (by decide) rfl ?_
      refine r_getf (C := RX4) (T := TX4) (N := 9) 70 14 4 K (dk_of tX0_findWhatGoes 40 rfl) w136 gwX4 rfl rfl (by decide) rfl ?_
      refine r_iload 73 5 K (dk_of tX0_findWhatGoes 41 rfl) rfl ?_
      refine r_ialdR 75 18 K (dk_of tX0_findWhatGoes 42 rfl) rfl hR (fun hR => ?_)
      refine r_aload_n 76 0 K (dk_of tX0_findWhatGoes 43 rfl) rfl rfl ?_
      refine r_getf (C := RX0) (T := TX0) (N := 9) 77 0 6 K (dk_of tX0_findWhatGoes 44 rfl) w219 gwX0 rfl rfl (by decide) rfl ?_
      refine r_ic_lt 80 91 K (dk_of tX0_findWhatGoes 45 rfl) (by decide) hR (fun hR => ?_) (fun hR => ?_)
      · exact r_msk [true, true, false, true, true, true] [some (.ref (h 0)), some (.int p1), none, some (.int x2), some (.int x3), some (.int x10)] rfl (b91 p1 x2 x3 x10 σ hR)
      · refine r_iconst 83 (0 : Int32) K (dk_of tX0_findWhatGoes 46 rfl) (by decide) ?_
        refine r_istore_n 84 3 [some (.ref (h 0)), some (.int p1), some (.int x1), some (.int (0 : Int32)), some (.int x3), some (.int x10)] K (dk_of tX0_findWhatGoes 47 rfl) rfl rfl rfl (by decide) ?_
        refine r_iconst 85 (0 : Int32) K (dk_of tX0_findWhatGoes 48 rfl) (by decide) ?_
        refine r_istore 86 4 [some (.ref (h 0)), some (.int p1), some (.int x1), some (.int (0 : Int32)), some (.int (0 : Int32)), some (.int x10)] K (dk_of tX0_findWhatGoes 49 rfl) rfl rfl (by decide) ?_
        refine r_goto 88 108 K (dk_of tX0_findWhatGoes 50 rfl) (by decide) ?_
        exact r_msk [true, true, false, true, true, false] [some (.ref (h 0)), some (.int p1), none, some (.int (0 : Int32)), some (.int (0 : Int32)), none] rfl (b108 p1 (0 : Int32) (0 : Int32) σ hR)

def sp_X0_letGo (p1 : Int32) (p2 : Int32) (σ : St) : Option (St) := if p1 < 0 ∨ 24 ≤ p1.toNatClampNeg then none else (sl ((σ 24 p1.toNatClampNeg)) (fun x1 : Int32 => if p1 < 0 ∨ 24 ≤ p1.toNatClampNeg then none else (sl ((σ 25 p1.toNatClampNeg)) (fun x2 : Int32 => if p1 < 0 ∨ 24 ≤ p1.toNatClampNeg then none else (if p1 < 0 ∨ 24 ≤ p1.toNatClampNeg then none else (sl (stU σ 4 p1.toNatClampNeg ((σ 4 p1.toNatClampNeg) - x1)) (fun σ3 : St => if p1 < 0 ∨ 24 ≤ p1.toNatClampNeg then none else (if p1 < 0 ∨ 24 ≤ p1.toNatClampNeg then none else (sl (stU σ3 5 p1.toNatClampNeg ((σ3 5 p1.toNatClampNeg) - x2)) (fun σ4 : St => if p2 = (-1 : Int32) then (sl (stU σ4 23 4 ((σ4 23 4) + (x1 + x2))) (fun σ5 : St => some σ5)) else (b1 (sp_X2_isWater p2 σ4) (fun (x6 : Int32) => if x6 = 0 then (if p2 < 0 ∨ 24 ≤ p2.toNatClampNeg then none else (if p2 < 0 ∨ 24 ≤ p2.toNatClampNeg then none else (sl (stU σ4 6 p2.toNatClampNeg ((σ4 6 p2.toNatClampNeg) + (x1 + x2))) (fun σ7 : St => some σ7)))) else (if p2 < 0 ∨ 24 ≤ p2.toNatClampNeg then none else (if p2 < 0 ∨ 24 ≤ p2.toNatClampNeg then none else (sl (stU σ4 4 p2.toNatClampNeg ((σ4 4 p2.toNatClampNeg) + x1)) (fun σ8 : St => if p2 < 0 ∨ 24 ≤ p2.toNatClampNeg then none else (if p2 < 0 ∨ 24 ≤ p2.toNatClampNeg then none else (sl (stU σ8 5 p2.toNatClampNeg ((σ8 5 p2.toNatClampNeg) + x2)) (fun σ9 : St => some σ9)))))))))))))))))))
set_option maxHeartbeats 4000000 in
set_option maxRecDepth 100000 in
theorem ct_X0_letGo {l : Launch} (hl : l.stackTraces = false) {γ : Gd} {h : Nat → Nat} {σ : St} {r : va_W} {p1 : Int32} {p2 : Int32} {σ0 : St} (hR : some σ0 = sp_X0_letGo p1 p2 σ) : Ct l γ yX0_letGo (Cond.code yX0_letGo cX0_letGo 5 none) ({ frames := 1, cells := 0, slots := 0, locals := 21 } : Room) [.ref (h 0), .int p1, .int p2] (wB γ h σ ++ (r)) (Pr none (wB γ h σ0 ++ (r))) 0 0 := by
  refine Ct_of hl (by decide +kernel) rfl (Nat.le_of_ble_eq_true rfl) (L := [some (.ref (h 0)), some (.int p1), some (.int p2), none, none]) rfl ?_
  intro X Q K hQ
  generalize ((wB γ h σ ++ (r), Q) : MX) = M at K hQ ⊢
  unfold sp_X0_letGo at hR
  refine r_aload_n 0 0 K (dk_of tX0_letGo 0 rfl) rfl rfl ?_
  refine r_getf (C := RX0) (T := TX0) (N := 9) 1 0 7 K (dk_of tX0_letGo 1 rfl) w223 gwX0 rfl rfl (by decide) rfl ?_
  refine r_iload_n 4 1 K (dk_of tX0_letGo 2 rfl) rfl rfl ?_
  refine r_ialdR 5 24 K (dk_of tX0_letGo 3 rfl) rfl hR (fun hR => ?_)
  refine r_nmI hR (fun x1 hR => ?_)
  refine r_istore_n 6 3 [some (.ref (h 0)), some (.int p1), some (.int p2), some (.int x1), none] K (dk_of tX0_letGo 4 rfl) rfl rfl rfl (by decide) ?_
  refine r_aload_n 7 0 K (dk_of tX0_letGo 5 rfl) rfl rfl ?_
  refine r_getf (C := RX0) (T := TX0) (N := 9) 8 0 8 K (dk_of tX0_letGo 6 rfl) w224 gwX0 rfl rfl (by decide) rfl ?_
  refine r_iload_n 11 1 K (dk_of tX0_letGo 7 rfl) rfl rfl ?_
  refine r_ialdR 12 25 K (dk_of tX0_letGo 8 rfl) rfl hR (fun hR => ?_)
  refine r_nmI hR (fun x2 hR => ?_)
  refine r_istore 13 4 [some (.ref (h 0)), some (.int p1), some (.int p2), some (.int x1), some (.int x2)] K (dk_of tX0_letGo 9 rfl) rfl rfl (by decide) ?_
  refine r_aload_n 15 0 K (dk_of tX0_letGo 10 rfl) rfl rfl ?_
  refine r_getf (C := RX0) (T := TX0) (N := 9) 16 0 0 K (dk_of tX0_letGo 11 rfl) w201 gwX0 rfl rfl (by decide) rfl ?_
  refine r_getf (C := RX2) (T := TX2) (N := 8) 19 1 2 K (dk_of tX0_letGo 12 rfl) w53 gwX2 rfl rfl (by decide) rfl ?_
  refine r_iload_n 22 1 K (dk_of tX0_letGo 13 rfl) rfl rfl ?_
  refine r_dup2 23 K (dk_of tX0_letGo 14 rfl) rfl rfl ?_
  refine r_ialdR 24 4 K (dk_of tX0_letGo 15 rfl) rfl hR (fun hR => ?_)
  refine r_iload_n 25 3 K (dk_of tX0_letGo 16 rfl) rfl rfl ?_
  refine r_isub 26 K (dk_of tX0_letGo 17 rfl) ?_
  refine r_iastR 27 4 K (dk_of tX0_letGo 18 rfl) rfl sB_4 hR (fun hR => ?_)
  refine r_nmS (fun σ3 : St => wB γ h σ3 ++ (r)) hR (fun σ3 hR => ?_)
  refine r_aload_n 28 0 K (dk_of tX0_letGo 19 rfl) rfl rfl ?_
  refine r_getf (C := RX0) (T := TX0) (N := 9) 29 0 0 K (dk_of tX0_letGo 20 rfl) w201 gwX0 rfl rfl (by decide) rfl ?_
  refine r_getf (C := RX2) (T := TX2) (N := 8) 32 1 3 K (dk_of tX0_letGo 21 rfl) w58 gwX2 rfl rfl (by decide) rfl ?_
  refine r_iload_n 35 1 K (dk_of tX0_letGo 22 rfl) rfl rfl ?_
  refine r_dup2 36 K (dk_of tX0_letGo 23 rfl) rfl rfl ?_
  refine r_ialdR 37 5 K (dk_of tX0_letGo 24 rfl) rfl hR (fun hR => ?_)
  refine r_iload 38 4 K (dk_of tX0_letGo 25 rfl) rfl ?_
  refine r_isub 40 K (dk_of tX0_letGo 26 rfl) ?_
  refine r_iastR 41 5 K (dk_of tX0_letGo 27 rfl) rfl sB_5 hR (fun hR => ?_)
  refine r_nmS (fun σ4 : St => wB γ h σ4 ++ (r)) hR (fun σ4 hR => ?_)
  refine r_iload_n 42 2 K (dk_of tX0_letGo 28 rfl) rfl rfl ?_
  refine r_iconst 43 (-1) K (dk_of tX0_letGo 29 rfl) (by decide) ?_
  refine r_ic_ne 44 66 K (dk_of tX0_letGo 30 rfl) (by decide) hR (fun hR => ?_) (fun hR => ?_)
  · refine r_aload_n 47 0 K (dk_of tX0_letGo 31 rfl) rfl rfl ?_
    refine r_getf (C := RX0) (T := TX0) (N := 9) 48 0 3 K (dk_of tX0_letGo 32 rfl) w211 gwX0 rfl rfl (by decide) rfl ?_
    refine r_dup 51 K (dk_of tX0_letGo 33 rfl) rfl ?_
    refine r_getf (C := RX1) (T := TX1) (N := 7) 52 23 4 K (dk_of tX0_letGo 34 rfl) w180 gwX1 rfl rfl (by decide) rfl ?_
    refine r_iload_n 55 3 K (dk_of tX0_letGo 35 rfl) rfl rfl ?_
    refine r_iload 56 4 K (dk_of tX0_letGo 36 rfl) rfl ?_
    refine r_iadd 58 K (dk_of tX0_letGo 37 rfl) ?_
    refine r_iadd 59 K (dk_of tX0_letGo 38 rfl) ?_
    refine r_putf (C := RX1) (T := TX1) (N := 7) 60 23 4 K (dk_of tX0_letGo 39 rfl) w180 gwX1 tyX1_ok nmX1 rfl rfl (by decide) rfl rfl rfl rfl (Nat.le_of_ble_eq_true rfl) sB_23_4 ?_
    refine r_nmS (fun σ5 : St => wB γ h σ5 ++ (r)) hR (fun σ5 hR => ?_)
    refine r_goto 63 123 K (dk_of tX0_letGo 40 rfl) (by decide) ?_
    exact r_vret 123 K hQ (dk_of tX0_letGo 76 rfl) (Nat.zero_le _) (Nat.zero_le _) (lfv (fun u9 : St => wB γ h u9 ++ (r)) hR)
  · refine r_aload_n 66 0 K (dk_of tX0_letGo 41 rfl) rfl rfl ?_
    refine r_getf (C := RX0) (T := TX0) (N := 9) 67 0 0 K (dk_of tX0_letGo 42 rfl) w201 gwX0 rfl rfl (by decide) rfl ?_
    refine r_iload_n 70 2 K (dk_of tX0_letGo 43 rfl) rfl rfl ?_
    obtain ⟨x6, hc, hR⟩ := o1 hR
    refine r_cVi 71 1 [.int p2] [] x6 (wB γ h σ4 ++ (r)) K (ct_X2_isWater hl hc.symm) cs_X0_147 ⟨rfl, rfl, rfl⟩ (dk_of tX0_letGo 44 rfl) rfl rfl rfl rfl rfl rfl ?_
    refine r_if_eq 74 107 K (dk_of tX0_letGo 45 rfl) (by decide) hR (fun hR => ?_) (fun hR => ?_)
    · refine r_aload_n 107 0 K (dk_of tX0_letGo 65 rfl) rfl rfl ?_
      refine r_getf (C := RX0) (T := TX0) (N := 9) 108 0 0 K (dk_of tX0_letGo 66 rfl) w201 gwX0 rfl rfl (by decide) rfl ?_
      refine r_getf (C := RX2) (T := TX2) (N := 8) 111 1 4 K (dk_of tX0_letGo 67 rfl) w63 gwX2 rfl rfl (by decide) rfl ?_
      refine r_iload_n 114 2 K (dk_of tX0_letGo 68 rfl) rfl rfl ?_
      refine r_dup2 115 K (dk_of tX0_letGo 69 rfl) rfl rfl ?_
      refine r_ialdR 116 6 K (dk_of tX0_letGo 70 rfl) rfl hR (fun hR => ?_)
      refine r_iload_n 117 3 K (dk_of tX0_letGo 71 rfl) rfl rfl ?_
      refine r_iload 118 4 K (dk_of tX0_letGo 72 rfl) rfl ?_
      refine r_iadd 120 K (dk_of tX0_letGo 73 rfl) ?_
      refine r_iadd 121 K (dk_of tX0_letGo 74 rfl) ?_
      refine r_iastR 122 6 K (dk_of tX0_letGo 75 rfl) rfl sB_6 hR (fun hR => ?_)
      refine r_nmS (fun σ7 : St => wB γ h σ7 ++ (r)) hR (fun σ7 hR => ?_)
      exact r_vret 123 K hQ (dk_of tX0_letGo 76 rfl) (Nat.zero_le _) (Nat.zero_le _) (lfv (fun u9 : St => wB γ h u9 ++ (r)) hR)
    · refine r_aload_n 77 0 K (dk_of tX0_letGo 46 rfl) rfl rfl ?_
      refine r_getf (C := RX0) (T := TX0) (N := 9) 78 0 0 K (dk_of tX0_letGo 47 rfl) w201 gwX0 rfl rfl (by decide) rfl ?_
      refine r_getf (C := RX2) (T := TX2) (N := 8) 81 1 2 K (dk_of tX0_letGo 48 rfl) w53 gwX2 rfl rfl (by decide) rfl ?_
      refine r_iload_n 84 2 K (dk_of tX0_letGo 49 rfl) rfl rfl ?_
      refine r_dup2 85 K (dk_of tX0_letGo 50 rfl) rfl rfl ?_
      refine r_ialdR 86 4 K (dk_of tX0_letGo 51 rfl) rfl hR (fun hR => ?_)
      refine r_iload_n 87 3 K (dk_of tX0_letGo 52 rfl) rfl rfl ?_
      refine r_iadd 88 K (dk_of tX0_letGo 53 rfl) ?_
      refine r_iastR 89 4 K (dk_of tX0_letGo 54 rfl) rfl sB_4 hR (fun hR => ?_)
      refine r_nmS (fun σ8 : St => wB γ h σ8 ++ (r)) hR (fun σ8 hR => ?_)
      refine r_aload_n 90 0 K (dk_of tX0_letGo 55 rfl) rfl rfl ?_
      refine r_getf (C := RX0) (T := TX0) (N := 9) 91 0 0 K (dk_of tX0_letGo 56 rfl) w201 gwX0 rfl rfl (by decide) rfl ?_
      refine r_getf (C := RX2) (T := TX2) (N := 8) 94 1 3 K (dk_of tX0_letGo 57 rfl) w58 gwX2 rfl rfl (by decide) rfl ?_
      refine r_iload_n 97 2 K (dk_of tX0_letGo 58 rfl) rfl rfl ?_
      refine r_dup2 98 K (dk_of tX0_letGo 59 rfl) rfl rfl ?_
      refine r_ialdR 99 5 K (dk_of tX0_letGo 60 rfl) rfl hR (fun hR => ?_)
      refine r_iload 100 4 K (dk_of tX0_letGo 61 rfl) rfl ?_
      refine r_iadd 102 K (dk_of tX0_letGo 62 rfl) ?_
      refine r_iastR 103 5 K (dk_of tX0_letGo 63 rfl) rfl sB_5 hR (fun hR => ?_)
      refine r_nmS (fun σ9 : St => wB γ h σ9 ++ (r)) hR (fun σ9 hR => ?_)
      refine r_goto 104 123 K (dk_of tX0_letGo 64 rfl) (by decide) ?_
      exact r_vret 123 K hQ (dk_of tX0_letGo 76 rfl) (Nat.zero_le _) (Nat.zero_le _) (lfv (fun u9 : St => wB γ h u9 ++ (r)) hR)

def sp_X0_drift_21  : Nat → Int32 → St → Option (St)
  | 0, _, _ => none
  | n + 1, y3, σ4 => if (24 : Int32) ≤ y3 then (some σ4) else (b1 (sp_X2_beside y3 (σ4 0 5)) (fun (x5 : Int32) => b1 (sp_X0_letGo y3 x5 σ4) (fun (σ6 : St) => sp_X0_drift_21 n (y3 + 1) σ6)))
def sp_X0_drift_2  : Nat → Int32 → St → Option (St)
  | 0, _, _ => none
  | n + 1, y1, σ2 => if (24 : Int32) ≤ y1 then (sp_X0_drift_21 200 (0 : Int32) σ2) else (b1 (sp_X0_findWhatGoes y1 σ2) (fun (σ7 : St) => sp_X0_drift_2 n (y1 + 1) σ7))
def sp_X0_drift  (σ : St) : Option (St) := sp_X0_drift_2 200 (0 : Int32) σ
set_option maxHeartbeats 4000000 in
set_option maxRecDepth 100000 in
theorem ct_X0_drift {l : Launch} (hl : l.stackTraces = false) {γ : Gd} {h : Nat → Nat} {σ : St} {r : va_W}  {σ0 : St} (hR : some σ0 = sp_X0_drift σ) : Ct l γ yX0_drift (Cond.code yX0_drift cX0_drift 2 none) ({ frames := 3, cells := 0, slots := 0, locals := 73 } : Room) [.ref (h 0)] (wB γ h σ ++ (r)) (Pr none (wB γ h σ0 ++ (r))) 0 0 := by
  refine Ct_of hl (by decide +kernel) rfl (Nat.le_of_ble_eq_true rfl) (L := [some (.ref (h 0)), none]) rfl ?_
  intro X Q K hQ
  generalize ((wB γ h σ ++ (r), Q) : MX) = M at K hQ ⊢
  unfold sp_X0_drift at hR
  have b21 : ∀  (n : Nat) (y3 : Int32) (σ4 : St), some σ0 = sp_X0_drift_21  n y3 σ4 → V l γ X M (wB γ h σ4 ++ (r)) [some (.ref (h 0)), some (.int y3)] 0 0 21 [] := by
    intro  n
    induction n with
    | zero => intro y3 σ4 hR; exact nn_ hR
    | succ n ih21 =>
      intro y3 σ4 hR
      rw [sp_X0_drift_21] at hR
      refine r_iload_n 21 1 K (dk_of tX0_drift 12 rfl) rfl rfl ?_
      refine r_bipush 22 (24 : Int32) K (dk_of tX0_drift 13 rfl) (by decide) ?_
      refine r_ic_ge 24 46 K (dk_of tX0_drift 14 rfl) (by decide) hR (fun hR => ?_) (fun hR => ?_)
      · exact r_vret 46 K hQ (dk_of tX0_drift 24 rfl) (Nat.zero_le _) (Nat.zero_le _) (lfv (fun u9 : St => wB γ h u9 ++ (r)) hR)
      · refine r_aload_n 27 0 K (dk_of tX0_drift 15 rfl) rfl rfl ?_
        refine r_iload_n 28 1 K (dk_of tX0_drift 16 rfl) rfl rfl ?_
        refine r_iload_n 29 1 K (dk_of tX0_drift 17 rfl) rfl rfl ?_
        refine r_aload_n 30 0 K (dk_of tX0_drift 18 rfl) rfl rfl ?_
        refine r_getf (C := RX0) (T := TX0) (N := 9) 31 0 5 K (dk_of tX0_drift 19 rfl) w216 gwX0 rfl rfl (by decide) rfl ?_
        obtain ⟨x5, hc, hR⟩ := o1 hR
        refine r_cSi 34 [.int y3, .int (σ4 0 5)] [.int y3, .ref (h 0)] x5 (wB γ h σ4 ++ (r)) K (ct_X2_beside hl hc.symm) cs_X0_121 ⟨rfl, rfl, rfl⟩ (dk_of tX0_drift 20 rfl) rfl rfl rfl rfl ?_
        obtain ⟨σ6, hc, hR⟩ := o1 hR
        refine r_cVv 37 0 [.int y3, .int x5] [] (wB γ h σ6 ++ (r)) K (ct_X0_letGo hl hc.symm) cs_X0_124 ⟨rfl, rfl, rfl⟩ (dk_of tX0_drift 21 rfl) rfl rfl rfl rfl rfl rfl ?_
        refine r_iinc 40 1 (y3 + 1) [some (.ref (h 0)), some (.int (y3 + 1))] K (dk_of tX0_drift 22 rfl) rfl rfl rfl rfl (by decide) ?_
        refine r_goto 43 21 K (dk_of tX0_drift 23 rfl) (by decide) ?_
        exact ih21 (y3 + 1) σ6 hR
  have b2 : ∀  (n : Nat) (y1 : Int32) (σ2 : St), some σ0 = sp_X0_drift_2  n y1 σ2 → V l γ X M (wB γ h σ2 ++ (r)) [some (.ref (h 0)), some (.int y1)] 0 0 2 [] := by
    intro  n
    induction n with
    | zero => intro y1 σ2 hR; exact nn_ hR
    | succ n ih2 =>
      intro y1 σ2 hR
      rw [sp_X0_drift_2] at hR
      refine r_iload_n 2 1 K (dk_of tX0_drift 2 rfl) rfl rfl ?_
      refine r_bipush 3 (24 : Int32) K (dk_of tX0_drift 3 rfl) (by decide) ?_
      refine r_ic_ge 5 19 K (dk_of tX0_drift 4 rfl) (by decide) hR (fun hR => ?_) (fun hR => ?_)
      · refine r_iconst 19 (0 : Int32) K (dk_of tX0_drift 10 rfl) (by decide) ?_
        refine r_istore_n 20 1 [some (.ref (h 0)), some (.int (0 : Int32))] K (dk_of tX0_drift 11 rfl) rfl rfl rfl (by decide) ?_
        exact b21 200 (0 : Int32) σ2 hR
      · refine r_aload_n 8 0 K (dk_of tX0_drift 5 rfl) rfl rfl ?_
        refine r_iload_n 9 1 K (dk_of tX0_drift 6 rfl) rfl rfl ?_
        obtain ⟨σ7, hc, hR⟩ := o1 hR
        refine r_cVv 10 0 [.int y1] [] (wB γ h σ7 ++ (r)) K (ct_X0_findWhatGoes hl hc.symm) cs_X0_117 ⟨rfl, rfl, rfl⟩ (dk_of tX0_drift 7 rfl) rfl rfl rfl rfl rfl rfl ?_
        refine r_iinc 13 1 (y1 + 1) [some (.ref (h 0)), some (.int (y1 + 1))] K (dk_of tX0_drift 8 rfl) rfl rfl rfl rfl (by decide) ?_
        refine r_goto 16 2 K (dk_of tX0_drift 9 rfl) (by decide) ?_
        exact ih2 (y1 + 1) σ7 hR
  refine r_iconst 0 (0 : Int32) K (dk_of tX0_drift 0 rfl) (by decide) ?_
  refine r_istore_n 1 1 [some (.ref (h 0)), some (.int (0 : Int32))] K (dk_of tX0_drift 1 rfl) rfl rfl rfl (by decide) ?_
  exact b2 200 (0 : Int32) σ hR

def sp_X0_giveBack_2  : Nat → Int32 → St → Option (St)
  | 0, _, _ => none
  | n + 1, y1, σ2 => if (24 : Int32) ≤ y1 then (some σ2) else (b1 (sp_X2_lowestWaterBeside y1 σ2) (fun (x3 : Int32) => if x3 = (-1 : Int32) then (sp_X0_giveBack_2 n (y1 + 1) σ2) else (if y1 < 0 ∨ 24 ≤ y1.toNatClampNeg then none else (b1 (sp_X2_backOf y1 (σ2 6 y1.toNatClampNeg) σ2) (fun (x4 : Int32) => if y1 < 0 ∨ 24 ≤ y1.toNatClampNeg then none else (if y1 < 0 ∨ 24 ≤ y1.toNatClampNeg then none else (sl (stU σ2 6 y1.toNatClampNeg ((σ2 6 y1.toNatClampNeg) - x4)) (fun σ5 : St => if x3 < 0 ∨ 24 ≤ x3.toNatClampNeg then none else (if x3 < 0 ∨ 24 ≤ x3.toNatClampNeg then none else (sl (stU σ5 5 x3.toNatClampNeg ((σ5 5 x3.toNatClampNeg) + x4)) (fun σ6 : St => sp_X0_giveBack_2 n (y1 + 1) σ6)))))))))))
def sp_X0_giveBack  (σ : St) : Option (St) := sp_X0_giveBack_2 200 (0 : Int32) σ
set_option maxHeartbeats 4000000 in
set_option maxRecDepth 100000 in
theorem ct_X0_giveBack {l : Launch} (hl : l.stackTraces = false) {γ : Gd} {h : Nat → Nat} {σ : St} {r : va_W}  {σ0 : St} (hR : some σ0 = sp_X0_giveBack σ) : Ct l γ yX0_giveBack (Cond.code yX0_giveBack cX0_giveBack 4 none) ({ frames := 2, cells := 0, slots := 0, locals := 47 } : Room) [.ref (h 0)] (wB γ h σ ++ (r)) (Pr none (wB γ h σ0 ++ (r))) 0 0 := by
  refine Ct_of hl (by decide +kernel) rfl (Nat.le_of_ble_eq_true rfl) (L := [some (.ref (h 0)), none, none, none]) rfl ?_
  intro X Q K hQ
  generalize ((wB γ h σ ++ (r), Q) : MX) = M at K hQ ⊢
  unfold sp_X0_giveBack at hR
  have b2 : ∀  (n : Nat) (y1 : Int32) (σ2 : St), some σ0 = sp_X0_giveBack_2  n y1 σ2 → V l γ X M (wB γ h σ2 ++ (r)) [some (.ref (h 0)), some (.int y1), none, none] 0 0 2 [] := by
    intro  n
    induction n with
    | zero => intro y1 σ2 hR; exact nn_ hR
    | succ n ih2 =>
      intro y1 σ2 hR
      rw [sp_X0_giveBack_2] at hR
      refine r_iload_n 2 1 K (dk_of tX0_giveBack 2 rfl) rfl rfl ?_
      refine r_bipush 3 (24 : Int32) K (dk_of tX0_giveBack 3 rfl) (by decide) ?_
      refine r_ic_ge 5 72 K (dk_of tX0_giveBack 4 rfl) (by decide) hR (fun hR => ?_) (fun hR => ?_)
      · exact r_vret 72 K hQ (dk_of tX0_giveBack 43 rfl) (Nat.zero_le _) (Nat.zero_le _) (lfv (fun u9 : St => wB γ h u9 ++ (r)) hR)
      · refine r_aload_n 8 0 K (dk_of tX0_giveBack 5 rfl) rfl rfl ?_
        refine r_getf (C := RX0) (T := TX0) (N := 9) 9 0 0 K (dk_of tX0_giveBack 6 rfl) w201 gwX0 rfl rfl (by decide) rfl ?_
        refine r_iload_n 12 1 K (dk_of tX0_giveBack 7 rfl) rfl rfl ?_
        obtain ⟨x3, hc, hR⟩ := o1 hR
        refine r_cVi 13 1 [.int y1] [] x3 (wB γ h σ2 ++ (r)) K (ct_X2_lowestWaterBeside hl hc.symm) cs_X0_161 ⟨rfl, rfl, rfl⟩ (dk_of tX0_giveBack 8 rfl) rfl rfl rfl rfl rfl rfl ?_
        refine r_istore_n 16 2 [some (.ref (h 0)), some (.int y1), some (.int x3), none] K (dk_of tX0_giveBack 9 rfl) rfl rfl rfl (by decide) ?_
        refine r_iload_n 17 2 K (dk_of tX0_giveBack 10 rfl) rfl rfl ?_
        refine r_iconst 18 (-1) K (dk_of tX0_giveBack 11 rfl) (by decide) ?_
        refine r_ic_eq 19 66 K (dk_of tX0_giveBack 12 rfl) (by decide) hR (fun hR => ?_) (fun hR => ?_)
        · refine r_iinc 66 1 (y1 + 1) [some (.ref (h 0)), some (.int (y1 + 1)), some (.int x3), none] K (dk_of tX0_giveBack 41 rfl) rfl rfl rfl rfl (by decide) ?_
          refine r_goto 69 2 K (dk_of tX0_giveBack 42 rfl) (by decide) ?_
          exact r_msk [true, true, false, true] [some (.ref (h 0)), some (.int (y1 + 1)), none, none] rfl (ih2 (y1 + 1) σ2 hR)
        · refine r_aload_n 22 0 K (dk_of tX0_giveBack 13 rfl) rfl rfl ?_
          refine r_getf (C := RX0) (T := TX0) (N := 9) 23 0 0 K (dk_of tX0_giveBack 14 rfl) w201 gwX0 rfl rfl (by decide) rfl ?_
          refine r_iload_n 26 1 K (dk_of tX0_giveBack 15 rfl) rfl rfl ?_
          refine r_aload_n 27 0 K (dk_of tX0_giveBack 16 rfl) rfl rfl ?_
          refine r_getf (C := RX0) (T := TX0) (N := 9) 28 0 0 K (dk_of tX0_giveBack 17 rfl) w201 gwX0 rfl rfl (by decide) rfl ?_
          refine r_getf (C := RX2) (T := TX2) (N := 8) 31 1 4 K (dk_of tX0_giveBack 18 rfl) w63 gwX2 rfl rfl (by decide) rfl ?_
          refine r_iload_n 34 1 K (dk_of tX0_giveBack 19 rfl) rfl rfl ?_
          refine r_ialdR 35 6 K (dk_of tX0_giveBack 20 rfl) rfl hR (fun hR => ?_)
          obtain ⟨x4, hc, hR⟩ := o1 hR
          refine r_cVi 36 1 [.int y1, .int (σ2 6 y1.toNatClampNeg)] [] x4 (wB γ h σ2 ++ (r)) K (ct_X2_backOf hl hc.symm) cs_X0_164 ⟨rfl, rfl, rfl⟩ (dk_of tX0_giveBack 21 rfl) rfl rfl rfl rfl rfl rfl ?_
          refine r_istore_n 39 3 [some (.ref (h 0)), some (.int y1), some (.int x3), some (.int x4)] K (dk_of tX0_giveBack 22 rfl) rfl rfl rfl (by decide) ?_
          refine r_aload_n 40 0 K (dk_of tX0_giveBack 23 rfl) rfl rfl ?_
          refine r_getf (C := RX0) (T := TX0) (N := 9) 41 0 0 K (dk_of tX0_giveBack 24 rfl) w201 gwX0 rfl rfl (by decide) rfl ?_
          refine r_getf (C := RX2) (T := TX2) (N := 8) 44 1 4 K (dk_of tX0_giveBack 25 rfl) w63 gwX2 rfl rfl (by decide) rfl ?_
          refine r_iload_n 47 1 K (dk_of tX0_giveBack 26 rfl) rfl rfl ?_
          refine r_dup2 48 K (dk_of tX0_giveBack 27 rfl) rfl rfl ?_
          refine r_ialdR 49 6 K (dk_of tX0_giveBack 28 rfl) rfl hR (fun hR => ?_)
          refine r_iload_n 50 3 K (dk_of tX0_giveBack 29 rfl) rfl rfl ?_
          refine r_isub 51 K (dk_of tX0_giveBack 30 rfl) ?_
          refine r_iastR 52 6 K (dk_of tX0_giveBack 31 rfl) rfl sB_6 hR (fun hR => ?_)
          refine r_nmS (fun σ5 : St => wB γ h σ5 ++ (r)) hR (fun σ5 hR => ?_)
          refine r_aload_n 53 0 K (dk_of tX0_giveBack 32 rfl) rfl rfl ?_
          refine r_getf (C := RX0) (T := TX0) (N := 9) 54 0 0 K (dk_of tX0_giveBack 33 rfl) w201 gwX0 rfl rfl (by decide) rfl ?_
          refine r_getf (C := RX2) (T := TX2) (N := 8) 57 1 3 K (dk_of tX0_giveBack 34 rfl) w58 gwX2 rfl rfl (by decide) rfl ?_
          refine r_iload_n 60 2 K (dk_of tX0_giveBack 35 rfl) rfl rfl ?_
          refine r_dup2 61 K (dk_of tX0_giveBack 36 rfl) rfl rfl ?_
          refine r_ialdR 62 5 K (dk_of tX0_giveBack 37 rfl) rfl hR (fun hR => ?_)
          refine r_iload_n 63 3 K (dk_of tX0_giveBack 38 rfl) rfl rfl ?_
          refine r_iadd 64 K (dk_of tX0_giveBack 39 rfl) ?_
          refine r_iastR 65 5 K (dk_of tX0_giveBack 40 rfl) rfl sB_5 hR (fun hR => ?_)
          refine r_nmS (fun σ6 : St => wB γ h σ6 ++ (r)) hR (fun σ6 hR => ?_)
          refine r_iinc 66 1 (y1 + 1) [some (.ref (h 0)), some (.int (y1 + 1)), some (.int x3), some (.int x4)] K (dk_of tX0_giveBack 41 rfl) rfl rfl rfl rfl (by decide) ?_
          refine r_goto 69 2 K (dk_of tX0_giveBack 42 rfl) (by decide) ?_
          exact r_msk [true, true, false, false] [some (.ref (h 0)), some (.int (y1 + 1)), none, none] rfl (ih2 (y1 + 1) σ6 hR)
  refine r_iconst 0 (0 : Int32) K (dk_of tX0_giveBack 0 rfl) (by decide) ?_
  refine r_istore_n 1 1 [some (.ref (h 0)), some (.int (0 : Int32)), none, none] K (dk_of tX0_giveBack 1 rfl) rfl rfl rfl (by decide) ?_
  exact b2 200 (0 : Int32) σ hR

def sp_X0_skim_2  : Nat → Int32 → St → Option (St)
  | 0, _, _ => none
  | n + 1, y1, σ2 => if (σ2 14 0) ≤ y1 then (some σ2) else (if y1 < 0 ∨ 20 ≤ y1.toNatClampNeg then none else (if (σ2 15 y1.toNatClampNeg) = (1 : Int32) then (if y1 < 0 ∨ 20 ≤ y1.toNatClampNeg then none else (sl ((σ2 16 y1.toNatClampNeg)) (fun x3 : Int32 => if x3 < 0 ∨ 24 ≤ x3.toNatClampNeg then none else (b1 (sp_X4_freshTaken y1 (σ2 4 x3.toNatClampNeg) σ2) (fun (x4 : Int32) => if x3 < 0 ∨ 24 ≤ x3.toNatClampNeg then none else (b1 (sp_X4_thickTaken y1 x4 (σ2 5 x3.toNatClampNeg) σ2) (fun (x5 : Int32) => if x3 < 0 ∨ 24 ≤ x3.toNatClampNeg then none else (if x3 < 0 ∨ 24 ≤ x3.toNatClampNeg then none else (sl (stU σ2 4 x3.toNatClampNeg ((σ2 4 x3.toNatClampNeg) - x4)) (fun σ6 : St => if x3 < 0 ∨ 24 ≤ x3.toNatClampNeg then none else (if x3 < 0 ∨ 24 ≤ x3.toNatClampNeg then none else (sl (stU σ6 5 x3.toNatClampNeg ((σ6 5 x3.toNatClampNeg) - x5)) (fun σ7 : St => if y1 < 0 ∨ 20 ≤ y1.toNatClampNeg then none else (if y1 < 0 ∨ 20 ≤ y1.toNatClampNeg then none else (sl (stU σ7 20 y1.toNatClampNeg ((σ7 20 y1.toNatClampNeg) + (x4 + x5))) (fun σ8 : St => sp_X0_skim_2 n (y1 + 1) σ8)))))))))))))))) else (sp_X0_skim_2 n (y1 + 1) σ2)))
def sp_X0_skim  (σ : St) : Option (St) := sp_X0_skim_2 200 (0 : Int32) σ
set_option maxHeartbeats 4000000 in
set_option maxRecDepth 100000 in
theorem ct_X0_skim {l : Launch} (hl : l.stackTraces = false) {γ : Gd} {h : Nat → Nat} {σ : St} {r : va_W}  {σ0 : St} (hR : some σ0 = sp_X0_skim σ) : Ct l γ yX0_skim (Cond.code yX0_skim cX0_skim 5 none) ({ frames := 2, cells := 0, slots := 0, locals := 39 } : Room) [.ref (h 0)] (wB γ h σ ++ (r)) (Pr none (wB γ h σ0 ++ (r))) 0 0 := by
  refine Ct_of hl (by decide +kernel) rfl (Nat.le_of_ble_eq_true rfl) (L := [some (.ref (h 0)), none, none, none, none]) rfl ?_
  intro X Q K hQ
  generalize ((wB γ h σ ++ (r), Q) : MX) = M at K hQ ⊢
  unfold sp_X0_skim at hR
  have b2 : ∀  (n : Nat) (y1 : Int32) (σ2 : St), some σ0 = sp_X0_skim_2  n y1 σ2 → V l γ X M (wB γ h σ2 ++ (r)) [some (.ref (h 0)), some (.int y1), none, none, none] 0 0 2 [] := by
    intro  n
    induction n with
    | zero => intro y1 σ2 hR; exact nn_ hR
    | succ n ih2 =>
      intro y1 σ2 hR
      rw [sp_X0_skim_2] at hR
      refine r_iload_n 2 1 K (dk_of tX0_skim 2 rfl) rfl rfl ?_
      refine r_aload_n 3 0 K (dk_of tX0_skim 3 rfl) rfl rfl ?_
      refine r_getf (C := RX0) (T := TX0) (N := 9) 4 0 2 K (dk_of tX0_skim 4 rfl) w208 gwX0 rfl rfl (by decide) rfl ?_
      refine r_getf (C := RX4) (T := TX4) (N := 9) 7 14 0 K (dk_of tX0_skim 5 rfl) w124 gwX4 rfl rfl (by decide) rfl ?_
      refine r_ic_ge 10 123 K (dk_of tX0_skim 6 rfl) (by decide) hR (fun hR => ?_) (fun hR => ?_)
      · exact r_vret 123 K hQ (dk_of tX0_skim 72 rfl) (Nat.zero_le _) (Nat.zero_le _) (lfv (fun u9 : St => wB γ h u9 ++ (r)) hR)
      · refine r_aload_n 13 0 K (dk_of tX0_skim 7 rfl) rfl rfl ?_
        refine r_getf (C := RX0) (T := TX0) (N := 9) 14 0 2 K (dk_of tX0_skim 8 rfl) w208 gwX0 rfl rfl (by decide) rfl ?_
        refine r_getf (C := RX4) (T := TX4) (N := 9) 17 14 1 K (dk_of tX0_skim 9 rfl) w127 gwX4 rfl rfl (by decide) rfl ?_
        refine r_iload_n 20 1 K (dk_of tX0_skim 10 rfl) rfl rfl ?_
        refine r_ialdR 21 15 K (dk_of tX0_skim 11 rfl) rfl hR (fun hR => ?_)
        refine r_iconst 22 (1 : Int32) K (dk_of tX0_skim 12 rfl) (by decide) ?_
        refine r_ic_ne 23 117 K (dk_of tX0_skim 13 rfl) (by decide) hR (fun hR => ?_) (fun hR => ?_)
        · refine r_aload_n 26 0 K (dk_of tX0_skim 14 rfl) rfl rfl ?_
          refine r_getf (C := RX0) (T := TX0) (N := 9) 27 0 2 K (dk_of tX0_skim 15 rfl) w208 gwX0 rfl rfl (by decide) rfl ?_
          refine r_getf (C := RX4) (T := TX4) (N := 9) 30 14 2 K (dk_of tX0_skim 16 rfl) w130 gwX4 rfl rfl (by decide) rfl ?_
          refine r_iload_n 33 1 K (dk_of tX0_skim 17 rfl) rfl rfl ?_
          refine r_ialdR 34 16 K (dk_of tX0_skim 18 rfl) rfl hR (fun hR => ?_)
          refine r_nmI hR (fun x3 hR => ?_)
          refine r_istore_n 35 2 [some (.ref (h 0)), some (.int y1), some (.int x3), none, none] K (dk_of tX0_skim 19 rfl) rfl rfl rfl (by decide) ?_
          refine r_aload_n 36 0 K (dk_of tX0_skim 20 rfl) rfl rfl ?_
          refine r_getf (C := RX0) (T := TX0) (N := 9) 37 0 2 K (dk_of tX0_skim 21 rfl) w208 gwX0 rfl rfl (by decide) rfl ?_
          refine r_iload_n 40 1 K (dk_of tX0_skim 22 rfl) rfl rfl ?_
          refine r_aload_n 41 0 K (dk_of tX0_skim 23 rfl) rfl rfl ?_
          refine r_getf (C := RX0) (T := TX0) (N := 9) 42 0 0 K (dk_of tX0_skim 24 rfl) w201 gwX0 rfl rfl (by decide) rfl ?_
          refine r_getf (C := RX2) (T := TX2) (N := 8) 45 1 2 K (dk_of tX0_skim 25 rfl) w53 gwX2 rfl rfl (by decide) rfl ?_
          refine r_iload_n 48 2 K (dk_of tX0_skim 26 rfl) rfl rfl ?_
          refine r_ialdR 49 4 K (dk_of tX0_skim 27 rfl) rfl hR (fun hR => ?_)
          obtain ⟨x4, hc, hR⟩ := o1 hR
          refine r_cVi 50 14 [.int y1, .int (σ2 4 x3.toNatClampNeg)] [] x4 (wB γ h σ2 ++ (r)) K (ct_X4_freshTaken hl hc.symm) cs_X0_172 ⟨rfl, rfl, rfl⟩ (dk_of tX0_skim 28 rfl) rfl rfl rfl rfl rfl rfl ?_
          refine r_istore_n 53 3 [some (.ref (h 0)), some (.int y1), some (.int x3), some (.int x4), none] K (dk_of tX0_skim 29 rfl) rfl rfl rfl (by decide) ?_
          refine r_aload_n 54 0 K (dk_of tX0_skim 30 rfl) rfl rfl ?_
          refine r_getf (C := RX0) (T := TX0) (N := 9) 55 0 2 K (dk_of tX0_skim 31 rfl) w208 gwX0 rfl rfl (by decide) rfl ?_
          refine r_iload_n 58 1 K (dk_of tX0_skim 32 rfl) rfl rfl ?_
          refine r_iload_n 59 3 K (dk_of tX0_skim 33 rfl) rfl rfl ?_
          refine r_aload_n 60 0 K (dk_of tX0_skim 34 rfl) rfl rfl ?_
          refine r_getf (C := RX0) (T := TX0) (N := 9) 61 0 0 K (dk_of tX0_skim 35 rfl) w201 gwX0 rfl rfl (by decide) rfl ?_
          refine r_getf (C := RX2) (T := TX2) (N := 8) 64 1 3 K (dk_of tX0_skim 36 rfl) w58 gwX2 rfl rfl (by decide) rfl ?_
          refine r_iload_n 67 2 K (dk_of tX0_skim 37 rfl) rfl rfl ?_
          refine r_ialdR 68 5 K (dk_of tX0_skim 38 rfl) rfl hR (fun hR => ?_)
          obtain ⟨x5, hc, hR⟩ := o1 hR
          refine r_cVi 69 14 [.int y1, .int x4, .int (σ2 5 x3.toNatClampNeg)] [] x5 (wB γ h σ2 ++ (r)) K (ct_X4_thickTaken hl hc.symm) cs_X0_175 ⟨rfl, rfl, rfl⟩ (dk_of tX0_skim 39 rfl) rfl rfl rfl rfl rfl rfl ?_
          refine r_istore 72 4 [some (.ref (h 0)), some (.int y1), some (.int x3), some (.int x4), some (.int x5)] K (dk_of tX0_skim 40 rfl) rfl rfl (by decide) ?_
          refine r_aload_n 74 0 K (dk_of tX0_skim 41 rfl) rfl rfl ?_
          refine r_getf (C := RX0) (T := TX0) (N := 9) 75 0 0 K (dk_of tX0_skim 42 rfl) w201 gwX0 rfl rfl (by decide) rfl ?_
          refine r_getf (C := RX2) (T := TX2) (N := 8) 78 1 2 K (dk_of tX0_skim 43 rfl) w53 gwX2 rfl rfl (by decide) rfl ?_
          refine r_iload_n 81 2 K (dk_of tX0_skim 44 rfl) rfl rfl ?_
          refine r_dup2 82 K (dk_of tX0_skim 45 rfl) rfl rfl ?_
          refine r_ialdR 83 4 K (dk_of tX0_skim 46 rfl) rfl hR (fun hR => ?_)
          refine r_iload_n 84 3 K (dk_of tX0_skim 47 rfl) rfl rfl ?_
          refine r_isub 85 K (dk_of tX0_skim 48 rfl) ?_
          refine r_iastR 86 4 K (dk_of tX0_skim 49 rfl) rfl sB_4 hR (fun hR => ?_)
          refine r_nmS (fun σ6 : St => wB γ h σ6 ++ (r)) hR (fun σ6 hR => ?_)
          refine r_aload_n 87 0 K (dk_of tX0_skim 50 rfl) rfl rfl ?_
          refine r_getf (C := RX0) (T := TX0) (N := 9) 88 0 0 K (dk_of tX0_skim 51 rfl) w201 gwX0 rfl rfl (by decide) rfl ?_
          refine r_getf (C := RX2) (T := TX2) (N := 8) 91 1 3 K (dk_of tX0_skim 52 rfl) w58 gwX2 rfl rfl (by decide) rfl ?_
          refine r_iload_n 94 2 K (dk_of tX0_skim 53 rfl) rfl rfl ?_
          refine r_dup2 95 K (dk_of tX0_skim 54 rfl) rfl rfl ?_
          refine r_ialdR 96 5 K (dk_of tX0_skim 55 rfl) rfl hR (fun hR => ?_)
          refine r_iload 97 4 K (dk_of tX0_skim 56 rfl) rfl ?_
          refine r_isub 99 K (dk_of tX0_skim 57 rfl) ?_
          refine r_iastR 100 5 K (dk_of tX0_skim 58 rfl) rfl sB_5 hR (fun hR => ?_)
          refine r_nmS (fun σ7 : St => wB γ h σ7 ++ (r)) hR (fun σ7 hR => ?_)
          refine r_aload_n 101 0 K (dk_of tX0_skim 59 rfl) rfl rfl ?_
          refine r_getf (C := RX0) (T := TX0) (N := 9) 102 0 2 K (dk_of tX0_skim 60 rfl) w208 gwX0 rfl rfl (by decide) rfl ?_
          refine r_getf (C := RX4) (T := TX4) (N := 9) 105 14 6 K (dk_of tX0_skim 61 rfl) w141 gwX4 rfl rfl (by decide) rfl ?_
          refine r_iload_n 108 1 K (dk_of tX0_skim 62 rfl) rfl rfl ?_
          refine r_dup2 109 K (dk_of tX0_skim 63 rfl) rfl rfl ?_
          refine r_ialdR 110 20 K (dk_of tX0_skim 64 rfl) rfl hR (fun hR => ?_)
          refine r_iload_n 111 3 K (dk_of tX0_skim 65 rfl) rfl rfl ?_
          refine r_iload 112 4 K (dk_of tX0_skim 66 rfl) rfl ?_
          refine r_iadd 114 K (dk_of tX0_skim 67 rfl) ?_
          refine r_iadd 115 K (dk_of tX0_skim 68 rfl) ?_
          refine r_iastR 116 20 K (dk_of tX0_skim 69 rfl) rfl sB_20 hR (fun hR => ?_)
          refine r_nmS (fun σ8 : St => wB γ h σ8 ++ (r)) hR (fun σ8 hR => ?_)
          refine r_iinc 117 1 (y1 + 1) [some (.ref (h 0)), some (.int (y1 + 1)), some (.int x3), some (.int x4), some (.int x5)] K (dk_of tX0_skim 70 rfl) rfl rfl rfl rfl (by decide) ?_
          refine r_goto 120 2 K (dk_of tX0_skim 71 rfl) (by decide) ?_
          exact r_msk [true, true, false, false, false] [some (.ref (h 0)), some (.int (y1 + 1)), none, none, none] rfl (ih2 (y1 + 1) σ8 hR)
        · refine r_iinc 117 1 (y1 + 1) [some (.ref (h 0)), some (.int (y1 + 1)), none, none, none] K (dk_of tX0_skim 70 rfl) rfl rfl rfl rfl (by decide) ?_
          refine r_goto 120 2 K (dk_of tX0_skim 71 rfl) (by decide) ?_
          exact ih2 (y1 + 1) σ2 hR
  refine r_iconst 0 (0 : Int32) K (dk_of tX0_skim 0 rfl) (by decide) ?_
  refine r_istore_n 1 1 [some (.ref (h 0)), some (.int (0 : Int32)), none, none, none] K (dk_of tX0_skim 1 rfl) rfl rfl rfl (by decide) ?_
  exact b2 200 (0 : Int32) σ hR

def sp_X0_harmShores_2  : Nat → Int32 → St → Option (St)
  | 0, _, _ => none
  | n + 1, y1, σ2 => if (24 : Int32) ≤ y1 then (some σ2) else (b1 (sp_X2_oilBirds y1 σ2) (fun (σ3 : St) => b1 (sp_X2_isTooDirty y1 σ3) (fun (x4 : Int32) => if x4 = 0 then (sp_X0_harmShores_2 n (y1 + 1) σ3) else (if y1 < 0 ∨ 24 ≤ y1.toNatClampNeg then none else (sl (stU σ3 9 y1.toNatClampNeg (0 : Int32)) (fun σ5 : St => sp_X0_harmShores_2 n (y1 + 1) σ5))))))
def sp_X0_harmShores  (σ : St) : Option (St) := sp_X0_harmShores_2 200 (0 : Int32) σ
set_option maxHeartbeats 4000000 in
set_option maxRecDepth 100000 in
theorem ct_X0_harmShores {l : Launch} (hl : l.stackTraces = false) {γ : Gd} {h : Nat → Nat} {σ : St} {r : va_W}  {σ0 : St} (hR : some σ0 = sp_X0_harmShores σ) : Ct l γ yX0_harmShores (Cond.code yX0_harmShores cX0_harmShores 2 none) ({ frames := 2, cells := 0, slots := 0, locals := 37 } : Room) [.ref (h 0)] (wB γ h σ ++ (r)) (Pr none (wB γ h σ0 ++ (r))) 0 0 := by
  refine Ct_of hl (by decide +kernel) rfl (Nat.le_of_ble_eq_true rfl) (L := [some (.ref (h 0)), none]) rfl ?_
  intro X Q K hQ
  generalize ((wB γ h σ ++ (r), Q) : MX) = M at K hQ ⊢
  unfold sp_X0_harmShores at hR
  have b2 : ∀  (n : Nat) (y1 : Int32) (σ2 : St), some σ0 = sp_X0_harmShores_2  n y1 σ2 → V l γ X M (wB γ h σ2 ++ (r)) [some (.ref (h 0)), some (.int y1)] 0 0 2 [] := by
    intro  n
    induction n with
    | zero => intro y1 σ2 hR; exact nn_ hR
    | succ n ih2 =>
      intro y1 σ2 hR
      rw [sp_X0_harmShores_2] at hR
      refine r_iload_n 2 1 K (dk_of tX0_harmShores 2 rfl) rfl rfl ?_
      refine r_bipush 3 (24 : Int32) K (dk_of tX0_harmShores 3 rfl) (by decide) ?_
      refine r_ic_ge 5 43 K (dk_of tX0_harmShores 4 rfl) (by decide) hR (fun hR => ?_) (fun hR => ?_)
      · exact r_vret 43 K hQ (dk_of tX0_harmShores 22 rfl) (Nat.zero_le _) (Nat.zero_le _) (lfv (fun u9 : St => wB γ h u9 ++ (r)) hR)
      · refine r_aload_n 8 0 K (dk_of tX0_harmShores 5 rfl) rfl rfl ?_
        refine r_getf (C := RX0) (T := TX0) (N := 9) 9 0 0 K (dk_of tX0_harmShores 6 rfl) w201 gwX0 rfl rfl (by decide) rfl ?_
        refine r_iload_n 12 1 K (dk_of tX0_harmShores 7 rfl) rfl rfl ?_
        obtain ⟨σ3, hc, hR⟩ := o1 hR
        refine r_cVv 13 1 [.int y1] [] (wB γ h σ3 ++ (r)) K (ct_X2_oilBirds hl hc.symm) cs_X0_179 ⟨rfl, rfl, rfl⟩ (dk_of tX0_harmShores 8 rfl) rfl rfl rfl rfl rfl rfl ?_
        refine r_aload_n 16 0 K (dk_of tX0_harmShores 9 rfl) rfl rfl ?_
        refine r_getf (C := RX0) (T := TX0) (N := 9) 17 0 0 K (dk_of tX0_harmShores 10 rfl) w201 gwX0 rfl rfl (by decide) rfl ?_
        refine r_iload_n 20 1 K (dk_of tX0_harmShores 11 rfl) rfl rfl ?_
        obtain ⟨x4, hc, hR⟩ := o1 hR
        refine r_cVi 21 1 [.int y1] [] x4 (wB γ h σ3 ++ (r)) K (ct_X2_isTooDirty hl hc.symm) cs_X0_182 ⟨rfl, rfl, rfl⟩ (dk_of tX0_harmShores 12 rfl) rfl rfl rfl rfl rfl rfl ?_
        refine r_if_eq 24 37 K (dk_of tX0_harmShores 13 rfl) (by decide) hR (fun hR => ?_) (fun hR => ?_)
        · refine r_iinc 37 1 (y1 + 1) [some (.ref (h 0)), some (.int (y1 + 1))] K (dk_of tX0_harmShores 20 rfl) rfl rfl rfl rfl (by decide) ?_
          refine r_goto 40 2 K (dk_of tX0_harmShores 21 rfl) (by decide) ?_
          exact ih2 (y1 + 1) σ3 hR
        · refine r_aload_n 27 0 K (dk_of tX0_harmShores 14 rfl) rfl rfl ?_
          refine r_getf (C := RX0) (T := TX0) (N := 9) 28 0 0 K (dk_of tX0_harmShores 15 rfl) w201 gwX0 rfl rfl (by decide) rfl ?_
          refine r_getf (C := RX2) (T := TX2) (N := 8) 31 1 7 K (dk_of tX0_harmShores 16 rfl) w70 gwX2 rfl rfl (by decide) rfl ?_
          refine r_iload_n 34 1 K (dk_of tX0_harmShores 17 rfl) rfl rfl ?_
          refine r_iconst 35 (0 : Int32) K (dk_of tX0_harmShores 18 rfl) (by decide) ?_
          refine r_iastR 36 9 K (dk_of tX0_harmShores 19 rfl) rfl sB_9 hR (fun hR => ?_)
          refine r_nmS (fun σ5 : St => wB γ h σ5 ++ (r)) hR (fun σ5 hR => ?_)
          refine r_iinc 37 1 (y1 + 1) [some (.ref (h 0)), some (.int (y1 + 1))] K (dk_of tX0_harmShores 20 rfl) rfl rfl rfl rfl (by decide) ?_
          refine r_goto 40 2 K (dk_of tX0_harmShores 21 rfl) (by decide) ?_
          exact ih2 (y1 + 1) σ5 hR
  refine r_iconst 0 (0 : Int32) K (dk_of tX0_harmShores 0 rfl) (by decide) ?_
  refine r_istore_n 1 1 [some (.ref (h 0)), some (.int (0 : Int32))] K (dk_of tX0_harmShores 1 rfl) rfl rfl rfl (by decide) ?_
  exact b2 200 (0 : Int32) σ hR

def sp_X0_letPass_2 (y1 : Int32) : Nat → Int32 → St → Option (St)
  | 0, _, _ => none
  | n + 1, y2, σ3 => if y1 ≤ y2 then (some σ3) else (sl (stU σ3 0 4 ((σ3 0 4) + (1 : Int32))) (fun σ4 : St => b1 (sp_X0_leak σ4) (fun (σ5 : St) => b1 (sp_X0_weather σ5) (fun (σ6 : St) => b1 (sp_X0_drift σ6) (fun (σ7 : St) => b1 (sp_X0_tideOf (σ7 0 4)) (fun (x8 : Int32) => if x8 = (6 : Int32) then (b1 (sp_X0_giveBack σ7) (fun (σ9 : St) => b1 (sp_X0_skim σ9) (fun (σ10 : St) => b1 (sp_X0_harmShores σ10) (fun (σ11 : St) => sp_X0_letPass_2 y1 n (y2 + 1) σ11)))) else (b1 (sp_X0_skim σ7) (fun (σ12 : St) => b1 (sp_X0_harmShores σ12) (fun (σ13 : St) => sp_X0_letPass_2 y1 n (y2 + 1) σ13)))))))))
def sp_X0_letPass (p1 : Int32) (σ : St) : Option (St) := sp_X0_letPass_2 p1 200 (0 : Int32) σ
set_option maxHeartbeats 4000000 in
set_option maxRecDepth 100000 in
theorem ct_X0_letPass {l : Launch} (hl : l.stackTraces = false) {γ : Gd} {h : Nat → Nat} {σ : St} {r : va_W} {p1 : Int32} {σ0 : St} (hR : some σ0 = sp_X0_letPass p1 σ) : Ct l γ yX0_letPass (Cond.code yX0_letPass cX0_letPass 3 none) ({ frames := 4, cells := 0, slots := 0, locals := 94 } : Room) [.ref (h 0), .int p1] (wB γ h σ ++ (r)) (Pr none (wB γ h σ0 ++ (r))) 0 0 := by
  refine Ct_of hl (by decide +kernel) rfl (Nat.le_of_ble_eq_true rfl) (L := [some (.ref (h 0)), some (.int p1), none]) rfl ?_
  intro X Q K hQ
  generalize ((wB γ h σ ++ (r), Q) : MX) = M at K hQ ⊢
  unfold sp_X0_letPass at hR
  have b2 : ∀ (y1 : Int32) (n : Nat) (y2 : Int32) (σ3 : St), some σ0 = sp_X0_letPass_2 y1 n y2 σ3 → V l γ X M (wB γ h σ3 ++ (r)) [some (.ref (h 0)), some (.int y1), some (.int y2)] 0 0 2 [] := by
    intro y1 n
    induction n with
    | zero => intro y2 σ3 hR; exact nn_ hR
    | succ n ih2 =>
      intro y2 σ3 hR
      rw [sp_X0_letPass_2] at hR
      refine r_iload_n 2 2 K (dk_of tX0_letPass 2 rfl) rfl rfl ?_
      refine r_iload_n 3 1 K (dk_of tX0_letPass 3 rfl) rfl rfl ?_
      refine r_ic_ge 4 59 K (dk_of tX0_letPass 4 rfl) (by decide) hR (fun hR => ?_) (fun hR => ?_)
      · exact r_vret 59 K hQ (dk_of tX0_letPass 30 rfl) (Nat.zero_le _) (Nat.zero_le _) (lfv (fun u9 : St => wB γ h u9 ++ (r)) hR)
      · refine r_aload_n 7 0 K (dk_of tX0_letPass 5 rfl) rfl rfl ?_
        refine r_dup 8 K (dk_of tX0_letPass 6 rfl) rfl ?_
        refine r_getf (C := RX0) (T := TX0) (N := 9) 9 0 4 K (dk_of tX0_letPass 7 rfl) w214 gwX0 rfl rfl (by decide) rfl ?_
        refine r_iconst 12 (1 : Int32) K (dk_of tX0_letPass 8 rfl) (by decide) ?_
        refine r_iadd 13 K (dk_of tX0_letPass 9 rfl) ?_
        refine r_putf (C := RX0) (T := TX0) (N := 9) 14 0 4 K (dk_of tX0_letPass 10 rfl) w214 gwX0 tyX0_ok nmX0 rfl rfl (by decide) rfl rfl rfl rfl (Nat.le_of_ble_eq_true rfl) sB_0_4 ?_
        refine r_nmS (fun σ4 : St => wB γ h σ4 ++ (r)) hR (fun σ4 hR => ?_)
        refine r_aload_n 17 0 K (dk_of tX0_letPass 11 rfl) rfl rfl ?_
        obtain ⟨σ5, hc, hR⟩ := o1 hR
        refine r_cVv 18 0 [] [] (wB γ h σ5 ++ (r)) K (ct_X0_leak hl hc.symm) cs_X0_66 ⟨rfl, rfl, rfl⟩ (dk_of tX0_letPass 12 rfl) rfl rfl rfl rfl rfl rfl ?_
        refine r_aload_n 21 0 K (dk_of tX0_letPass 13 rfl) rfl rfl ?_
        obtain ⟨σ6, hc, hR⟩ := o1 hR
        refine r_cVv 22 0 [] [] (wB γ h σ6 ++ (r)) K (ct_X0_weather hl hc.symm) cs_X0_69 ⟨rfl, rfl, rfl⟩ (dk_of tX0_letPass 14 rfl) rfl rfl rfl rfl rfl rfl ?_
        refine r_aload_n 25 0 K (dk_of tX0_letPass 15 rfl) rfl rfl ?_
        obtain ⟨σ7, hc, hR⟩ := o1 hR
        refine r_cVv 26 0 [] [] (wB γ h σ7 ++ (r)) K (ct_X0_drift hl hc.symm) cs_X0_72 ⟨rfl, rfl, rfl⟩ (dk_of tX0_letPass 16 rfl) rfl rfl rfl rfl rfl rfl ?_
        refine r_aload_n 29 0 K (dk_of tX0_letPass 17 rfl) rfl rfl ?_
        refine r_getf (C := RX0) (T := TX0) (N := 9) 30 0 4 K (dk_of tX0_letPass 18 rfl) w214 gwX0 rfl rfl (by decide) rfl ?_
        obtain ⟨x8, hc, hR⟩ := o1 hR
        refine r_cSi 33 [.int (σ7 0 4)] [] x8 (wB γ h σ7 ++ (r)) K (ct_X0_tideOf hl hc.symm) cs_X0_75 ⟨rfl, rfl, rfl⟩ (dk_of tX0_letPass 19 rfl) rfl rfl rfl rfl ?_
        refine r_bipush 36 (6 : Int32) K (dk_of tX0_letPass 20 rfl) (by decide) ?_
        refine r_ic_ne 38 45 K (dk_of tX0_letPass 21 rfl) (by decide) hR (fun hR => ?_) (fun hR => ?_)
        · refine r_aload_n 41 0 K (dk_of tX0_letPass 22 rfl) rfl rfl ?_
          obtain ⟨σ9, hc, hR⟩ := o1 hR
          refine r_cVv 42 0 [] [] (wB γ h σ9 ++ (r)) K (ct_X0_giveBack hl hc.symm) cs_X0_79 ⟨rfl, rfl, rfl⟩ (dk_of tX0_letPass 23 rfl) rfl rfl rfl rfl rfl rfl ?_
          refine r_aload_n 45 0 K (dk_of tX0_letPass 24 rfl) rfl rfl ?_
          obtain ⟨σ10, hc, hR⟩ := o1 hR
          refine r_cVv 46 0 [] [] (wB γ h σ10 ++ (r)) K (ct_X0_skim hl hc.symm) cs_X0_82 ⟨rfl, rfl, rfl⟩ (dk_of tX0_letPass 25 rfl) rfl rfl rfl rfl rfl rfl ?_
          refine r_aload_n 49 0 K (dk_of tX0_letPass 26 rfl) rfl rfl ?_
          obtain ⟨σ11, hc, hR⟩ := o1 hR
          refine r_cVv 50 0 [] [] (wB γ h σ11 ++ (r)) K (ct_X0_harmShores hl hc.symm) cs_X0_85 ⟨rfl, rfl, rfl⟩ (dk_of tX0_letPass 27 rfl) rfl rfl rfl rfl rfl rfl ?_
          refine r_iinc 53 2 (y2 + 1) [some (.ref (h 0)), some (.int y1), some (.int (y2 + 1))] K (dk_of tX0_letPass 28 rfl) rfl rfl rfl rfl (by decide) ?_
          refine r_goto 56 2 K (dk_of tX0_letPass 29 rfl) (by decide) ?_
          exact ih2 (y2 + 1) σ11 hR
        · refine r_aload_n 45 0 K (dk_of tX0_letPass 24 rfl) rfl rfl ?_
          obtain ⟨σ12, hc, hR⟩ := o1 hR
          refine r_cVv 46 0 [] [] (wB γ h σ12 ++ (r)) K (ct_X0_skim hl hc.symm) cs_X0_82 ⟨rfl, rfl, rfl⟩ (dk_of tX0_letPass 25 rfl) rfl rfl rfl rfl rfl rfl ?_
          refine r_aload_n 49 0 K (dk_of tX0_letPass 26 rfl) rfl rfl ?_
          obtain ⟨σ13, hc, hR⟩ := o1 hR
          refine r_cVv 50 0 [] [] (wB γ h σ13 ++ (r)) K (ct_X0_harmShores hl hc.symm) cs_X0_85 ⟨rfl, rfl, rfl⟩ (dk_of tX0_letPass 27 rfl) rfl rfl rfl rfl rfl rfl ?_
          refine r_iinc 53 2 (y2 + 1) [some (.ref (h 0)), some (.int y1), some (.int (y2 + 1))] K (dk_of tX0_letPass 28 rfl) rfl rfl rfl rfl (by decide) ?_
          refine r_goto 56 2 K (dk_of tX0_letPass 29 rfl) (by decide) ?_
          exact ih2 (y2 + 1) σ13 hR
  refine r_iconst 0 (0 : Int32) K (dk_of tX0_letPass 0 rfl) (by decide) ?_
  refine r_istore_n 1 2 [some (.ref (h 0)), some (.int p1), some (.int (0 : Int32))] K (dk_of tX0_letPass 1 rfl) rfl rfl rfl (by decide) ?_
  exact b2 p1 200 (0 : Int32) σ hR

def sp_X0_hasLeakedWithin (p1 : Int32) (σ : St) : Option (Int32) := if (σ 23 1) = (-1 : Int32) then (some (0 : Int32)) else (if p1 < ((σ 0 4) - (σ 23 1)) then (some (0 : Int32)) else (some (1 : Int32)))
set_option maxHeartbeats 4000000 in
set_option maxRecDepth 100000 in
theorem ct_X0_hasLeakedWithin {l : Launch} (hl : l.stackTraces = false) {γ : Gd} {h : Nat → Nat} {σ : St} {r : va_W} {p1 : Int32} {x0 : Int32} (hR : some x0 = sp_X0_hasLeakedWithin p1 σ) : Ct l γ yX0_hasLeakedWithin (Cond.code yX0_hasLeakedWithin cX0_hasLeakedWithin 2 (some .boolean)) ({ frames := 0, cells := 0, slots := 0, locals := 0 } : Room) [.ref (h 0), .int p1] (wB γ h σ ++ (r)) (Pr (some (.int x0)) (wB γ h σ ++ (r))) 0 0 := by
  refine Ct_of hl (by decide +kernel) rfl (Nat.le_of_ble_eq_true rfl) (L := [some (.ref (h 0)), some (.int p1)]) rfl ?_
  intro X Q K hQ
  generalize ((wB γ h σ ++ (r), Q) : MX) = M at K hQ ⊢
  unfold sp_X0_hasLeakedWithin at hR
  refine r_aload_n 0 0 K (dk_of tX0_hasLeakedWithin 0 rfl) rfl rfl ?_
  refine r_getf (C := RX0) (T := TX0) (N := 9) 1 0 3 K (dk_of tX0_hasLeakedWithin 1 rfl) w211 gwX0 rfl rfl (by decide) rfl ?_
  refine r_getf (C := RX1) (T := TX1) (N := 7) 4 23 1 K (dk_of tX0_hasLeakedWithin 2 rfl) w175 gwX1 rfl rfl (by decide) rfl ?_
  refine r_iconst 7 (-1) K (dk_of tX0_hasLeakedWithin 3 rfl) (by decide) ?_
  refine r_ic_eq 8 31 K (dk_of tX0_hasLeakedWithin 4 rfl) (by decide) hR (fun hR => ?_) (fun hR => ?_)
  · refine r_iconst 31 (0 : Int32) K (dk_of tX0_hasLeakedWithin 15 rfl) (by decide) ?_
    exact r_zret 32 K hQ (dk_of tX0_hasLeakedWithin 16 rfl) zb0 (Nat.zero_le _) (Nat.zero_le _) (lfi0 hR)
  · refine r_aload_n 11 0 K (dk_of tX0_hasLeakedWithin 5 rfl) rfl rfl ?_
    refine r_getf (C := RX0) (T := TX0) (N := 9) 12 0 4 K (dk_of tX0_hasLeakedWithin 6 rfl) w214 gwX0 rfl rfl (by decide) rfl ?_
    refine r_aload_n 15 0 K (dk_of tX0_hasLeakedWithin 7 rfl) rfl rfl ?_
    refine r_getf (C := RX0) (T := TX0) (N := 9) 16 0 3 K (dk_of tX0_hasLeakedWithin 8 rfl) w211 gwX0 rfl rfl (by decide) rfl ?_
    refine r_getf (C := RX1) (T := TX1) (N := 7) 19 23 1 K (dk_of tX0_hasLeakedWithin 9 rfl) w175 gwX1 rfl rfl (by decide) rfl ?_
    refine r_isub 22 K (dk_of tX0_hasLeakedWithin 10 rfl) ?_
    refine r_iload_n 23 1 K (dk_of tX0_hasLeakedWithin 11 rfl) rfl rfl ?_
    refine r_ic_gt 24 31 K (dk_of tX0_hasLeakedWithin 12 rfl) (by decide) hR (fun hR => ?_) (fun hR => ?_)
    · refine r_iconst 31 (0 : Int32) K (dk_of tX0_hasLeakedWithin 15 rfl) (by decide) ?_
      exact r_zret 32 K hQ (dk_of tX0_hasLeakedWithin 16 rfl) zb0 (Nat.zero_le _) (Nat.zero_le _) (lfi0 hR)
    · refine r_iconst 27 (1 : Int32) K (dk_of tX0_hasLeakedWithin 13 rfl) (by decide) ?_
      refine r_goto 28 32 K (dk_of tX0_hasLeakedWithin 14 rfl) (by decide) ?_
      exact r_zret 32 K hQ (dk_of tX0_hasLeakedWithin 16 rfl) zb1 (Nat.zero_le _) (Nat.zero_le _) (lfi0 hR)

def sp_X0_disperse (p1 : Int32) (σ : St) : Option (Int32 × St) := if p1 < 0 ∨ 24 ≤ p1.toNatClampNeg then none else (sl ((σ 4 p1.toNatClampNeg)) (fun x1 : Int32 => if p1 < 0 ∨ 24 ≤ p1.toNatClampNeg then none else (sl (stU σ 4 p1.toNatClampNeg (0 : Int32)) (fun σ2 : St => sl (stU σ2 23 5 ((σ2 23 5) + x1)) (fun σ3 : St => some (x1, σ3))))))
set_option maxHeartbeats 4000000 in
set_option maxRecDepth 100000 in
theorem ct_X0_disperse {l : Launch} (hl : l.stackTraces = false) {γ : Gd} {h : Nat → Nat} {σ : St} {r : va_W} {p1 : Int32} {x0 : Int32} {σ0 : St} (hR : some (x0, σ0) = sp_X0_disperse p1 σ) : Ct l γ yX0_disperse (Cond.code yX0_disperse cX0_disperse 3 (some .int)) ({ frames := 0, cells := 0, slots := 0, locals := 0 } : Room) [.ref (h 0), .int p1] (wB γ h σ ++ (r)) (Pr (some (.int x0)) (wB γ h σ0 ++ (r))) 0 0 := by
  refine Ct_of hl (by decide +kernel) rfl (Nat.le_of_ble_eq_true rfl) (L := [some (.ref (h 0)), some (.int p1), none]) rfl ?_
  intro X Q K hQ
  generalize ((wB γ h σ ++ (r), Q) : MX) = M at K hQ ⊢
  unfold sp_X0_disperse at hR
  refine r_aload_n 0 0 K (dk_of tX0_disperse 0 rfl) rfl rfl ?_
  refine r_getf (C := RX0) (T := TX0) (N := 9) 1 0 0 K (dk_of tX0_disperse 1 rfl) w201 gwX0 rfl rfl (by decide) rfl ?_
  refine r_getf (C := RX2) (T := TX2) (N := 8) 4 1 2 K (dk_of tX0_disperse 2 rfl) w53 gwX2 rfl rfl (by decide) rfl ?_
  refine r_iload_n 7 1 K (dk_of tX0_disperse 3 rfl) rfl rfl ?_
  refine r_ialdR 8 4 K (dk_of tX0_disperse 4 rfl) rfl hR (fun hR => ?_)
  refine r_nmI hR (fun x1 hR => ?_)
  refine r_istore_n 9 2 [some (.ref (h 0)), some (.int p1), some (.int x1)] K (dk_of tX0_disperse 5 rfl) rfl rfl rfl (by decide) ?_
  refine r_aload_n 10 0 K (dk_of tX0_disperse 6 rfl) rfl rfl ?_
  refine r_getf (C := RX0) (T := TX0) (N := 9) 11 0 0 K (dk_of tX0_disperse 7 rfl) w201 gwX0 rfl rfl (by decide) rfl ?_
  refine r_getf (C := RX2) (T := TX2) (N := 8) 14 1 2 K (dk_of tX0_disperse 8 rfl) w53 gwX2 rfl rfl (by decide) rfl ?_
  refine r_iload_n 17 1 K (dk_of tX0_disperse 9 rfl) rfl rfl ?_
  refine r_iconst 18 (0 : Int32) K (dk_of tX0_disperse 10 rfl) (by decide) ?_
  refine r_iastR 19 4 K (dk_of tX0_disperse 11 rfl) rfl sB_4 hR (fun hR => ?_)
  refine r_nmS (fun σ2 : St => wB γ h σ2 ++ (r)) hR (fun σ2 hR => ?_)
  refine r_aload_n 20 0 K (dk_of tX0_disperse 12 rfl) rfl rfl ?_
  refine r_getf (C := RX0) (T := TX0) (N := 9) 21 0 3 K (dk_of tX0_disperse 13 rfl) w211 gwX0 rfl rfl (by decide) rfl ?_
  refine r_dup 24 K (dk_of tX0_disperse 14 rfl) rfl ?_
  refine r_getf (C := RX1) (T := TX1) (N := 7) 25 23 5 K (dk_of tX0_disperse 15 rfl) w182 gwX1 rfl rfl (by decide) rfl ?_
  refine r_iload_n 28 2 K (dk_of tX0_disperse 16 rfl) rfl rfl ?_
  refine r_iadd 29 K (dk_of tX0_disperse 17 rfl) ?_
  refine r_putf (C := RX1) (T := TX1) (N := 7) 30 23 5 K (dk_of tX0_disperse 18 rfl) w182 gwX1 tyX1_ok nmX1 rfl rfl (by decide) rfl rfl rfl rfl (Nat.le_of_ble_eq_true rfl) sB_23_5 ?_
  refine r_nmS (fun σ3 : St => wB γ h σ3 ++ (r)) hR (fun σ3 hR => ?_)
  refine r_iload_n 33 2 K (dk_of tX0_disperse 19 rfl) rfl rfl ?_
  exact r_iret 34 K hQ (dk_of tX0_disperse 20 rfl) (Nat.zero_le _) (Nat.zero_le _) (lfi (fun u9 : St => wB γ h u9 ++ (r)) hR)

def sp_X0_burn (p1 : Int32) (σ : St) : Option (Int32 × St) := if p1 < 0 ∨ 24 ≤ p1.toNatClampNeg then none else (sl ((((σ 4 p1.toNatClampNeg) * (9 : Int32)) / (10 : Int32))) (fun x1 : Int32 => if p1 < 0 ∨ 24 ≤ p1.toNatClampNeg then none else (if p1 < 0 ∨ 24 ≤ p1.toNatClampNeg then none else (sl (stU σ 4 p1.toNatClampNeg ((σ 4 p1.toNatClampNeg) - x1)) (fun σ2 : St => sl (stU σ2 23 6 ((σ2 23 6) + x1)) (fun σ3 : St => some (x1, σ3)))))))
set_option maxHeartbeats 4000000 in
set_option maxRecDepth 100000 in
theorem ct_X0_burn {l : Launch} (hl : l.stackTraces = false) {γ : Gd} {h : Nat → Nat} {σ : St} {r : va_W} {p1 : Int32} {x0 : Int32} {σ0 : St} (hR : some (x0, σ0) = sp_X0_burn p1 σ) : Ct l γ yX0_burn (Cond.code yX0_burn cX0_burn 3 (some .int)) ({ frames := 0, cells := 0, slots := 0, locals := 0 } : Room) [.ref (h 0), .int p1] (wB γ h σ ++ (r)) (Pr (some (.int x0)) (wB γ h σ0 ++ (r))) 0 0 := by
  refine Ct_of hl (by decide +kernel) rfl (Nat.le_of_ble_eq_true rfl) (L := [some (.ref (h 0)), some (.int p1), none]) rfl ?_
  intro X Q K hQ
  generalize ((wB γ h σ ++ (r), Q) : MX) = M at K hQ ⊢
  unfold sp_X0_burn at hR
  refine r_aload_n 0 0 K (dk_of tX0_burn 0 rfl) rfl rfl ?_
  refine r_getf (C := RX0) (T := TX0) (N := 9) 1 0 0 K (dk_of tX0_burn 1 rfl) w201 gwX0 rfl rfl (by decide) rfl ?_
  refine r_getf (C := RX2) (T := TX2) (N := 8) 4 1 2 K (dk_of tX0_burn 2 rfl) w53 gwX2 rfl rfl (by decide) rfl ?_
  refine r_iload_n 7 1 K (dk_of tX0_burn 3 rfl) rfl rfl ?_
  refine r_ialdR 8 4 K (dk_of tX0_burn 4 rfl) rfl hR (fun hR => ?_)
  refine r_bipush 9 (9 : Int32) K (dk_of tX0_burn 5 rfl) (by decide) ?_
  refine r_imul 11 K (dk_of tX0_burn 6 rfl) ?_
  refine r_bipush 12 (10 : Int32) K (dk_of tX0_burn 7 rfl) (by decide) ?_
  refine r_idiv 14 K (dk_of tX0_burn 8 rfl) (by decide) ?_
  refine r_nmI hR (fun x1 hR => ?_)
  refine r_istore_n 15 2 [some (.ref (h 0)), some (.int p1), some (.int x1)] K (dk_of tX0_burn 9 rfl) rfl rfl rfl (by decide) ?_
  refine r_aload_n 16 0 K (dk_of tX0_burn 10 rfl) rfl rfl ?_
  refine r_getf (C := RX0) (T := TX0) (N := 9) 17 0 0 K (dk_of tX0_burn 11 rfl) w201 gwX0 rfl rfl (by decide) rfl ?_
  refine r_getf (C := RX2) (T := TX2) (N := 8) 20 1 2 K (dk_of tX0_burn 12 rfl) w53 gwX2 rfl rfl (by decide) rfl ?_
  refine r_iload_n 23 1 K (dk_of tX0_burn 13 rfl) rfl rfl ?_
  refine r_dup2 24 K (dk_of tX0_burn 14 rfl) rfl rfl ?_
  refine r_ialdR 25 4 K (dk_of tX0_burn 15 rfl) rfl hR (fun hR => ?_)
  refine r_iload_n 26 2 K (dk_of tX0_burn 16 rfl) rfl rfl ?_
  refine r_isub 27 K (dk_of tX0_burn 17 rfl) ?_
  refine r_iastR 28 4 K (dk_of tX0_burn 18 rfl) rfl sB_4 hR (fun hR => ?_)
  refine r_nmS (fun σ2 : St => wB γ h σ2 ++ (r)) hR (fun σ2 hR => ?_)
  refine r_aload_n 29 0 K (dk_of tX0_burn 19 rfl) rfl rfl ?_
  refine r_getf (C := RX0) (T := TX0) (N := 9) 30 0 3 K (dk_of tX0_burn 20 rfl) w211 gwX0 rfl rfl (by decide) rfl ?_
  refine r_dup 33 K (dk_of tX0_burn 21 rfl) rfl ?_
  refine r_getf (C := RX1) (T := TX1) (N := 7) 34 23 6 K (dk_of tX0_burn 22 rfl) w184 gwX1 rfl rfl (by decide) rfl ?_
  refine r_iload_n 37 2 K (dk_of tX0_burn 23 rfl) rfl rfl ?_
  refine r_iadd 38 K (dk_of tX0_burn 24 rfl) ?_
  refine r_putf (C := RX1) (T := TX1) (N := 7) 39 23 6 K (dk_of tX0_burn 25 rfl) w184 gwX1 tyX1_ok nmX1 rfl rfl (by decide) rfl rfl rfl rfl (Nat.le_of_ble_eq_true rfl) sB_23_6 ?_
  refine r_nmS (fun σ3 : St => wB γ h σ3 ++ (r)) hR (fun σ3 hR => ?_)
  refine r_iload_n 42 2 K (dk_of tX0_burn 26 rfl) rfl rfl ?_
  exact r_iret 43 K hQ (dk_of tX0_burn 27 rfl) (Nat.zero_le _) (Nat.zero_le _) (lfi (fun u9 : St => wB γ h u9 ++ (r)) hR)

def sp_X0_becomeLike  (σ : St) (τ : St) : Option (St) := b1 (sp_X2_becomeLike σ τ) (fun (σ1 : St) => b1 (sp_X8_becomeLike σ1 τ) (fun (σ2 : St) => b1 (sp_X4_becomeLike σ2 τ) (fun (σ3 : St) => sl (stU σ3 0 4 (τ 0 4)) (fun σ4 : St => sl (stU σ4 0 5 (τ 0 5)) (fun σ5 : St => sl (stU σ5 0 6 (τ 0 6)) (fun σ6 : St => some σ6))))))
set_option maxHeartbeats 4000000 in
set_option maxRecDepth 100000 in
theorem ct_X0_becomeLike {l : Launch} (hl : l.stackTraces = false) {γ : Gd} {h : Nat → Nat} {g : Nat → Nat} {σ : St} {τ : St} {r : va_W}  {σ0 : St} (hR : some σ0 = sp_X0_becomeLike σ τ) : Ct l γ yX0_becomeLike (Cond.code yX0_becomeLike cX0_becomeLike 2 none) ({ frames := 2, cells := 0, slots := 0, locals := 61 } : Room) [.ref (h 0), .ref (g 0)] (wB γ h σ ++ (wB γ g τ ++ (r))) (Pr none (wB γ h σ0 ++ (wB γ g τ ++ (r)))) 0 0 := by
  refine Ct_of hl (by decide +kernel) rfl (Nat.le_of_ble_eq_true rfl) (L := [some (.ref (h 0)), some (.ref (g 0))]) rfl ?_
  intro X Q K hQ
  generalize ((wB γ h σ ++ (wB γ g τ ++ (r)), Q) : MX) = M at K hQ ⊢
  unfold sp_X0_becomeLike at hR
  refine r_aload_n 0 0 K (dk_of tX0_becomeLike 0 rfl) rfl rfl ?_
  refine r_getf (C := RX0) (T := TX0) (N := 9) 1 0 0 K (dk_of tX0_becomeLike 1 rfl) w201 gwX0 rfl rfl (by decide) rfl ?_
  refine r_aload_n 4 1 K (dk_of tX0_becomeLike 2 rfl) rfl rfl ?_
  refine r_getf (C := RX0) (T := TX0) (N := 9) 5 26 0 K (dk_of tX0_becomeLike 3 rfl) w201 gwX0 rfl rfl (by decide) rfl ?_
  obtain ⟨σ1, hc, hR⟩ := o1 hR
  refine r_cVv 8 1 [.ref (g 1)] [] (wB γ h σ1 ++ (wB γ g τ ++ (r))) K (ct_X2_becomeLike hl hc.symm) cs_X0_50 ⟨rfl, rfl, rfl⟩ (dk_of tX0_becomeLike 4 rfl) rfl rfl rfl rfl rfl rfl ?_
  refine r_aload_n 11 0 K (dk_of tX0_becomeLike 5 rfl) rfl rfl ?_
  refine r_getf (C := RX0) (T := TX0) (N := 9) 12 0 1 K (dk_of tX0_becomeLike 6 rfl) w205 gwX0 rfl rfl (by decide) rfl ?_
  refine r_aload_n 15 1 K (dk_of tX0_becomeLike 7 rfl) rfl rfl ?_
  refine r_getf (C := RX0) (T := TX0) (N := 9) 16 26 1 K (dk_of tX0_becomeLike 8 rfl) w205 gwX0 rfl rfl (by decide) rfl ?_
  obtain ⟨σ2, hc, hR⟩ := o1 hR
  refine r_cVv 19 10 [.ref (g 10)] [] (wB γ h σ2 ++ (wB γ g τ ++ (r))) K (ct_X8_becomeLike hl hc.symm) cs_X0_54 ⟨rfl, rfl, rfl⟩ (dk_of tX0_becomeLike 9 rfl) rfl rfl rfl rfl rfl rfl ?_
  refine r_aload_n 22 0 K (dk_of tX0_becomeLike 10 rfl) rfl rfl ?_
  refine r_getf (C := RX0) (T := TX0) (N := 9) 23 0 2 K (dk_of tX0_becomeLike 11 rfl) w208 gwX0 rfl rfl (by decide) rfl ?_
  refine r_aload_n 26 1 K (dk_of tX0_becomeLike 12 rfl) rfl rfl ?_
  refine r_getf (C := RX0) (T := TX0) (N := 9) 27 26 2 K (dk_of tX0_becomeLike 13 rfl) w208 gwX0 rfl rfl (by decide) rfl ?_
  obtain ⟨σ3, hc, hR⟩ := o1 hR
  refine r_cVv 30 14 [.ref (g 14)] [] (wB γ h σ3 ++ (wB γ g τ ++ (r))) K (ct_X4_becomeLike hl hc.symm) cs_X0_57 ⟨rfl, rfl, rfl⟩ (dk_of tX0_becomeLike 14 rfl) rfl rfl rfl rfl rfl rfl ?_
  refine r_aload_n 33 0 K (dk_of tX0_becomeLike 15 rfl) rfl rfl ?_
  refine r_aload_n 34 1 K (dk_of tX0_becomeLike 16 rfl) rfl rfl ?_
  refine r_getf (C := RX0) (T := TX0) (N := 9) 35 26 4 K (dk_of tX0_becomeLike 17 rfl) w214 gwX0 rfl rfl (by decide) rfl ?_
  refine r_putf (C := RX0) (T := TX0) (N := 9) 38 0 4 K (dk_of tX0_becomeLike 18 rfl) w214 gwX0 tyX0_ok nmX0 rfl rfl (by decide) rfl rfl rfl rfl (Nat.le_of_ble_eq_true rfl) sB_0_4 ?_
  refine r_nmS (fun σ4 : St => wB γ h σ4 ++ (wB γ g τ ++ (r))) hR (fun σ4 hR => ?_)
  refine r_aload_n 41 0 K (dk_of tX0_becomeLike 19 rfl) rfl rfl ?_
  refine r_aload_n 42 1 K (dk_of tX0_becomeLike 20 rfl) rfl rfl ?_
  refine r_getf (C := RX0) (T := TX0) (N := 9) 43 26 5 K (dk_of tX0_becomeLike 21 rfl) w216 gwX0 rfl rfl (by decide) rfl ?_
  refine r_putf (C := RX0) (T := TX0) (N := 9) 46 0 5 K (dk_of tX0_becomeLike 22 rfl) w216 gwX0 tyX0_ok nmX0 rfl rfl (by decide) rfl rfl rfl rfl (Nat.le_of_ble_eq_true rfl) sB_0_5 ?_
  refine r_nmS (fun σ5 : St => wB γ h σ5 ++ (wB γ g τ ++ (r))) hR (fun σ5 hR => ?_)
  refine r_aload_n 49 0 K (dk_of tX0_becomeLike 23 rfl) rfl rfl ?_
  refine r_aload_n 50 1 K (dk_of tX0_becomeLike 24 rfl) rfl rfl ?_
  refine r_getf (C := RX0) (T := TX0) (N := 9) 51 26 6 K (dk_of tX0_becomeLike 25 rfl) w219 gwX0 rfl rfl (by decide) rfl ?_
  refine r_putf (C := RX0) (T := TX0) (N := 9) 54 0 6 K (dk_of tX0_becomeLike 26 rfl) w219 gwX0 tyX0_ok nmX0 rfl rfl (by decide) rfl rfl rfl rfl (Nat.le_of_ble_eq_true rfl) sB_0_6 ?_
  refine r_nmS (fun σ6 : St => wB γ h σ6 ++ (wB γ g τ ++ (r))) hR (fun σ6 hR => ?_)
  exact r_vret 57 K hQ (dk_of tX0_becomeLike 27 rfl) (Nat.zero_le _) (Nat.zero_le _) (lfv (fun u9 : St => wB γ h u9 ++ (wB γ g τ ++ (r))) hR)
end
