theorem vaA0 {s : State} : ∀ a : Nat, a < s.heap.size → ¬ va_A [] s.heap.size a := by
  rintro a ha (⟨k, e, h⟩ | h)
  · simp at h
  · omega
theorem str_of {args : Array Value} {s : State} {k : Nat} (h : (Cond.exactly (.string "Slickboom" k) "java/lang/String").before args s = true) : ∃ a : Nat, (Term.string "Slickboom" k).eval args s none [] s = some (.ref a) := by
  obtain ⟨a, c, cell, kA, ha, -⟩ := Cond.exactly_spec (args := args) (first := s) (o := none) (s := s) (idx := []) (t := .string "Slickboom" k) (cls := "java/lang/String") h
  exact ⟨a, ha⟩
theorem arr_of {args : Array Value} {s : State} {ty : FieldType} (h : (Cond.arrayClass ty).before args s = true) (hn : ∀ (U : State) (c : ClassId), va_RA U c ty = (U.vm.findClass ("[" ++ ty.toString) = some c)) : ∃ c : ClassId, ArrOfT s c ty ∧ va_RA s c ty := by
  obtain ⟨c, k, comp, h1, h2, h3⟩ := Cond.arrayClass_spec (args := args) (first := s) (o := none) (s := s) (idx := []) h
  exact ⟨c, fun n z => ⟨fun k h => (by cases h), k, h2, comp, h3⟩, by rw [hn]; exact h1⟩
set_option maxHeartbeats 8000000 in
set_option maxRecDepth 100000 in
theorem gl_start {s : State} {b : Nat} (hts : ∀ w ∈ lw_tbl, w.before #[Value.ref b] s = true) (hgv : (Jvm.Cond.and given_1 narrow_1).before #[Value.ref b] s = true) : ∃ f : Nat → Nat, ∀ (D : va_G) (c : ClassId × ClassId × ClassId), GL (D, c, f) (va_A [] s.heap.size) s s.heap := by
  have hs := flat_of_before _ hgv
  have eH : ∀ j : Nat, j < 4 → (Term.elem (.static "Slickboom" "HOLDS" "[I") (.int (Int32.ofNat j))).eval #[Value.ref b] s none [] s = some (fH j) := by
    intro j hj
    rcases (show j = 0 ∨ j = 1 ∨ j = 2 ∨ j = 3 by omega) with rfl | rfl | rfl | rfl
    · exact va_eqt (hs (.eq (.elem (.static "Slickboom" "HOLDS" "[I") (.int 0)) (.int 0)) (by decide +kernel))
    · exact va_eqt (hs (.eq (.elem (.static "Slickboom" "HOLDS" "[I") (.int 1)) (.int 200)) (by decide +kernel))
    · exact va_eqt (hs (.eq (.elem (.static "Slickboom" "HOLDS" "[I") (.int 2)) (.int 500)) (by decide +kernel))
    · exact va_eqt (hs (.eq (.elem (.static "Slickboom" "HOLDS" "[I") (.int 3)) (.int 1000)) (by decide +kernel))
  obtain ⟨aH, vH, tH⟩ := va_Tof (tm := (.static "Slickboom" "HOLDS" "[I")) (ty := .int) (N := 4) (f := fH) (A := va_A [] s.heap.size) (by decide) (hs (.arrayOf (.static "Slickboom" "HOLDS" "[I") .int) (by decide +kernel)) (va_eqt (hs (.eq (.length (.static "Slickboom" "HOLDS" "[I")) (.int 4)) (by decide +kernel))) eH vaA0
  have zH := va_Zof (C := "Slickboom") (n := "HOLDS") (d := "[I") (A := va_A [] s.heap.size) (hts _ (by decide +kernel)) (hts _ (by decide +kernel)) vH vaA0
  have eB : ∀ j : Nat, j < 4 → (Term.elem (.static "Slickboom" "BACK_PARTS" "[I") (.int (Int32.ofNat j))).eval #[Value.ref b] s none [] s = some (fB j) := by
    intro j hj
    rcases (show j = 0 ∨ j = 1 ∨ j = 2 ∨ j = 3 by omega) with rfl | rfl | rfl | rfl
    · exact va_eqt (hs (.eq (.elem (.static "Slickboom" "BACK_PARTS" "[I") (.int 0)) (.int 0)) (by decide +kernel))
    · exact va_eqt (hs (.eq (.elem (.static "Slickboom" "BACK_PARTS" "[I") (.int 1)) (.int 5)) (by decide +kernel))
    · exact va_eqt (hs (.eq (.elem (.static "Slickboom" "BACK_PARTS" "[I") (.int 2)) (.int 10)) (by decide +kernel))
    · exact va_eqt (hs (.eq (.elem (.static "Slickboom" "BACK_PARTS" "[I") (.int 3)) (.int 0)) (by decide +kernel))
  obtain ⟨aB, vB, tB⟩ := va_Tof (tm := (.static "Slickboom" "BACK_PARTS" "[I")) (ty := .int) (N := 4) (f := fB) (A := va_A [] s.heap.size) (by decide) (hs (.arrayOf (.static "Slickboom" "BACK_PARTS" "[I") .int) (by decide +kernel)) (va_eqt (hs (.eq (.length (.static "Slickboom" "BACK_PARTS" "[I")) (.int 4)) (by decide +kernel))) eB vaA0
  have zB := va_Zof (C := "Slickboom") (n := "BACK_PARTS") (d := "[I") (A := va_A [] s.heap.size) (hts _ (by decide +kernel)) (hts _ (by decide +kernel)) vB vaA0
  have q1 := vx_Zqof (C := Bundle.tN) (n := "UNASSIGNED_STACK") (d := Bundle.steD) (A := va_A [] s.heap.size) (hts _ (by decide +kernel)) (hts _ (by decide +kernel)) (hs (.isRef (.static "java/lang/Throwable" "UNASSIGNED_STACK" "[Ljava/lang/StackTraceElement;")) (by decide +kernel)) vaA0
  have q2 := vx_Zqof (C := Bundle.tN) (n := "SUPPRESSED_SENTINEL") (d := Bundle.listD) (A := va_A [] s.heap.size) (hts _ (by decide +kernel)) (hts _ (by decide +kernel)) (hs (.isRef (.static "java/lang/Throwable" "SUPPRESSED_SENTINEL" "Ljava/util/List;")) (by decide +kernel)) vaA0
  obtain ⟨s0, hs0⟩ := str_of (hs (.exactly (.string "Slickboom" 342) "java/lang/String") (by decide +kernel))
  obtain ⟨s1, hs1⟩ := str_of (hs (.exactly (.string "Slickboom" 345) "java/lang/String") (by decide +kernel))
  obtain ⟨s2, hs2⟩ := str_of (hs (.exactly (.string "Slickboom" 63) "java/lang/String") (by decide +kernel))
  obtain ⟨s3, hs3⟩ := str_of (hs (.exactly (.string "Slickboom" 87) "java/lang/String") (by decide +kernel))
  obtain ⟨s4, hs4⟩ := str_of (hs (.exactly (.string "Slickboom" 347) "java/lang/String") (by decide +kernel))
  obtain ⟨s5, hs5⟩ := str_of (hs (.exactly (.string "Slickboom" 119) "java/lang/String") (by decide +kernel))
  obtain ⟨s6, hs6⟩ := str_of (hs (.exactly (.string "Slickboom" 130) "java/lang/String") (by decide +kernel))
  obtain ⟨s7, hs7⟩ := str_of (hs (.exactly (.string "Slickboom" 136) "java/lang/String") (by decide +kernel))
  obtain ⟨s8, hs8⟩ := str_of (hs (.exactly (.string "Slickboom" 138) "java/lang/String") (by decide +kernel))
  obtain ⟨s9, hs9⟩ := str_of (hs (.exactly (.string "Slickboom" 167) "java/lang/String") (by decide +kernel))
  obtain ⟨s10, hs10⟩ := str_of (hs (.exactly (.string "Slickboom" 351) "java/lang/String") (by decide +kernel))
  obtain ⟨s11, hs11⟩ := str_of (hs (.exactly (.string "Slickboom" 353) "java/lang/String") (by decide +kernel))
  obtain ⟨s12, hs12⟩ := str_of (hs (.exactly (.string "Slickboom" 349) "java/lang/String") (by decide +kernel))
  obtain ⟨s13, hs13⟩ := str_of (hs (.exactly (.string "Slickboom" 205) "java/lang/String") (by decide +kernel))
  obtain ⟨s14, hs14⟩ := str_of (hs (.exactly (.string "Slickboom" 224) "java/lang/String") (by decide +kernel))
  obtain ⟨s15, hs15⟩ := str_of (hs (.exactly (.string "Slickboom" 239) "java/lang/String") (by decide +kernel))
  obtain ⟨s16, hs16⟩ := str_of (hs (.exactly (.string "Slickboom" 244) "java/lang/String") (by decide +kernel))
  obtain ⟨s17, hs17⟩ := str_of (hs (.exactly (.string "Slickboom" 246) "java/lang/String") (by decide +kernel))
  obtain ⟨s18, hs18⟩ := str_of (hs (.exactly (.string "Slickboom" 251) "java/lang/String") (by decide +kernel))
  obtain ⟨s19, hs19⟩ := str_of (hs (.exactly (.string "Slickboom" 259) "java/lang/String") (by decide +kernel))
  obtain ⟨s20, hs20⟩ := str_of (hs (.exactly (.string "Slickboom" 266) "java/lang/String") (by decide +kernel))
  refine ⟨vec [aH, aB, s0, s1, s2, s3, s4, s5, s6, s7, s8, s9, s10, s11, s12, s13, s14, s15, s16, s17, s18, s19, s20], fun D c => ⟨q1, q2, zH, tH, zB, tB, ?_, ?_, ?_⟩⟩
  · intro i q hq
    match i, hq with
    | 0, hq => cases hq; exact vk_R.of (hts (.stringRef "Slickboom" 342 "there is none with such a number") (by decide +kernel)) hs0
    | 1, hq => cases hq; exact vk_R.of (hts (.stringRef "Slickboom" 345 "an argument is out of range") (by decide +kernel)) hs1
    | 2, hq => cases hq; exact vk_R.of (hts (.stringRef "Slickboom" 63 "the HOUR is not 0") (by decide +kernel)) hs2
    | 3, hq => cases hq; exact vk_R.of (hts (.stringRef "Slickboom" 87 "a SHIP or a SKIMMER is there") (by decide +kernel)) hs3
    | 4, hq => cases hq; exact vk_R.of (hts (.stringRef "Slickboom" 347 "the CELL is a SHORE") (by decide +kernel)) hs4
    | 5, hq => cases hq; exact vk_R.of (hts (.stringRef "Slickboom" 119 "there are 4 SHIPS") (by decide +kernel)) hs5
    | 6, hq => cases hq; exact vk_R.of (hts (.stringRef "Slickboom" 130 "both SHIPS are the same") (by decide +kernel)) hs6
    | 7, hq => cases hq; exact vk_R.of (hts (.stringRef "Slickboom" 136 "the SHIP has fewer, or the other one no room") (by decide +kernel)) hs7
    | 8, hq => cases hq; exact vk_R.of (hts (.stringRef "Slickboom" 138 "the HOUR would be above 2000") (by decide +kernel)) hs8
    | 9, hq => cases hq; exact vk_R.of (hts (.stringRef "Slickboom" 167 "there is a BOOM on that border") (by decide +kernel)) hs9
    | 10, hq => cases hq; exact vk_R.of (hts (.stringRef "Slickboom" 351 "there are 20 means") (by decide +kernel)) hs10
    | 11, hq => cases hq; exact vk_R.of (hts (.stringRef "Slickboom" 353 "the mean is of another sort") (by decide +kernel)) hs11
    | 12, hq => cases hq; exact vk_R.of (hts (.stringRef "Slickboom" 349 "the CELL is WATER") (by decide +kernel)) hs12
    | 13, hq => cases hq; exact vk_R.of (hts (.stringRef "Slickboom" 205 "the TEAM cannot clean") (by decide +kernel)) hs13
    | 14, hq => cases hq; exact vk_R.of (hts (.stringRef "Slickboom" 224 "a rule is against it") (by decide +kernel)) hs14
    | 15, hq => cases hq; exact vk_R.of (hts (.stringRef "Slickboom" 239 "there would be more than 1000 birds") (by decide +kernel)) hs15
    | 16, hq => cases hq; exact vk_R.of (hts (.stringRef "Slickboom" 244 "the SHORE has too much STRANDED oil") (by decide +kernel)) hs16
    | 17, hq => cases hq; exact vk_R.of (hts (.stringRef "Slickboom" 246 "the SHORE was signed by them") (by decide +kernel)) hs17
    | 18, hq => cases hq; exact vk_R.of (hts (.stringRef "Slickboom" 251 "there are 3 SITES") (by decide +kernel)) hs18
    | 19, hq => cases hq; exact vk_R.of (hts (.stringRef "Slickboom" 259 "there is less waste of that sort, or less room") (by decide +kernel)) hs19
    | 20, hq => cases hq; exact vk_R.of (hts (.stringRef "Slickboom" 266 "there are 20 CLAIMS") (by decide +kernel)) hs20
    | k + 21, hq => simp [strs] at hq
  · have ha : ∀ w ∈ nwL, w ∈ lw_tbl := by decide +kernel
    exact fun w hw => va_Nw.of (nwL_ot w hw) (hts w (ha w hw))
  · intro q hq
    simp only [ncL, List.mem_cons, List.not_mem_nil, or_false] at hq
    rcases hq with rfl | rfl | rfl | rfl | rfl | rfl
    all_goals exact va_Nc.of (hs _ (by decide +kernel))
theorem law_end {p : Program} {l : Launch} {e : Env} {s : State} {m : MethodId} {below : List Frame} {meth : Method} {c : Code} {b : Nat} {γ : Gd} (hx : p.tables.exec = Jvm.exec) (hb : c.code = code) (hr : meth.sig.returnType = ret) (hlocks : meth.locks = false) {cs ss : Nat} {w : va_W} {L : List (Option Value)} (h1 : cs ≤ 1124) (h2 : ss ≤ 9915) : V l γ (p, e, room_1, s, m, #[Value.ref b], below, meth, c) ([], lw_Z below #[Value.ref b] s) w L cs ss 2285 [.int 1] := by
  intro H locs ls hP hD hS hl
  refine va_forget (fun q hq => ?_) ?_
  · rcases (show va_A [] s.heap.size q.base from hS.2.2 q hq) with ⟨k, e, h⟩ | h
    · simp at h
    · exact h
  refine W.widen h1 h2 ?_
  exact lw_ret hx hb hr hlocks (dk_of tL_law_14 7 rfl)
def zI : S7 := (σI, σI, νI, δI, πI, (fun _ => 0), μI)
set_option maxHeartbeats 8000000 in
set_option maxRecDepth 100000 in
theorem whole_start_of {Rel : S7 → Prop} (hinit : Rel zI) (hstep : ∀ (op p1 p2 p3 : Int32) (z : S7), Rel z → ∃ z9, LStep op p1 p2 p3 z = some z9 ∧ Rel z9) {p : Program} {e : Env} {s : State} {m : MethodId} {below : List Frame} {meth : Method} {c : Code} (l : Launch) (hflags : l.flags = flags0) {b L : Nat} {xs : Nat → Int32} (hL : L ≤ 2048) (C0 : lw_At p s m meth c b L xs) : W p l e room_1 s m #[Value.ref b] below meth c s.heap [] 0 0 (lw_Z below #[Value.ref b] s) (entryFrame m ([Value.ref b] : List Value).toArray 7) := by
  obtain ⟨hx, hb, hr, hml, hown, hts, hX, hbl, hlocks, hgv⟩ := C0
  have hl : l.stackTraces = false := by unfold Launch.stackTraces; rw [hflags]; decide +kernel
  have hG : ∀ w ∈ Gw, w.before #[Value.ref b] s = true := fun w hw => hts w (List.mem_filter.mp hw).1
  obtain ⟨cX0, iX0, KX0⟩ := u_known (C := RX0) (T := TX0) (N := 9) (n := 9) hG gwX0 (hG _ w31)
  obtain ⟨cX1, iX1, KX1⟩ := u_known (C := RX1) (T := TX1) (N := 7) (n := 7) hG gwX1 (hG _ w167)
  obtain ⟨cX2, iX2, KX2⟩ := u_known (C := RX2) (T := TX2) (N := 8) (n := 8) hG gwX2 (hG _ w37)
  obtain ⟨cX3, iX3, KX3⟩ := u_known (C := RX3) (T := TX3) (N := 4) (n := 4) hG gwX3 (hG _ w277)
  obtain ⟨cX4, iX4, KX4⟩ := u_known (C := RX4) (T := TX4) (N := 9) (n := 9) hG gwX4 (hG _ w117)
  obtain ⟨cX5, iX5, KX5⟩ := u_known (C := RX5) (T := TX5) (N := 5) (n := 5) hG gwX5 (hG _ w245)
  obtain ⟨cX6, iX6, KX6⟩ := u_known (C := RX6) (T := TX6) (N := 5) (n := 5) hG gwX6 (hG _ w298)
  obtain ⟨cX7, iX7, KX7⟩ := u_known (C := RX7) (T := TX7) (N := 1) (n := 1) hG gwX7 (hG _ w267)
  obtain ⟨cX8, iX8, KX8⟩ := u_known (C := RX8) (T := TX8) (N := 4) (n := 4) hG gwX8 (hG _ w90)
  obtain ⟨cX9, iX9, KX9⟩ := u_known (C := RX9) (T := TX9) (N := 6) (n := 6) hG gwX9 (hG _ w23)
  obtain ⟨cX10, iX10, KX10⟩ := u_known (C := RX10) (T := TX10) (N := 29) (n := 29) hG gwX10 (hG _ w1023)
  obtain ⟨dC, dI, hKc⟩ : ∃ (dC : Nat → ClassId) (dI : Nat → Nat → Nat), ∀ (k : Nat) (q : vw_C), clX[k]? = some q → u_Kn s q.1 q.2.1 q.2.2 (dC k) (dI k) := by
    refine ⟨fun k => [cX0, cX1, cX2, cX3, cX4, cX5, cX6, cX7, cX8, cX9, cX10].getD k cX0, fun k => [iX0, iX1, iX2, iX3, iX4, iX5, iX6, iX7, iX8, iX9, iX10].getD k iX0, ?_⟩
    intro k q hq
    match k, hq with
    | 0, hq => cases hq; exact KX0
    | 1, hq => cases hq; exact KX1
    | 2, hq => cases hq; exact KX2
    | 3, hq => cases hq; exact KX3
    | 4, hq => cases hq; exact KX4
    | 5, hq => cases hq; exact KX5
    | 6, hq => cases hq; exact KX6
    | 7, hq => cases hq; exact KX7
    | 8, hq => cases hq; exact KX8
    | 9, hq => cases hq; exact KX9
    | 10, hq => cases hq; exact KX10
    | k + 11, hq => simp [clX] at hq
  obtain ⟨cI, aI, rI⟩ := arr_of (hG _ w88) (fun _ _ => rfl)
  obtain ⟨cZ, aZ, rZ⟩ := arr_of (hG _ w165) (fun _ _ => rfl)
  obtain ⟨cL, aL, rL⟩ := arr_of (hG _ w1353) (fun _ _ => rfl)
  obtain ⟨f, hf⟩ := gl_start hts hgv
  obtain ⟨γ, hγ⟩ : ∃ γ : Gd, γ = ((dC, dI), (cI, cZ, cL), f) := ⟨_, rfl⟩
  have hGL : GL γ (va_A [] s.heap.size) s s.heap := by rw [hγ]; exact hf _ _
  have hK : va_K γ.1 clX (tyG γ) s := by
    rw [hγ]
    refine ⟨hKc, fun k q hq => ?_⟩
    match k, hq with
    | 0, hq => cases hq; exact ⟨aI, rI⟩
    | 1, hq => cases hq; exact ⟨aZ, rZ⟩
    | 2, hq => cases hq; exact ⟨aL, rL⟩
    | k + 3, hq => simp at hq
  have hS : va_S (va_A [] s.heap.size) s.heap s.heap [] := va_S.rf
  have hP : va_P γ.1 clX [] s.heap := fun k q h => by simp at h
  have hD : va_D (va_A [] s.heap.size) [] := ⟨fun i j p q h => by simp at h, fun k q h => by simp at h⟩
  have hl0 := lv_entry ([.ref b]) (n := 7) (Nat.le_of_ble_eq_true rfl)
  rw [lg_entry_eq]
  generalize (lg_sl ([.ref b]) ++ List.replicate (7 - (lg_sl ([.ref b])).length) Slot.unset).toArray = ls at hl0 ⊢
  have hbA : ¬ va_A [] s.heap.size b := vaA0 b hbl
  obtain ⟨X, hXe⟩ : ∃ X : CX, X = (p, e, room_1, s, m, #[Value.ref b], below, meth, c) := ⟨_, rfl⟩
  obtain ⟨M, hMe⟩ : ∃ M : MX, M = ([], lw_Z below #[Value.ref b] s) := ⟨_, rfl⟩
  have K : KX l γ X M ⟨RL, meth.name, ""⟩ cL_law RL 7 rmL (some .boolean) c.exceptionTable.toList := by
    subst hXe; subst hMe
    exact ⟨hx, hb, hml, hown, hG, hlocks, hK, hGL, hl, rfl, hr, rfl, rfl⟩
  have hX' : va_X b L xs (ks X) (ks X).heap := by subst hXe; exact hX
  have hbl' : b < (ks X).heap.size := by subst hXe; exact hbl
  have hbA' : ¬ Ax X M b := by subst hXe; subst hMe; exact hbA
  have hend : ∀ (cs ss : Nat) (w : va_W) (L : List (Option Value)), cs ≤ 1124 → ss ≤ 9915 → V l γ X M w L cs ss 2285 [.int 1] := by
    intro cs ss w L h1 h2
    subst hXe; subst hMe
    exact law_end hx hb hr hlocks h1 h2
  have main : V l γ X M [] [some (.ref b), none, none, none, none, none, none] 0 0 0 [] := by
    clear hXe hMe
    refine r_newF (T := TX9) (ci := 9) 0 K (dk_of tL_law_0 0 rfl) w22 w23 w1 gwX9 tyX9_ok rfl rfl rfl (fun q1 => ?_)
    refine r_dup 3 K (dk_of tL_law_0 1 rfl) rfl ?_
    refine r_callI 4 [] [.ref q1] K (ct_X9_init hl) cs_L_114 ⟨rfl, rfl, rfl⟩ (dk_of tL_law_0 2 rfl) rfl rfl (Nat.le_of_ble_eq_true rfl) ⟨Nat.le_of_ble_eq_true rfl, Nat.le_of_ble_eq_true rfl⟩ (fun k9 w9 h9 => by cases h9.1) (fun v9 w9 h9 => ?_)
    obtain ⟨hv9, h, g, an, aq, ad, ap, rfl⟩ := h9
    cases hv9
    refine r_astore_n 7 1 [some (.ref b), some (.ref q1), none, none, none, none, none] K (dk_of tL_law_0 3 rfl) rfl rfl rfl (by decide) ?_
    refine r_newF (T := TX10) (ci := 10) 8 K (dk_of tL_law_0 4 rfl) w1022 w1023 w12 gwX10 tyX10_ok rfl rfl rfl (fun q2 => ?_)
    refine r_dup 11 K (dk_of tL_law_0 5 rfl) rfl ?_
    refine r_callI 12 [] [.ref q2] K (ct_X10_init hl) cs_L_117 ⟨rfl, rfl, rfl⟩ (dk_of tL_law_0 6 rfl) rfl rfl (Nat.le_of_ble_eq_true rfl) ⟨Nat.le_of_ble_eq_true rfl, Nat.le_of_ble_eq_true rfl⟩ (fun k9 w9 h9 => by cases h9.1) (fun v9 w9 h9 => ?_)
    obtain ⟨hv9, am, he9, rfl⟩ := h9
    cases hv9
    subst he9
    refine r_astore_n 15 2 [some (.ref b), some (.ref q1), some (.ref (am 0)), none, none, none, none] K (dk_of tL_law_0 7 rfl) rfl rfl rfl (by decide) ?_
    refine r_iconst 16 (1 : Int32) K (dk_of tL_law_0 8 rfl) (by decide) ?_
    refine r_newaF (a0 := (1, .inr (.inl (fun _ => 0)))) (N := 1) (ti := 2) 17 K (dk_of tL_law_0 9 rfl) w1353 rfl rfl raL (fun _ => rfl) (by decide) rfl rfl rfl (fun q3 => ?_)
    refine r_astore_n 19 3 [some (.ref b), some (.ref q1), some (.ref (am 0)), some (.ref q3), none, none, none] K (dk_of tL_law_0 10 rfl) rfl rfl rfl (by decide) ?_
    refine r_iconst 20 (0 : Int32) K (dk_of tL_law_0 11 rfl) (by decide) ?_
    refine r_istore 21 4 [some (.ref b), some (.ref q1), some (.ref (am 0)), some (.ref q3), some (.int (Int32.ofNat (4 * 0))), none, none] K (dk_of tL_law_0 12 rfl) rfl rfl (by decide) ?_
    show V l γ X M (wO γ q3 (fun _ => 0) ++ (wM γ am μI ++ (wB γ h σI ++ (wB γ g σI ++ (wS q1 (h 0) (g 0) an aq (ad 0) (ap 0) ++ (wN an (h 0) νI ++ (wR aq (h 0) ++ (wD γ ad δI ++ (wP γ ap πI ++ ([])))))))))) _ 79 1597 23 []
    refine r_perm (lawW γ h g q1 an aq ad ap q3 am [] zI) (List.Perm.trans (List.Perm.trans (List.Perm.trans (List.Perm.trans (List.Perm.trans (List.Perm.trans (List.Perm.trans (List.Perm.trans (List.Perm.trans (List.Perm.trans (List.Perm.trans (List.Perm.trans (List.Perm.trans (List.Perm.append_left _ (List.perm_append_comm_assoc _ _ _)) (List.perm_append_comm_assoc _ _ _)) (List.Perm.append_left _ (List.Perm.append_left _ (List.perm_append_comm_assoc _ _ _)))) (List.Perm.append_left _ (List.perm_append_comm_assoc _ _ _))) (List.Perm.append_left _ (List.Perm.append_left _ (List.Perm.append_left _ (List.perm_append_comm_assoc _ _ _))))) (List.Perm.append_left _ (List.Perm.append_left _ (List.perm_append_comm_assoc _ _ _)))) (List.Perm.append_left _ (List.Perm.append_left _ (List.Perm.append_left _ (List.Perm.append_left _ (List.perm_append_comm_assoc _ _ _)))))) (List.Perm.append_left _ (List.Perm.append_left _ (List.Perm.append_left _ (List.perm_append_comm_assoc _ _ _))))) (List.Perm.append_left _ (List.Perm.append_left _ (List.Perm.append_left _ (List.Perm.append_left _ (List.Perm.append_left _ (List.perm_append_comm_assoc _ _ _))))))) (List.Perm.append_left _ (List.Perm.append_left _ (List.Perm.append_left _ (List.Perm.append_left _ (List.perm_append_comm_assoc _ _ _)))))) (List.Perm.append_left _ (List.Perm.append_left _ (List.Perm.append_left _ (List.Perm.append_left _ (List.Perm.append_left _ (List.Perm.append_left _ (List.perm_append_comm_assoc _ _ _)))))))) (List.Perm.append_left _ (List.Perm.append_left _ (List.Perm.append_left _ (List.Perm.append_left _ (List.Perm.append_left _ (List.perm_append_comm_assoc _ _ _))))))) (List.Perm.append_left _ (List.Perm.append_left _ (List.Perm.append_left _ (List.Perm.append_left _ (List.Perm.append_left _ (List.Perm.append_left _ (List.Perm.append_left _ (List.perm_append_comm_assoc _ _ _))))))))) (List.Perm.append_left _ (List.Perm.append_left _ (List.Perm.append_left _ (List.Perm.append_left _ (List.Perm.append_left _ (List.Perm.append_left _ (List.perm_append_comm_assoc _ _ _)))))))) 23 ?_
    exact law_loop hl K hX' hbl' hbA' hL hstep hend 513 0 zI rfl (Nat.zero_le _) hinit
  subst hXe; subst hMe
  exact main s.heap [] ls hP hD hS (by rw [show (kc (p, e, room_1, s, m, #[Value.ref b], below, meth, c)).maxLocals = 7 from hml]; exact hl0)
