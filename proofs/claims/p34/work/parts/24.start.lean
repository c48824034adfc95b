/-! THE CLAIM OUT OF ONE WALK OF THE LAW'S BODY. Your part is whole_start (and what it stands on); all else here is the same for every law, but numbers. -/
def R_law : String := "SlickboomLaw"
def lw_P (b : Addr) (xs : List Int32) (args : Array Value) (s : State) : Prop := args = #[.ref b] ∧ s.IntsAt b xs ∧ xs.length ≤ 260 ∧ (Jvm.Cond.and given_1 narrow_1).before args s = true
def lw_Q (_ : Array Value) (s : State) (o : Outcome) (t : State) : Prop := o = .returned (some (.int 1)) ∧ Framed s o t [] 205 2077
def lw_Z (below : List Frame) (a : Array Value) (s : State) : State → Prop := fun t => ∃ o, t.status = .running ∧ Ended t below o ∧ lw_Q a s o t
/-- the law's own end, with 1 on the stack, nothing written that was there before, its room as the claim has it -/
theorem lw_ret {p : Program} {l : Launch} {e : Env} {s : State} {m : MethodId} {below : List Frame} {meth : Method} {c : Code} {b : Nat} (hx : p.tables.exec = Jvm.exec) (hb : c.code = code) (hr : meth.sig.returnType = ret) (hlocks : meth.locks = false) {pc : Nat} {H : Heap} {ls : Array Slot} (hdg : decode code pc = .ok (.ireturn, 1)) : W p l e room_1 s m #[Value.ref b] below meth c H [] 205 2077 (lw_Z below #[Value.ref b] s) (F0 m pc ls [.int 1]) := by
  intro T hT X
  obtain ⟨fs, hret, hrun, hended, hW, hframe⟩ := X.leave (v := some (.int 1)) (hlocks := hlocks) (fun h => by rw [hr] at h; cases h)
  have hmeth' : T.vm.method? m = some meth := X.method'
  refine ⟨T.setFrames fs, ?_, .returned (some (.int 1)), hrun, hended, rfl, ⟨_, rfl⟩, hW, hframe⟩
  jvm_step X.here [X.here.top, hx, hb, hdg, hmeth', hr, ret, narrow_b1]
  (try refine ⟨rfl, ?_⟩); (try refine ⟨rfl, ?_⟩)
  first | (intro acts; rw [hret _ acts rfl rfl rfl]) | rw [hret _ _ rfl rfl rfl]
  exact Steps.refl _
/-- what holds at the law's entry: the machine, the code, the tables' words (any of lw_tbl by 'hts w (by decide +kernel)'), the script of L ints xs at the cell b, what the Statement gives of the start (any of its parts by flat_of_before) -/
def lw_At (p : Program) (s : State) (m : MethodId) (meth : Method) (c : Code) (b L : Nat) (xs : Nat → Int32) : Prop :=
  p.tables.exec = Jvm.exec ∧ c.code = code ∧ meth.sig.returnType = ret ∧ c.maxLocals = 18 ∧ s.vm.findClass R_law = some m.cls ∧ (∀ w ∈ lw_tbl, w.before #[Value.ref b] s = true) ∧ va_X b L xs s s.heap ∧ b < s.heap.size ∧ meth.locks = false ∧ (Jvm.Cond.and given_1 narrow_1).before #[Value.ref b] s = true
theorem vaA0 {s : State} : ∀ a : Nat, a < s.heap.size → ¬ va_A [] s.heap.size a := by
  rintro a ha (⟨k, e, h⟩ | h)
  · simp at h
  · omega
theorem str_of {args : Array Value} {s : State} {k : Nat} (h : (Cond.exactly (.string "Slickboom" k) "java/lang/String").before args s = true) : ∃ a : Nat, (Term.string "Slickboom" k).eval args s none [] s = some (.ref a) := by
  obtain ⟨a, c, cell, kA, ha, -⟩ := Cond.exactly_spec (args := args) (first := s) (o := none) (s := s) (idx := []) (t := .string "Slickboom" k) (cls := "java/lang/String") h
  exact ⟨a, ha⟩
theorem arr_of {args : Array Value} {s : State} {ty : FieldType} (h : (Cond.arrayClass ty).before args s = true) (hn : ∀ (U : State) (c : ClassId), va_RA U c ty = (U.vm.findClass ("[" ++ ty.toString) = some c)) : ∃ c : ClassId, ArrOfT s c ty ∧ va_RA s c ty := by
  obtain ⟨c, k, comp, h1, h2, h3⟩ := Cond.arrayClass_spec (args := args) (first := s) (o := none) (s := s) (idx := []) h
  exact ⟨c, fun n z => ⟨fun k h => (by cases h), k, h2, comp, h3⟩, by rw [hn]; exact h1⟩
set_option maxHeartbeats 8000000 in
set_option maxRecDepth 100000 in
theorem gl_start {s : State} {b : Nat} (hts : ∀ w ∈ lw_tbl, w.before #[Value.ref b] s = true) (hgv : (Jvm.Cond.and given_1 narrow_1).before #[Value.ref b] s = true) : ∃ f : Nat → Nat, ∀ (D : va_G) (c : ClassId × ClassId × ClassId), GL (D, c, f) (va_A [] s.heap.size) s s.heap := by
  have hs := flat_of_before _ hgv
  have eH : ∀ j : Nat, j < 4 → (Term.elem (.static "Slickboom" "HOLDS" "[I") (.int (Int32.ofNat j))).eval #[Value.ref b] s none [] s = some (fH j) := by
    intro j hj
    rcases (show j = 0 ∨ j = 1 ∨ j = 2 ∨ j = 3 by omega) with rfl | rfl | rfl | rfl
    · exact va_eqt (hs (.eq (.elem (.static "Slickboom" "HOLDS" "[I") (.int 0)) (.int 0)) (by decide +kernel))
    · exact va_eqt (hs (.eq (.elem (.static "Slickboom" "HOLDS" "[I") (.int 1)) (.int 200)) (by decide +kernel))
    · exact va_eqt (hs (.eq (.elem (.static "Slickboom" "HOLDS" "[I") (.int 2)) (.int 500)) (by decide +kernel))
    · exact va_eqt (hs (.eq (.elem (.static "Slickboom" "HOLDS" "[I") (.int 3)) (.int 1000)) (by decide +kernel))
  obtain ⟨aH, vH, tH⟩ := va_Tof (tm := (.static "Slickboom" "HOLDS" "[I")) (ty := .int) (N := 4) (f := fH) (A := va_A [] s.heap.size) (by decide) (hs (.arrayOf (.static "Slickboom" "HOLDS" "[I") .int) (by decide +kernel)) (va_eqt (hs (.eq (.length (.static "Slickboom" "HOLDS" "[I")) (.int 4)) (by decide +kernel))) eH vaA0
  have zH := va_Zof (C := "Slickboom") (n := "HOLDS") (d := "[I") (A := va_A [] s.heap.size) (hts _ (by decide +kernel)) (hts _ (by decide +kernel)) vH vaA0
  have eB : ∀ j : Nat, j < 4 → (Term.elem (.static "Slickboom" "BACK_PARTS" "[I") (.int (Int32.ofNat j))).eval #[Value.ref b] s none [] s = some (fB j) := by
    intro j hj
    rcases (show j = 0 ∨ j = 1 ∨ j = 2 ∨ j = 3 by omega) with rfl | rfl | rfl | rfl
    · exact va_eqt (hs (.eq (.elem (.static "Slickboom" "BACK_PARTS" "[I") (.int 0)) (.int 0)) (by decide +kernel))
    · exact va_eqt (hs (.eq (.elem (.static "Slickboom" "BACK_PARTS" "[I") (.int 1)) (.int 5)) (by decide +kernel))
    · exact va_eqt (hs (.eq (.elem (.static "Slickboom" "BACK_PARTS" "[I") (.int 2)) (.int 10)) (by decide +kernel))
    · exact va_eqt (hs (.eq (.elem (.static "Slickboom" "BACK_PARTS" "[I") (.int 3)) (.int 0)) (by decide +kernel))
  obtain ⟨aB, vB, tB⟩ := va_Tof (tm := (.static "Slickboom" "BACK_PARTS" "[I")) (ty := .int) (N := 4) (f := fB) (A := va_A [] s.heap.size) (by decide) (hs (.arrayOf (.static "Slickboom" "BACK_PARTS" "[I") .int) (by decide +kernel)) (va_eqt (hs (.eq (.length (.static "Slickboom" "BACK_PARTS" "[I")) (.int 4)) (by decide +kernel))) eB vaA0
  have zB := va_Zof (C := "Slickboom") (n := "BACK_PARTS") (d := "[I") (A := va_A [] s.heap.size) (hts _ (by decide +kernel)) (hts _ (by decide +kernel)) vB vaA0
  have q1 := vx_Zqof (C := Bundle.tN) (n := "UNASSIGNED_STACK") (d := Bundle.steD) (A := va_A [] s.heap.size) (hts _ (by decide +kernel)) (hts _ (by decide +kernel)) (hs (.isRef (.static "java/lang/Throwable" "UNASSIGNED_STACK" "[Ljava/lang/StackTraceElement;")) (by decide +kernel)) vaA0
  have q2 := vx_Zqof (C := Bundle.tN) (n := "SUPPRESSED_SENTINEL") (d := Bundle.listD) (A := va_A [] s.heap.size) (hts _ (by decide +kernel)) (hts _ (by decide +kernel)) (hs (.isRef (.static "java/lang/Throwable" "SUPPRESSED_SENTINEL" "Ljava/util/List;")) (by decide +kernel)) vaA0
  obtain ⟨s0, hs0⟩ := str_of (hs (.exactly (.string "Slickboom" 342) "java/lang/String") (by decide +kernel))
  obtain ⟨s1, hs1⟩ := str_of (hs (.exactly (.string "Slickboom" 345) "java/lang/String") (by decide +kernel))
  obtain ⟨s2, hs2⟩ := str_of (hs (.exactly (.string "Slickboom" 63) "java/lang/String") (by decide +kernel))
  obtain ⟨s3, hs3⟩ := str_of (hs (.exactly (.string "Slickboom" 87) "java/lang/String") (by decide +kernel))
  obtain ⟨s4, hs4⟩ := str_of (hs (.exactly (.string "Slickboom" 347) "java/lang/String") (by decide +kernel))
  obtain ⟨s5, hs5⟩ := str_of (hs (.exactly (.string "Slickboom" 119) "java/lang/String") (by decide +kernel))
  obtain ⟨s6, hs6⟩ := str_of (hs (.exactly (.string "Slickboom" 138) "java/lang/String") (by decide +kernel))
  obtain ⟨s7, hs7⟩ := str_of (hs (.exactly (.string "Slickboom" 167) "java/lang/String") (by decide +kernel))
  obtain ⟨s8, hs8⟩ := str_of (hs (.exactly (.string "Slickboom" 351) "java/lang/String") (by decide +kernel))
  obtain ⟨s9, hs9⟩ := str_of (hs (.exactly (.string "Slickboom" 353) "java/lang/String") (by decide +kernel))
  obtain ⟨s10, hs10⟩ := str_of (hs (.exactly (.string "Slickboom" 349) "java/lang/String") (by decide +kernel))
  obtain ⟨s11, hs11⟩ := str_of (hs (.exactly (.string "Slickboom" 205) "java/lang/String") (by decide +kernel))
  obtain ⟨s12, hs12⟩ := str_of (hs (.exactly (.string "Slickboom" 224) "java/lang/String") (by decide +kernel))
  obtain ⟨s13, hs13⟩ := str_of (hs (.exactly (.string "Slickboom" 239) "java/lang/String") (by decide +kernel))
  obtain ⟨s14, hs14⟩ := str_of (hs (.exactly (.string "Slickboom" 266) "java/lang/String") (by decide +kernel))
  refine ⟨vec [aH, aB, s0, s1, s2, s3, s4, s5, s6, s7, s8, s9, s10, s11, s12, s13, s14], fun D c => ⟨q1, q2, zH, tH, zB, tB, ?_, ?_, ?_⟩⟩
  · intro i q hq
    match i, hq with
    | 0, hq => cases hq; exact vk_R.of (hts (.stringRef "Slickboom" 342 "there is none with such a number") (by decide +kernel)) hs0
    | 1, hq => cases hq; exact vk_R.of (hts (.stringRef "Slickboom" 345 "an argument is out of range") (by decide +kernel)) hs1
    | 2, hq => cases hq; exact vk_R.of (hts (.stringRef "Slickboom" 63 "the HOUR is not 0") (by decide +kernel)) hs2
    | 3, hq => cases hq; exact vk_R.of (hts (.stringRef "Slickboom" 87 "a SHIP or a SKIMMER is there") (by decide +kernel)) hs3
    | 4, hq => cases hq; exact vk_R.of (hts (.stringRef "Slickboom" 347 "the CELL is a SHORE") (by decide +kernel)) hs4
    | 5, hq => cases hq; exact vk_R.of (hts (.stringRef "Slickboom" 119 "there are 4 SHIPS") (by decide +kernel)) hs5
    | 6, hq => cases hq; exact vk_R.of (hts (.stringRef "Slickboom" 138 "the HOUR would be above 2000") (by decide +kernel)) hs6
    | 7, hq => cases hq; exact vk_R.of (hts (.stringRef "Slickboom" 167 "there is a BOOM on that border") (by decide +kernel)) hs7
    | 8, hq => cases hq; exact vk_R.of (hts (.stringRef "Slickboom" 351 "there are 20 means") (by decide +kernel)) hs8
    | 9, hq => cases hq; exact vk_R.of (hts (.stringRef "Slickboom" 353 "the mean is of another sort") (by decide +kernel)) hs9
    | 10, hq => cases hq; exact vk_R.of (hts (.stringRef "Slickboom" 349 "the CELL is WATER") (by decide +kernel)) hs10
    | 11, hq => cases hq; exact vk_R.of (hts (.stringRef "Slickboom" 205 "the TEAM cannot clean") (by decide +kernel)) hs11
    | 12, hq => cases hq; exact vk_R.of (hts (.stringRef "Slickboom" 224 "a rule is against it") (by decide +kernel)) hs12
    | 13, hq => cases hq; exact vk_R.of (hts (.stringRef "Slickboom" 239 "there would be more than 1000 birds") (by decide +kernel)) hs13
    | 14, hq => cases hq; exact vk_R.of (hts (.stringRef "Slickboom" 266 "there are 20 CLAIMS") (by decide +kernel)) hs14
    | k + 15, hq => simp [strs] at hq
  · have ha : ∀ w ∈ nwL, w ∈ lw_tbl := by decide +kernel
    exact fun w hw => va_Nw.of (nwL_ot w hw) (hts w (ha w hw))
  · intro q hq
    simp only [ncL, List.mem_cons, List.not_mem_nil, or_false] at hq
    rcases hq with rfl | rfl | rfl | rfl | rfl | rfl
    all_goals exact va_Nc.of (hs _ (by decide +kernel))
theorem law_end {p : Program} {l : Launch} {e : Env} {s : State} {m : MethodId} {below : List Frame} {meth : Method} {c : Code} {b : Nat} {γ : Gd} (hx : p.tables.exec = Jvm.exec) (hb : c.code = code) (hr : meth.sig.returnType = ret) (hlocks : meth.locks = false) {cs ss : Nat} {w : va_W} {L : List (Option Value)} (h1 : cs ≤ 205) (h2 : ss ≤ 2077) : V l γ (p, e, room_1, s, m, #[Value.ref b], below, meth, c) ([], lw_Z below #[Value.ref b] s) w L cs ss 1181 [.int 1] := by
  intro H locs ls hP hD hS hl
  refine va_forget (fun q hq => ?_) ?_
  · rcases (show va_A [] s.heap.size q.base from hS.2.2 q hq) with ⟨k, e, h⟩ | h
    · simp at h
    · exact h
  refine W.widen h1 h2 ?_
  exact lw_ret hx hb hr hlocks (dk_of tL_law_6 10 rfl)
set_option maxHeartbeats 8000000 in
set_option maxRecDepth 100000 in
theorem whole_start_of {RS : Nat → St → Prop} {RA : Nat → Z8 → Prop} (hS0 : RS 0 σI) (hSs : ∀ (k : Nat) (c0 : Int32) (σ : St), k < 6 → RS k σ → ∃ σ9, st_su 0 0 0 (Int32.ofNat k) c0 σ σI νI δI πI = some σ9 ∧ RS (k + 1) σ9) (hA0 : ∀ σ, RS 6 σ → RA 0 (0, 0, 0, σ, σI, νI, δI, πI))
    (hAs : ∀ (k : Nat) (c0 c1 : Int32) (z : Z8), k < 30 → RA k z → ∃ z9, st_act z.1 z.2.1 z.2.2.1 (Int32.ofNat k) c0 c1 z.2.2.2.1 z.2.2.2.2.1 z.2.2.2.2.2.1 z.2.2.2.2.2.2.1 z.2.2.2.2.2.2.2 = some z9 ∧ RA (k + 1) z9) (hT : ∀ z, RA 30 z → TailOk z.1 z.2.2.1 z.2.2.2.1 z.2.2.2.2.1 z.2.2.2.2.2.1 z.2.2.2.2.2.2.1 z.2.2.2.2.2.2.2)
    {p : Program} {e : Env} {s : State} {m : MethodId} {below : List Frame} {meth : Method} {c : Code} (l : Launch) (hflags : l.flags = flags0) {b L : Nat} {xs : Nat → Int32} (hL : L ≤ 260) (C0 : lw_At p s m meth c b L xs) : W p l e room_1 s m #[Value.ref b] below meth c s.heap [] 0 0 (lw_Z below #[Value.ref b] s) (entryFrame m ([Value.ref b] : List Value).toArray 18) := by
  obtain ⟨hx, hb, hr, hml, hown, hts, hX, hbl, hlocks, hgv⟩ := C0
  have hl : l.stackTraces = false := by unfold Launch.stackTraces; rw [hflags]; decide +kernel
  have hG : ∀ w ∈ Gw, w.before #[Value.ref b] s = true := fun w hw => hts w (List.mem_filter.mp hw).1
  obtain ⟨cX0, iX0, KX0⟩ := u_known (C := RX0) (T := TX0) (N := 9) (n := 9) hG gwX0 (hG _ w30)
  obtain ⟨cX1, iX1, KX1⟩ := u_known (C := RX1) (T := TX1) (N := 7) (n := 7) hG gwX1 (hG _ w166)
  obtain ⟨cX2, iX2, KX2⟩ := u_known (C := RX2) (T := TX2) (N := 8) (n := 8) hG gwX2 (hG _ w36)
  obtain ⟨cX3, iX3, KX3⟩ := u_known (C := RX3) (T := TX3) (N := 4) (n := 4) hG gwX3 (hG _ w276)
  obtain ⟨cX4, iX4, KX4⟩ := u_known (C := RX4) (T := TX4) (N := 9) (n := 9) hG gwX4 (hG _ w116)
  obtain ⟨cX5, iX5, KX5⟩ := u_known (C := RX5) (T := TX5) (N := 5) (n := 5) hG gwX5 (hG _ w244)
  obtain ⟨cX6, iX6, KX6⟩ := u_known (C := RX6) (T := TX6) (N := 5) (n := 5) hG gwX6 (hG _ w295)
  obtain ⟨cX7, iX7, KX7⟩ := u_known (C := RX7) (T := TX7) (N := 1) (n := 1) hG gwX7 (hG _ w266)
  obtain ⟨cX8, iX8, KX8⟩ := u_known (C := RX8) (T := TX8) (N := 4) (n := 4) hG gwX8 (hG _ w89)
  obtain ⟨cX9, iX9, KX9⟩ := u_known (C := RX9) (T := TX9) (N := 6) (n := 6) hG gwX9 (hG _ w22)
  obtain ⟨dC, dI, hKc⟩ : ∃ (dC : Nat → ClassId) (dI : Nat → Nat → Nat), ∀ (k : Nat) (q : vw_C), clX[k]? = some q → u_Kn s q.1 q.2.1 q.2.2 (dC k) (dI k) := by
    refine ⟨fun k => [cX0, cX1, cX2, cX3, cX4, cX5, cX6, cX7, cX8, cX9].getD k cX0, fun k => [iX0, iX1, iX2, iX3, iX4, iX5, iX6, iX7, iX8, iX9].getD k iX0, ?_⟩
    intro k q hq
    match k, hq with
    | 0, hq => cases hq; exact KX0
    | 1, hq => cases hq; exact KX1
    | 2, hq => cases hq; exact KX2
    | 3, hq => cases hq; exact KX3
    | 4, hq => cases hq; exact KX4
    | 5, hq => cases hq; exact KX5
    | 6, hq => cases hq; exact KX6
    | 7, hq => cases hq; exact KX7
    | 8, hq => cases hq; exact KX8
    | 9, hq => cases hq; exact KX9
    | k + 10, hq => simp [clX] at hq
  obtain ⟨cI, aI, rI⟩ := arr_of (hG _ w87) (fun _ _ => rfl)
  obtain ⟨cZ, aZ, rZ⟩ := arr_of (hG _ w164) (fun _ _ => rfl)
  obtain ⟨f, hf⟩ := gl_start hts hgv
  obtain ⟨γ, hγ⟩ : ∃ γ : Gd, γ = ((dC, dI), (cI, cZ, cI), f) := ⟨_, rfl⟩
  have hGL : GL γ (va_A [] s.heap.size) s s.heap := by rw [hγ]; exact hf _ _
  have hK : va_K γ.1 clX (tyG γ) s := by
    rw [hγ]
    refine ⟨hKc, fun k q hq => ?_⟩
    match k, hq with
    | 0, hq => cases hq; exact ⟨aI, rI⟩
    | 1, hq => cases hq; exact ⟨aZ, rZ⟩
    | k + 2, hq => simp at hq
  have hS : va_S (va_A [] s.heap.size) s.heap s.heap [] := va_S.rf
  have hP : va_P γ.1 clX [] s.heap := fun k q h => by simp at h
  have hD : va_D (va_A [] s.heap.size) [] := ⟨fun i j p q h => by simp at h, fun k q h => by simp at h⟩
  have hl0 := lv_entry ([.ref b]) (n := 18) (Nat.le_of_ble_eq_true rfl)
  rw [lg_entry_eq]
  generalize (lg_sl ([.ref b]) ++ List.replicate (18 - (lg_sl ([.ref b])).length) Slot.unset).toArray = ls at hl0 ⊢
  have hbA : ¬ va_A [] s.heap.size b := vaA0 b hbl
  obtain ⟨X, hXe⟩ : ∃ X : CX, X = (p, e, room_1, s, m, #[Value.ref b], below, meth, c) := ⟨_, rfl⟩
  obtain ⟨M, hMe⟩ : ∃ M : MX, M = ([], lw_Z below #[Value.ref b] s) := ⟨_, rfl⟩
  have K : KX l γ X M ⟨RL, meth.name, ""⟩ cL_law RL 18 rmL (some .boolean) c.exceptionTable.toList := by
    subst hXe; subst hMe
    exact ⟨hx, hb, hml, hown, hG, hlocks, hK, hGL, hl, rfl, hr, rfl, rfl⟩
  have hX' : va_X b L xs (ks X) (ks X).heap := by subst hXe; exact hX
  have hbl' : b < (ks X).heap.size := by subst hXe; exact hbl
  have hbA' : ¬ Ax X M b := by subst hXe; subst hMe; exact hbA
  have hend : ∀ (cs ss : Nat) (w : va_W) (L : List (Option Value)), cs ≤ 205 → ss ≤ 2077 → V l γ X M w L cs ss 1181 [.int 1] := by
    intro cs ss w L h1 h2
    subst hXe; subst hMe
    exact law_end hx hb hr hlocks h1 h2
  have main : V l γ X M [] [some (.ref b), none, none, none, none, none, none, none, none, none, none, none, none, none, none, none, none, none] 0 0 0 [] := by
    clear hXe hMe
    refine r_newF (T := TX9) (ci := 9) 0 K (dk_of tL_law_0 0 rfl) w21 w22 w1 gwX9 tyX9_ok rfl rfl rfl (fun q1 => ?_)
    refine r_dup 3 K (dk_of tL_law_0 1 rfl) rfl ?_
    refine r_callI 4 [] [.ref q1] K (ct_X9_init hl) cs_L_53 ⟨rfl, rfl, rfl⟩ (dk_of tL_law_0 2 rfl) rfl rfl (Nat.le_of_ble_eq_true rfl) ⟨Nat.le_of_ble_eq_true rfl, Nat.le_of_ble_eq_true rfl⟩ (fun k9 w9 h9 => by cases h9.1) (fun v9 w9 h9 => ?_)
    obtain ⟨hv9, h, g, an, aq, ad, ap, rfl⟩ := h9
    cases hv9
    refine r_astore_n 7 1 [some (.ref b), some (.ref q1), none, none, none, none, none, none, none, none, none, none, none, none, none, none, none, none] K (dk_of tL_law_0 3 rfl) rfl rfl rfl (by decide) ?_
    refine r_iconst 8 (0 : Int32) K (dk_of tL_law_0 4 rfl) (by decide) ?_
    refine r_istore_n 9 2 [some (.ref b), some (.ref q1), some (.int 0), none, none, none, none, none, none, none, none, none, none, none, none, none, none, none] K (dk_of tL_law_0 5 rfl) rfl rfl rfl (by decide) ?_
    refine r_iconst 10 (0 : Int32) K (dk_of tL_law_0 6 rfl) (by decide) ?_
    refine r_istore_n 11 3 [some (.ref b), some (.ref q1), some (.int 0), some (.int 0), none, none, none, none, none, none, none, none, none, none, none, none, none, none] K (dk_of tL_law_0 7 rfl) rfl rfl rfl (by decide) ?_
    refine r_iconst 12 (0 : Int32) K (dk_of tL_law_0 8 rfl) (by decide) ?_
    refine r_istore 13 4 [some (.ref b), some (.ref q1), some (.int 0), some (.int 0), some (.int 0), none, none, none, none, none, none, none, none, none, none, none, none, none] K (dk_of tL_law_0 9 rfl) rfl rfl (by decide) ?_
    refine r_iconst 15 (0 : Int32) K (dk_of tL_law_0 10 rfl) (by decide) ?_
    refine r_istore 16 5 [some (.ref b), some (.ref q1), some (.int 0), some (.int 0), some (.int 0), some (.int (Int32.ofNat 0)), none, none, none, none, none, none, none, none, none, none, none, none] K (dk_of tL_law_0 11 rfl) rfl rfl (by decide) ?_
    show V l γ X M (wB γ h σI ++ (wB γ g σI ++ (wS q1 (h 0) (g 0) an aq (ad 0) (ap 0) ++ (wN an (h 0) νI ++ (wR aq (h 0) ++ (wD γ ad δI ++ (wP γ ap πI ++ ([])))))))) _ 60 947 18 []
    refine setup_loop hl K hL hX' hbl' hbA' hSs ?_ 6 0 σI rfl hS0
    intro σ hσ
    refine r_iconst 98 (0 : Int32) K (dk_of tL_law_0 52 rfl) (by decide) ?_
    refine r_istore 99 5 [some (.ref b), some (.ref q1), some (.int 0), some (.int 0), some (.int 0), some (.int (Int32.ofNat 0)), none, none, none, none, none, none, none, none, none, none, none, none] K (dk_of tL_law_0 53 rfl) rfl rfl (by decide) ?_
    refine act_loop hl K hL hX' hbl' hbA' hAs ?_ 30 0 (0, 0, 0, σ, σI, νI, δI, πI) rfl (hA0 σ hσ)
    intro z hz
    exact law_tail hl K hL hX' hbl' hbA' (hT z hz) hend
  subst hXe; subst hMe
  exact main s.heap [] ls hP hD hS (by rw [show (kc (p, e, room_1, s, m, #[Value.ref b], below, meth, c)).maxLocals = 18 from hml]; exact hl0)
