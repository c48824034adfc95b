/-! THE CLAIM OUT OF ONE WALK OF THE LAW'S BODY. Your part is whole_start (and what it stands on); all else here is the same for every law, but numbers. -/
def R_law : String := "SlickboomLaw"
def lw_P (b : Addr) (xs : List Int32) (args : Array Value) (s : State) : Prop := args = #[.ref b] ∧ s.IntsAt b xs ∧ xs.length ≤ 2048 ∧ (Jvm.Cond.and given_1 narrow_1).before args s = true
def lw_Q (_ : Array Value) (s : State) (o : Outcome) (t : State) : Prop := o = .returned (some (.int 1)) ∧ Framed s o t [] 1124 9915
def lw_Z (below : List Frame) (a : Array Value) (s : State) : State → Prop := fun t => ∃ o, t.status = .running ∧ Ended t below o ∧ lw_Q a s o t
/-- the law's own end, with 1 on the stack, nothing written that was there before, its room as the claim has it -/
theorem lw_ret {p : Program} {l : Launch} {e : Env} {s : State} {m : MethodId} {below : List Frame} {meth : Method} {c : Code} {b : Nat} (hx : p.tables.exec = Jvm.exec) (hb : c.code = code) (hr : meth.sig.returnType = ret) (hlocks : meth.locks = false) {pc : Nat} {H : Heap} {ls : Array Slot} (hdg : decode code pc = .ok (.ireturn, 1)) : W p l e room_1 s m #[Value.ref b] below meth c H [] 1124 9915 (lw_Z below #[Value.ref b] s) (F0 m pc ls [.int 1]) := by
  intro T hT X
  obtain ⟨fs, hret, hrun, hended, hW, hframe⟩ := X.leave (v := some (.int 1)) (hlocks := hlocks) (fun h => by rw [hr] at h; cases h)
  have hmeth' : T.vm.method? m = some meth := X.method'
  refine ⟨T.setFrames fs, ?_, .returned (some (.int 1)), hrun, hended, rfl, ⟨_, rfl⟩, hW, hframe⟩
  jvm_step X.here [X.here.top, hx, hb, hdg, hmeth', hr, ret, narrow_b1]
  (try refine ⟨rfl, ?_⟩); (try refine ⟨rfl, ?_⟩)
  first | (intro acts; rw [hret _ acts rfl rfl rfl]) | rw [hret _ _ rfl rfl rfl]
  exact Steps.refl _
/-- what holds at the law's entry: the machine, the code, the tables' words (any of lw_tbl by 'hts w (by decide +kernel)'), the script of L ints xs at the cell b, what the Statement gives of the start (any of its parts by flat_of_before) -/
def lw_At (p : Program) (s : State) (m : MethodId) (meth : Method) (c : Code) (b L : Nat) (xs : Nat → Int32) : Prop :=
  p.tables.exec = Jvm.exec ∧ c.code = code ∧ meth.sig.returnType = ret ∧ c.maxLocals = 7 ∧ s.vm.findClass R_law = some m.cls ∧ (∀ w ∈ lw_tbl, w.before #[Value.ref b] s = true) ∧ va_X b L xs s s.heap ∧ b < s.heap.size ∧ meth.locks = false ∧ (Jvm.Cond.and given_1 narrow_1).before #[Value.ref b] s = true
abbrev lawW (γ : Gd) (h g : Nat → Nat) (as9 an aq : Nat) (ad ap : Nat → Nat) (au : Nat) (am : Nat → Nat) (r : va_W) (z : S7) : va_W := wB γ h z.1 ++ (wB γ g z.2.1 ++ (wS as9 (h 0) (g 0) an aq (ad 0) (ap 0) ++ (wN an (h 0) z.2.2.1 ++ (wR aq (h 0) ++ (wD γ ad z.2.2.2.1 ++ (wP γ ap z.2.2.2.2.1 ++ (wO γ au z.2.2.2.2.2.1 ++ (wM γ am z.2.2.2.2.2.2 ++ (r)))))))))
def LStep (op p1 p2 p3 : Int32) (z : S7) : Option S7 := if op = 0 then st_0 p1 p2 z.1 z.2.1 z.2.2.1 z.2.2.2.1 z.2.2.2.2.1 z.2.2.2.2.2.1 z.2.2.2.2.2.2 else (if op = 1 then st_1 p1 p2 z.1 z.2.1 z.2.2.1 z.2.2.2.1 z.2.2.2.2.1 z.2.2.2.2.2.1 z.2.2.2.2.2.2 else (if op = 2 then st_2 p1 p2 z.1 z.2.1 z.2.2.1 z.2.2.2.1 z.2.2.2.2.1 z.2.2.2.2.2.1 z.2.2.2.2.2.2 else (if op = 3 then st_3 p1 p2 z.1 z.2.1 z.2.2.1 z.2.2.2.1 z.2.2.2.2.1 z.2.2.2.2.2.1 z.2.2.2.2.2.2 else (if op = 4 then st_4 p1 p2 z.1 z.2.1 z.2.2.1 z.2.2.2.1 z.2.2.2.2.1 z.2.2.2.2.2.1 z.2.2.2.2.2.2 else (if op = 5 then st_5 p1 p2 p3 z.1 z.2.1 z.2.2.1 z.2.2.2.1 z.2.2.2.2.1 z.2.2.2.2.2.1 z.2.2.2.2.2.2 else (if op = 6 then st_6 p1 z.1 z.2.1 z.2.2.1 z.2.2.2.1 z.2.2.2.2.1 z.2.2.2.2.2.1 z.2.2.2.2.2.2 else (if op = 7 then st_7 p1 z.1 z.2.1 z.2.2.1 z.2.2.2.1 z.2.2.2.2.1 z.2.2.2.2.2.1 z.2.2.2.2.2.2 else (if op = 8 then st_8 p1 p2 z.1 z.2.1 z.2.2.1 z.2.2.2.1 z.2.2.2.2.1 z.2.2.2.2.2.1 z.2.2.2.2.2.2 else (if op = 9 then st_9 p1 p2 p3 z.1 z.2.1 z.2.2.1 z.2.2.2.1 z.2.2.2.2.1 z.2.2.2.2.2.1 z.2.2.2.2.2.2 else (if op = 10 then st_10 p1 p2 p3 z.1 z.2.1 z.2.2.1 z.2.2.2.1 z.2.2.2.2.1 z.2.2.2.2.2.1 z.2.2.2.2.2.2 else (if op = 11 then st_11 p1 p2 z.1 z.2.1 z.2.2.1 z.2.2.2.1 z.2.2.2.2.1 z.2.2.2.2.2.1 z.2.2.2.2.2.2 else (if op = 12 then st_12 p1 p2 z.1 z.2.1 z.2.2.1 z.2.2.2.1 z.2.2.2.2.1 z.2.2.2.2.2.1 z.2.2.2.2.2.2 else (if op = 13 then st_13 p1 z.1 z.2.1 z.2.2.1 z.2.2.2.1 z.2.2.2.2.1 z.2.2.2.2.2.1 z.2.2.2.2.2.2 else (if op = 14 then st_14 p1 z.1 z.2.1 z.2.2.1 z.2.2.2.1 z.2.2.2.2.1 z.2.2.2.2.2.1 z.2.2.2.2.2.2 else (if op = 15 then st_15 p1 p2 z.1 z.2.1 z.2.2.1 z.2.2.2.1 z.2.2.2.2.1 z.2.2.2.2.2.1 z.2.2.2.2.2.2 else (if op = 16 then st_16 p1 p2 z.1 z.2.1 z.2.2.1 z.2.2.2.1 z.2.2.2.2.1 z.2.2.2.2.2.1 z.2.2.2.2.2.2 else (if op = 17 then st_17 p1 p2 z.1 z.2.1 z.2.2.1 z.2.2.2.1 z.2.2.2.2.1 z.2.2.2.2.2.1 z.2.2.2.2.2.2 else (if op = 18 then st_18 p1 p2 p3 z.1 z.2.1 z.2.2.1 z.2.2.2.1 z.2.2.2.2.1 z.2.2.2.2.2.1 z.2.2.2.2.2.2 else (if op = 19 then st_19 p1 p2 z.1 z.2.1 z.2.2.1 z.2.2.2.1 z.2.2.2.2.1 z.2.2.2.2.2.1 z.2.2.2.2.2.2 else (if op = 20 then st_20 p1 p2 z.1 z.2.1 z.2.2.1 z.2.2.2.1 z.2.2.2.2.1 z.2.2.2.2.2.1 z.2.2.2.2.2.2 else (if op = 21 then st_21 p1 p2 z.1 z.2.1 z.2.2.1 z.2.2.2.1 z.2.2.2.2.1 z.2.2.2.2.2.1 z.2.2.2.2.2.2 else (if op = 22 then st_22 p1 p2 z.1 z.2.1 z.2.2.1 z.2.2.2.1 z.2.2.2.2.1 z.2.2.2.2.2.1 z.2.2.2.2.2.2 else (if op = 23 then st_23 p1 p2 p3 z.1 z.2.1 z.2.2.1 z.2.2.2.1 z.2.2.2.2.1 z.2.2.2.2.2.1 z.2.2.2.2.2.2 else (if op = 24 then st_24 p1 z.1 z.2.1 z.2.2.1 z.2.2.2.1 z.2.2.2.2.1 z.2.2.2.2.2.1 z.2.2.2.2.2.2 else (if op = 25 then st_25 p1 z.1 z.2.1 z.2.2.1 z.2.2.2.1 z.2.2.2.2.1 z.2.2.2.2.2.1 z.2.2.2.2.2.2 else (if op = 26 then st_26 p1 p2 z.1 z.2.1 z.2.2.1 z.2.2.2.1 z.2.2.2.2.1 z.2.2.2.2.2.1 z.2.2.2.2.2.2 else (if op = 27 then st_27 p1 p2 z.1 z.2.1 z.2.2.1 z.2.2.2.1 z.2.2.2.2.1 z.2.2.2.2.2.1 z.2.2.2.2.2.2 else (if op = 28 then st_28 p1 p2 z.1 z.2.1 z.2.2.1 z.2.2.2.1 z.2.2.2.2.1 z.2.2.2.2.2.1 z.2.2.2.2.2.2 else (if op = 29 then st_29 p1 z.1 z.2.1 z.2.2.1 z.2.2.2.1 z.2.2.2.2.1 z.2.2.2.2.2.1 z.2.2.2.2.2.2 else (if op = 30 then st_30 p1 z.1 z.2.1 z.2.2.1 z.2.2.2.1 z.2.2.2.2.1 z.2.2.2.2.2.1 z.2.2.2.2.2.2 else (some z)))))))))))))))))))))))))))))))
theorem r_wide {l : Launch} {γ : Gd} {X : CX} {M : MX} {w : va_W} {L : List (Option Value)} {cs ss cs2 ss2 pc : Nat} {st : List Value} (h1 : cs ≤ cs2) (h2 : ss ≤ ss2) (k : V l γ X M w L cs2 ss2 pc st) : V l γ X M w L cs ss pc st := fun H locs ls hP hD hS hl => W.widen h1 h2 (k H locs ls hP hD hS hl)
set_option maxHeartbeats 4000000 in
set_option maxRecDepth 100000 in
theorem law_iter {l : Launch} (hl : l.stackTraces = false) {γ : Gd} {h g : Nat → Nat} {as9 an aq : Nat} {ad ap : Nat → Nat} {au : Nat} {am : Nat → Nat} {r : va_W} {X : CX} {M : MX} {y : MethodName} {tb : List ExceptionTableEntry} {b n : Nat} {xs : Nat → Int32} (K : KX l γ X M y cL_law RL 7 rmL (some .boolean) tb) (hX : va_X b n xs (ks X) (ks X).heap) (hbl : b < (ks X).heap.size) (hbA : ¬ Ax X M b) {i : Int32} {cs ss : Nat} (h0 : ¬ (i < 0 ∨ n ≤ i.toNatClampNeg)) (h1 : ¬ (i + (1 : Int32) < 0 ∨ n ≤ (i + (1 : Int32)).toNatClampNeg)) (h2 : ¬ (i + (2 : Int32) < 0 ∨ n ≤ (i + (2 : Int32)).toNatClampNeg)) (h3 : ¬ (i + (3 : Int32) < 0 ∨ n ≤ (i + (3 : Int32)).toNatClampNeg)) (hcs : cs + 1 ≤ 1124) (hss : ss + 6 ≤ 9915) {z z9 : S7} (hR : some z9 = LStep (xs i.toNatClampNeg &&& 31) (xs (i + 1).toNatClampNeg) (xs (i + 2).toNatClampNeg) (xs (i + 3).toNatClampNeg) z)
    (kk : V l γ X M (lawW γ h g as9 an aq ad ap au am r z9) [some (.ref b), some (.ref as9), some (.ref (am 0)), some (.ref au), some (.int i), none, none] (cs + 1) (ss + 6) 2278 []) : V l γ X M (lawW γ h g as9 an aq ad ap au am r z) [some (.ref b), some (.ref as9), some (.ref (am 0)), some (.ref au), some (.int i), none, none] cs ss 32 [] := by
  unfold LStep at hR
  refine r_aload_n 32 0 K (dk_of tL_law_0 19 rfl) rfl rfl ?_
  refine r_iload 33 4 K (dk_of tL_law_0 20 rfl) rfl ?_
  refine r_sldN 35 K hX hbl hbA h0 rfl (dk_of tL_law_0 21 rfl) ?_
  refine r_bipush 36 (31 : Int32) K (dk_of tL_law_0 22 rfl) (by decide) ?_
  refine r_iand 38 K (dk_of tL_law_0 23 rfl) ?_
  generalize (xs i.toNatClampNeg &&& 31) = op at hR ⊢
  refine r_case hR (fun c0 hR => ?_) (fun c0 hR => ?_)
  · refine r_tswIn 39 176 K (v := 0) c0 (dk_of tL_law_0 24 rfl) (by decide) (by decide) rfl (by decide) ?_
    exact law_0 hl K hX hbl hbA h1 rfl h2 rfl hcs hss hR kk
  refine r_case hR (fun c1 hR => ?_) (fun c1 hR => ?_)
  · refine r_tswIn 39 244 K (v := 1) c1 (dk_of tL_law_0 24 rfl) (by decide) (by decide) rfl (by decide) ?_
    exact law_1 hl K hX hbl hbA h1 rfl h2 rfl hcs hss hR kk
  refine r_case hR (fun c2 hR => ?_) (fun c2 hR => ?_)
  · refine r_tswIn 39 312 K (v := 2) c2 (dk_of tL_law_0 24 rfl) (by decide) (by decide) rfl (by decide) ?_
    exact law_2 hl K hX hbl hbA h1 rfl h2 rfl hcs hss hR kk
  refine r_case hR (fun c3 hR => ?_) (fun c3 hR => ?_)
  · refine r_tswIn 39 380 K (v := 3) c3 (dk_of tL_law_0 24 rfl) (by decide) (by decide) rfl (by decide) ?_
    exact law_3 hl K hX hbl hbA h1 rfl h2 rfl hcs hss hR kk
  refine r_case hR (fun c4 hR => ?_) (fun c4 hR => ?_)
  · refine r_tswIn 39 448 K (v := 4) c4 (dk_of tL_law_0 24 rfl) (by decide) (by decide) rfl (by decide) ?_
    exact law_4 hl K hX hbl hbA h1 rfl h2 rfl hcs hss hR kk
  refine r_case hR (fun c5 hR => ?_) (fun c5 hR => ?_)
  · refine r_tswIn 39 516 K (v := 5) c5 (dk_of tL_law_0 24 rfl) (by decide) (by decide) rfl (by decide) ?_
    exact law_5 hl K hX hbl hbA h1 rfl h2 rfl h3 rfl hcs hss hR kk
  refine r_case hR (fun c6 hR => ?_) (fun c6 hR => ?_)
  · refine r_tswIn 39 596 K (v := 6) c6 (dk_of tL_law_0 24 rfl) (by decide) (by decide) rfl (by decide) ?_
    exact law_6 hl K hX hbl hbA h1 rfl hcs hss hR kk
  refine r_case hR (fun c7 hR => ?_) (fun c7 hR => ?_)
  · refine r_tswIn 39 652 K (v := 7) c7 (dk_of tL_law_0 24 rfl) (by decide) (by decide) rfl (by decide) ?_
    exact law_7 hl K hX hbl hbA h1 rfl hcs hss hR kk
  refine r_case hR (fun c8 hR => ?_) (fun c8 hR => ?_)
  · refine r_tswIn 39 708 K (v := 8) c8 (dk_of tL_law_0 24 rfl) (by decide) (by decide) rfl (by decide) ?_
    exact law_8 hl K hX hbl hbA h1 rfl h2 rfl hcs hss hR kk
  refine r_case hR (fun c9 hR => ?_) (fun c9 hR => ?_)
  · refine r_tswIn 39 776 K (v := 9) c9 (dk_of tL_law_0 24 rfl) (by decide) (by decide) rfl (by decide) ?_
    exact law_9 hl K hX hbl hbA h1 rfl h2 rfl h3 rfl hcs hss hR kk
  refine r_case hR (fun c10 hR => ?_) (fun c10 hR => ?_)
  · refine r_tswIn 39 856 K (v := 10) c10 (dk_of tL_law_0 24 rfl) (by decide) (by decide) rfl (by decide) ?_
    exact law_10 hl K hX hbl hbA h1 rfl h2 rfl h3 rfl hcs hss hR kk
  refine r_case hR (fun c11 hR => ?_) (fun c11 hR => ?_)
  · refine r_tswIn 39 936 K (v := 11) c11 (dk_of tL_law_0 24 rfl) (by decide) (by decide) rfl (by decide) ?_
    exact law_11 hl K hX hbl hbA h1 rfl h2 rfl hcs hss hR kk
  refine r_case hR (fun c12 hR => ?_) (fun c12 hR => ?_)
  · refine r_tswIn 39 1020 K (v := 12) c12 (dk_of tL_law_0 24 rfl) (by decide) (by decide) rfl (by decide) ?_
    exact law_12 hl K hX hbl hbA h1 rfl h2 rfl hcs hss hR kk
  refine r_case hR (fun c13 hR => ?_) (fun c13 hR => ?_)
  · refine r_tswIn 39 1088 K (v := 13) c13 (dk_of tL_law_0 24 rfl) (by decide) (by decide) rfl (by decide) ?_
    exact law_13 hl K hX hbl hbA h1 rfl hcs hss hR kk
  refine r_case hR (fun c14 hR => ?_) (fun c14 hR => ?_)
  · refine r_tswIn 39 1144 K (v := 14) c14 (dk_of tL_law_0 24 rfl) (by decide) (by decide) rfl (by decide) ?_
    exact law_14 hl K hX hbl hbA h1 rfl hcs hss hR kk
  refine r_case hR (fun c15 hR => ?_) (fun c15 hR => ?_)
  · refine r_tswIn 39 1207 K (v := 15) c15 (dk_of tL_law_0 24 rfl) (by decide) (by decide) rfl (by decide) ?_
    exact law_15 hl K hX hbl hbA h1 rfl h2 rfl hcs hss hR kk
  refine r_case hR (fun c16 hR => ?_) (fun c16 hR => ?_)
  · refine r_tswIn 39 1275 K (v := 16) c16 (dk_of tL_law_0 24 rfl) (by decide) (by decide) rfl (by decide) ?_
    exact law_16 hl K hX hbl hbA h1 rfl h2 rfl hcs hss hR kk
  refine r_case hR (fun c17 hR => ?_) (fun c17 hR => ?_)
  · refine r_tswIn 39 1343 K (v := 17) c17 (dk_of tL_law_0 24 rfl) (by decide) (by decide) rfl (by decide) ?_
    exact law_17 hl K hX hbl hbA h1 rfl h2 rfl hcs hss hR kk
  refine r_case hR (fun c18 hR => ?_) (fun c18 hR => ?_)
  · refine r_tswIn 39 1411 K (v := 18) c18 (dk_of tL_law_0 24 rfl) (by decide) (by decide) rfl (by decide) ?_
    exact law_18 hl K hX hbl hbA h1 rfl h2 rfl h3 rfl hcs hss hR kk
  refine r_case hR (fun c19 hR => ?_) (fun c19 hR => ?_)
  · refine r_tswIn 39 1491 K (v := 19) c19 (dk_of tL_law_0 24 rfl) (by decide) (by decide) rfl (by decide) ?_
    exact law_19 hl K hX hbl hbA h1 rfl h2 rfl hcs hss hR kk
  refine r_case hR (fun c20 hR => ?_) (fun c20 hR => ?_)
  · refine r_tswIn 39 1559 K (v := 20) c20 (dk_of tL_law_0 24 rfl) (by decide) (by decide) rfl (by decide) ?_
    exact law_20 hl K hX hbl hbA h1 rfl h2 rfl hcs hss hR kk
  refine r_case hR (fun c21 hR => ?_) (fun c21 hR => ?_)
  · refine r_tswIn 39 1627 K (v := 21) c21 (dk_of tL_law_0 24 rfl) (by decide) (by decide) rfl (by decide) ?_
    exact law_21 hl K hX hbl hbA h1 rfl h2 rfl hcs hss hR kk
  refine r_case hR (fun c22 hR => ?_) (fun c22 hR => ?_)
  · refine r_tswIn 39 1702 K (v := 22) c22 (dk_of tL_law_0 24 rfl) (by decide) (by decide) rfl (by decide) ?_
    exact law_22 hl K hX hbl hbA h1 rfl h2 rfl hcs hss hR kk
  refine r_case hR (fun c23 hR => ?_) (fun c23 hR => ?_)
  · refine r_tswIn 39 1770 K (v := 23) c23 (dk_of tL_law_0 24 rfl) (by decide) (by decide) rfl (by decide) ?_
    exact law_23 hl K hX hbl hbA h1 rfl h2 rfl h3 rfl hcs hss hR kk
  refine r_case hR (fun c24 hR => ?_) (fun c24 hR => ?_)
  · refine r_tswIn 39 1850 K (v := 24) c24 (dk_of tL_law_0 24 rfl) (by decide) (by decide) rfl (by decide) ?_
    exact law_24 hl K hX hbl hbA h1 rfl hcs hss hR kk
  refine r_case hR (fun c25 hR => ?_) (fun c25 hR => ?_)
  · refine r_tswIn 39 1906 K (v := 25) c25 (dk_of tL_law_0 24 rfl) (by decide) (by decide) rfl (by decide) ?_
    exact law_25 hl K hX hbl hbA h1 rfl hcs hss hR kk
  refine r_case hR (fun c26 hR => ?_) (fun c26 hR => ?_)
  · refine r_tswIn 39 1962 K (v := 26) c26 (dk_of tL_law_0 24 rfl) (by decide) (by decide) rfl (by decide) ?_
    exact law_26 hl K hX hbl hbA h1 rfl h2 rfl hcs hss hR kk
  refine r_case hR (fun c27 hR => ?_) (fun c27 hR => ?_)
  · refine r_tswIn 39 2030 K (v := 27) c27 (dk_of tL_law_0 24 rfl) (by decide) (by decide) rfl (by decide) ?_
    exact law_27 hl K hX hbl hbA h1 rfl h2 rfl hcs hss hR kk
  refine r_case hR (fun c28 hR => ?_) (fun c28 hR => ?_)
  · refine r_tswIn 39 2098 K (v := 28) c28 (dk_of tL_law_0 24 rfl) (by decide) (by decide) rfl (by decide) ?_
    exact law_28 hl K hX hbl hbA h1 rfl h2 rfl hcs hss hR kk
  refine r_case hR (fun c29 hR => ?_) (fun c29 hR => ?_)
  · refine r_tswIn 39 2166 K (v := 29) c29 (dk_of tL_law_0 24 rfl) (by decide) (by decide) rfl (by decide) ?_
    exact law_29 hl K hX hbl hbA h1 rfl hcs hss hR kk
  refine r_case hR (fun c30 hR => ?_) (fun c30 hR => ?_)
  · refine r_tswIn 39 2222 K (v := 30) c30 (dk_of tL_law_0 24 rfl) (by decide) (by decide) rfl (by decide) ?_
    exact law_30 hl K hX hbl hbA h1 rfl hcs hss hR kk
  cases hR
  refine r_tswOut 39 2278 K (dk_of tL_law_0 24 rfl) (by have e0 := i32_ne (0) c0 (by decide); have e1 := i32_ne (1) c1 (by decide); have e2 := i32_ne (2) c2 (by decide); have e3 := i32_ne (3) c3 (by decide); have e4 := i32_ne (4) c4 (by decide); have e5 := i32_ne (5) c5 (by decide); have e6 := i32_ne (6) c6 (by decide); have e7 := i32_ne (7) c7 (by decide); have e8 := i32_ne (8) c8 (by decide); have e9 := i32_ne (9) c9 (by decide); have e10 := i32_ne (10) c10 (by decide); have e11 := i32_ne (11) c11 (by decide); have e12 := i32_ne (12) c12 (by decide); have e13 := i32_ne (13) c13 (by decide); have e14 := i32_ne (14) c14 (by decide); have e15 := i32_ne (15) c15 (by decide); have e16 := i32_ne (16) c16 (by decide); have e17 := i32_ne (17) c17 (by decide); have e18 := i32_ne (18) c18 (by decide); have e19 := i32_ne (19) c19 (by decide); have e20 := i32_ne (20) c20 (by decide); have e21 := i32_ne (21) c21 (by decide); have e22 := i32_ne (22) c22 (by decide); have e23 := i32_ne (23) c23 (by decide); have e24 := i32_ne (24) c24 (by decide); have e25 := i32_ne (25) c25 (by decide); have e26 := i32_ne (26) c26 (by decide); have e27 := i32_ne (27) c27 (by decide); have e28 := i32_ne (28) c28 (by decide); have e29 := i32_ne (29) c29 (by decide); have e30 := i32_ne (30) c30 (by decide); omega) (by decide) ?_
  exact r_wide (Nat.le_succ _) (Nat.le_add_right _ 6) kk
theorem kI_in : ∀ k : Nat, k < 2100 → (Int32.ofNat k).toInt = (k : Int) ∧ ¬ Int32.ofNat k < 0 ∧ (Int32.ofNat k).toNatClampNeg = k := by decide +kernel
theorem kI_len : ∀ k : Nat, k < 2100 → (Int32.ofNat k - 4).toInt = (k : Int) - 4 := by decide +kernel
theorem kI_add (a b : Nat) : Int32.ofNat a + Int32.ofNat b = Int32.ofNat (a + b) := (Int32.ofNat_add a b).symm
theorem kI_rng {n k : Nat} (hk : k < n) (hn : n ≤ 2048) : ¬ (Int32.ofNat k < 0 ∨ n ≤ (Int32.ofNat k).toNatClampNeg) := by
  obtain ⟨-, h1, h2⟩ := kI_in k (by omega)
  rintro (h | h)
  · exact h1 h
  · omega
set_option maxHeartbeats 4000000 in
set_option maxRecDepth 100000 in
theorem law_loop {l : Launch} (hl : l.stackTraces = false) {γ : Gd} {h g : Nat → Nat} {as9 an aq : Nat} {ad ap : Nat → Nat} {au : Nat} {am : Nat → Nat} {r : va_W} {X : CX} {M : MX} {y : MethodName} {tb : List ExceptionTableEntry} {b n : Nat} {xs : Nat → Int32} (K : KX l γ X M y cL_law RL 7 rmL (some .boolean) tb) (hX : va_X b n xs (ks X) (ks X).heap) (hbl : b < (ks X).heap.size) (hbA : ¬ Ax X M b) (hn : n ≤ 2048) {Rel : S7 → Prop} (hstep : ∀ (op p1 p2 p3 : Int32) (z : S7), Rel z → ∃ z9, LStep op p1 p2 p3 z = some z9 ∧ Rel z9)
    (hend : ∀ (cs ss : Nat) (w : va_W) (L : List (Option Value)), cs ≤ 1124 → ss ≤ 9915 → V l γ X M w L cs ss 2285 [.int 1]) :
    ∀ (m j : Nat) (z : S7), m + j = 513 → j ≤ 512 → Rel z → V l γ X M (lawW γ h g as9 an aq ad ap au am r z) [some (.ref b), some (.ref as9), some (.ref (am 0)), some (.ref au), some (.int (Int32.ofNat (4 * j))), none, none] (79 + j) (1597 + 6 * j) 23 [] := by
  intro m
  induction m with
  | zero => intro j z h1 h2; omega
  | succ m ih =>
    intro j z h1 h2 hz
    refine r_iload 23 4 K (dk_of tL_law_0 13 rfl) rfl ?_
    refine r_aload_n 25 0 K (dk_of tL_law_0 14 rfl) rfl rfl ?_
    refine r_slen 26 K hX hbl hbA (dk_of tL_law_0 15 rfl) ?_
    refine r_iconst 27 (4 : Int32) K (dk_of tL_law_0 16 rfl) (by decide) ?_
    refine r_isub 28 K (dk_of tL_law_0 17 rfl) ?_
    by_cases hc : Int32.ofNat n - 4 < Int32.ofNat (4 * j)
    · refine r_ic_gt 29 2284 K (u := ()) (A := some ()) (B := none) (dk_of tL_law_0 18 rfl) (by decide) (if_pos hc).symm (fun _ => ?_) (fun hR => nn_ hR)
      refine r_iconst 2284 (1 : Int32) K (dk_of tL_law_14 6 rfl) (by decide) ?_
      exact hend _ _ _ _ (by omega) (by omega)
    · refine r_ic_gt 29 2284 K (u := ()) (A := none) (B := some ()) (dk_of tL_law_0 18 rfl) (by decide) (if_neg hc).symm (fun hR => nn_ hR) (fun _ => ?_)
      have hb : 4 * j + 4 ≤ n := by
        rw [Int32.lt_iff_toInt_lt, kI_len n (by omega), (kI_in (4 * j) (by omega)).1] at hc
        omega
      obtain ⟨z9, hz9, hr9⟩ := hstep (xs (Int32.ofNat (4 * j)).toNatClampNeg &&& 31) (xs (Int32.ofNat (4 * j) + 1).toNatClampNeg) (xs (Int32.ofNat (4 * j) + 2).toNatClampNeg) (xs (Int32.ofNat (4 * j) + 3).toNatClampNeg) z hz
      refine law_iter hl K hX hbl hbA (kI_rng (by omega) hn) (by rw [show (1 : Int32) = Int32.ofNat 1 from rfl, kI_add]; exact kI_rng (by omega) hn) (by rw [show (2 : Int32) = Int32.ofNat 2 from rfl, kI_add]; exact kI_rng (by omega) hn) (by rw [show (3 : Int32) = Int32.ofNat 3 from rfl, kI_add]; exact kI_rng (by omega) hn) (by omega) (by omega) hz9.symm ?_
      refine r_iinc 2278 4 (Int32.ofNat (4 * (j + 1))) [some (.ref b), some (.ref as9), some (.ref (am 0)), some (.ref au), some (.int (Int32.ofNat (4 * (j + 1)))), none, none] K (dk_of tL_law_14 4 rfl) rfl (by rw [show Int32.ofInt 4 = Int32.ofNat 4 from rfl, kI_add]; congr 1) rfl rfl (by decide) ?_
      refine r_goto 2281 23 K (dk_of tL_law_14 5 rfl) (by decide) ?_
      exact ih (j + 1) z9 (by omega) (by omega) hr9
