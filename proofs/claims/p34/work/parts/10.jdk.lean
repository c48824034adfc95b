section JDK
variable {l : Launch} {γ : Gd} {X : CX} {M : MX} {w w' : va_W} {L L' : List (Option Value)} {cs ss : Nat} {st rest : List Value} {y : MethodName} {cc : ByteArray} {own : String} {nL : Nat} {rm : Room} {ret : Option FieldType} {tb : List ExceptionTableEntry}
/-! Math.min -/
def iMin (x z : Int32) : Int32 := if z < x then z else x
def lMin (x z : Int64) : Int64 := if z < x then z else x
theorem jb {a b : Nat} {c : Bool} (h : (Nat.ble a b && c) = true) : a ≤ b ∧ c = true := ⟨Nat.le_of_ble_eq_true (Bool.and_eq_true_iff.mp h).1, (Bool.and_eq_true_iff.mp h).2⟩
theorem r_min (pc : Nat) (K : KX l γ X M y cc own nL rm ret tb) {ix : Nat} {x z : Int32} (h1 : Cond.methodLink own ix Lib.Math.min.name ∈ Gw) (h2 : Cond.static Lib.Math.min.name ∈ Gw) (h3 : Cond.initialized "java/lang/Math" ∈ Gw) (h4 : Cond.code Lib.Math.min.name Lib.Math.min.code 2 (some .int) ∈ Gw) (d : decode cc pc = .ok (.invokestatic ix, 3))
    (hr : (Nat.ble 1 rm.frames && (Nat.ble ((rest.map fun v => v.category).sum + 13) rm.locals && (Nat.ble cs rm.cells && Nat.ble ss rm.slots))) = true) (k : V l γ X M w L cs ss (pc + 3) (.int (iMin x z) :: rest)) : V l γ X M w L cs ss pc (.int z :: .int x :: rest) := by
  intro H locs ls hP hD hS hl
  have hR : kR X = rm := K.2.2.2.2.2.2.2.2.2.1
  have ht := K.2.2.2.2.1
  obtain ⟨r1, hr⟩ := jb hr
  obtain ⟨r2, hr⟩ := jb hr
  have r3 := Nat.le_of_ble_eq_true (Bool.and_eq_true_iff.mp hr).1
  have r4 := Nat.le_of_ble_eq_true (Bool.and_eq_true_iff.mp hr).2
  exact va_mmin K.1 K.2.1 hl.1.symm K.2.2.2.1 (ht _ h1) (ht _ h2) (ht _ h3) (ht _ h4) (by rw [hR]; exact r1) (by rw [hR]; exact r2) (by rw [hR]; exact r3) (by rw [hR]; exact r4) d (k H locs ls hP hD hS hl)
theorem r_minL (pc : Nat) (K : KX l γ X M y cc own nL rm ret tb) {ix : Nat} {x z : Int64} (h1 : Cond.methodLink own ix Lib.MathLoose.min_long.x ∈ Gw) (h2 : Cond.static Lib.MathLoose.min_long.x ∈ Gw) (h3 : Cond.initialized "java/lang/Math" ∈ Gw) (h4 : Cond.code Lib.MathLoose.min_long.x Lib.MathLoose.min_long.code 4 (some .long) ∈ Gw) (d : decode cc pc = .ok (.invokestatic ix, 3))
    (hr : (Nat.ble 1 rm.frames && (Nat.ble ((rest.map fun v => v.category).sum + 15) rm.locals && (Nat.ble cs rm.cells && Nat.ble ss rm.slots))) = true) (k : V l γ X M w L cs ss (pc + 3) (.long (lMin x z) :: rest)) : V l γ X M w L cs ss pc (.long z :: .long x :: rest) := by
  intro H locs ls hP hD hS hl
  have hR : kR X = rm := K.2.2.2.2.2.2.2.2.2.1
  have ht := K.2.2.2.2.1
  obtain ⟨r1, hr⟩ := jb hr
  obtain ⟨r2, hr⟩ := jb hr
  have r3 := Nat.le_of_ble_eq_true (Bool.and_eq_true_iff.mp hr).1
  have r4 := Nat.le_of_ble_eq_true (Bool.and_eq_true_iff.mp hr).2
  exact va_mmin_long K.1 K.2.1 hl.1.symm K.2.2.2.1 (ht _ h1) (ht _ h2) (ht _ h3) (ht _ h4) (by rw [hR]; exact r1) (by rw [hR]; exact r2) (by rw [hR]; exact r3) (by rw [hR]; exact r4) d (k H locs ls hP hD hS hl)
/-- System.arraycopy of int rows -/
theorem r_copy (pc q0 q1 : Nat) (K : KX l γ X M y cc own nL rm ret tb) {ix a0 a n0 n1 : Nat} {f g : Nat → Int32} {sp dp n : Int32} (h1 : Cond.methodLink own ix arraycopyName ∈ Gw) (h2 : Cond.native arraycopyName ∈ Gw) (h3 : Cond.static arraycopyName ∈ Gw) (h4 : Cond.initialized "java/lang/System" ∈ Gw) (d : decode cc pc = .ok (.invokestatic ix, 3))
    (he0 : w[q0]? = some (a0, .inl (γ.2.1.1, n0, .inl f))) (he1 : w[q1]? = some (a, .inl (γ.2.1.1, n1, .inl g))) (g1 : ¬ sp < 0) (g2 : ¬ dp < 0) (g3 : ¬ n < 0) (g4 : sp.toNatClampNeg + n.toNatClampNeg ≤ n0) (g5 : dp.toNatClampNeg + n.toNatClampNeg ≤ n1)
    (hw : w.set q1 (a, .inl (γ.2.1.1, n1, .inl (va_cpy f g sp.toNatClampNeg dp.toNatClampNeg n.toNatClampNeg))) = w') (hr : (Nat.ble 1 rm.frames && Nat.ble ((rest.map fun v => v.category).sum + (nativeFrameWords "java/lang/System" "arraycopy" 5 + 11)) rm.locals) = true)
    (k : V l γ X M w' L cs ss (pc + 3) rest) : V l γ X M w L cs ss pc (.int n :: .int dp :: .ref a :: .int sp :: .ref a0 :: rest) := by
  intro H locs ls hP hD hS hl
  have hR : kR X = rm := K.2.2.2.2.2.2.2.2.2.1
  have ht := K.2.2.2.2.1
  obtain ⟨r1, hr⟩ := jb hr
  have r2 := Nat.le_of_ble_eq_true hr
  exact va_copyi K.1 K.2.1 hl.1.symm K.2.2.2.1 (ht _ h1) (ht _ h2) (ht _ h3) (ht _ h4) K.2.2.2.2.2.2.1 hP hD hS q0 q1 0 0 he0 he1 rfl rfl rfl g1 g2 g3 g4 g5 (fun _ _ => rfl) (by rw [hR]; exact r1) (by rw [hR]; exact r2) d (fun H1 locs1 hP1 hD1 hS1 => k H1 locs1 ls (hw ▸ hP1) (hw ▸ hD1) hS1 hl)
/-! new objects -/
theorem r_new (pc : Nat) (K : KX l γ X M y cc own nL rm ret tb) {ix ci N : Nat} {C : String} {T : u_T} {tyT : Nat → FieldType} {fs : List Value} (d : decode cc pc = .ok (.new ix, 3)) (h1 : Cond.classLink own ix C ∈ Gw) (h2 : Cond.instantiable C N ∈ Gw) (h3 : Cond.initialized C ∈ Gw) (hin : ∀ w ∈ u_ws C T N, w ∈ Gw) (hty : ∀ k, k < N → parseFieldDescriptor (T k).2.2.1 = some (tyT k)) (hc : clX[ci]? = some (C, T, N)) (hfs : (List.range N).map (fun j => defaultValue (tyT j)) = fs)
    (hr : (Nat.ble (cs + 1) rm.cells && Nat.ble (ss + N) rm.slots) = true) (k : ∀ q : Nat, V l γ X M (w ++ [(q, .inr (ci, fs))]) L (cs + 1) (ss + N) (pc + 3) (.ref q :: st)) : V l γ X M w L cs ss pc st := by
  intro H locs ls hP hD hS hl
  have hR : kR X = rm := K.2.2.2.2.2.2.2.2.2.1
  have ht := K.2.2.2.2.1
  obtain ⟨r1, hr⟩ := jb hr
  have r2 := Nat.le_of_ble_eq_true hr
  refine va_new K.1 K.2.1 ht hin tyT hty K.2.2.2.1 (ht _ h1) (ht _ h2) (ht _ h3) K.2.2.2.2.2.2.1 hP hD hS (fun q hq => Or.inr hq) hc (fun j hj => ?_) (by rw [hR]; exact r1) (by rw [hR]; exact r2) d (fun q H1 hP1 hD1 hS1 => k q H1 locs ls hP1 hD1 hS1 hl)
  subst hfs
  simp [vp_V, hj]
theorem r_newa (pc : Nat) (K : KX l γ X M y cc own nL rm ret tb) {at9 : ArrayType} {n : Int32} {N ti : Nat} {cA : ClassId} {a0 : vp_A} {ty : FieldType} (d : decode cc pc = .ok (.newarray at9, 2)) (h1 : Cond.arrayClass (newarray.typeOf at9) ∈ Gw) (hty : newarray.typeOf at9 = ty) (hti : (tyG γ)[ti]? = some (cA, ty)) (hra : ∀ (U : State) (c1 c2 : ClassId), va_RA U c1 ty → va_RA U c2 ty → c1 = c2) (ha : ∀ c : ClassId, vp_cell c a0 = arrV c N (fun _ => defaultValue ty)) (hn : ¬ n < 0) (hN : n.toNatClampNeg = N) (hb : Nat.ble (N * componentBytes ty) 536870912 = true)
    (hr : (Nat.ble (cs + 1) rm.cells && Nat.ble (ss + N) rm.slots) = true) (k : ∀ q : Nat, V l γ X M (w ++ [(q, .inl (cA, a0))]) L (cs + 1) (ss + N) (pc + 2) (.ref q :: st)) : V l γ X M w L cs ss pc (.int n :: st) := by
  intro H locs ls hP hD hS hl
  have hR : kR X = rm := K.2.2.2.2.2.2.2.2.2.1
  have ht := K.2.2.2.2.1
  obtain ⟨r1, hr⟩ := jb hr
  have r2 := Nat.le_of_ble_eq_true hr
  refine va_newa K.1 K.2.1 (ht _ h1) hty K.2.2.2.2.2.2.1 hP hD hS (fun q hq => Or.inr hq) ha hn hN (Nat.le_of_ble_eq_true hb) (by rw [hR]; exact r1) (by rw [hR]; exact r2) d (fun q cB H1 hK1 hP1 hD1 hS1 => ?_)
  have e : cB = cA := by
    have k1 := (hK1.2 2 (cB, ty) rfl).2
    have hlt : ti < (tyG γ).length := (List.getElem?_eq_some_iff.mp hti).1
    have k2 := (hK1.2 ti (cA, ty) (by rw [List.getElem?_append_left hlt]; exact hti)).2
    exact hra _ _ _ k1 k2
  subst e
  exact k q H1 locs ls hP1 hD1 hS1 hl
theorem raI (U : State) (c1 c2 : ClassId) (h1 : va_RA U c1 .int) (h2 : va_RA U c2 .int) : c1 = c2 := Option.some.inj ((show U.vm.findClass _ = some c1 from h1).symm.trans h2)
theorem raZ (U : State) (c1 c2 : ClassId) (h1 : va_RA U c1 .boolean) (h2 : va_RA U c2 .boolean) : c1 = c2 := Option.some.inj ((show U.vm.findClass _ = some c1 from h1).symm.trans h2)
theorem raL (U : State) (c1 c2 : ClassId) (h1 : va_RA U c1 .long) (h2 : va_RA U c2 .long) : c1 = c2 := Option.some.inj ((show U.vm.findClass _ = some c1 from h1).symm.trans h2)
theorem r_oinit (pc : Nat) (K : KX l γ X M y cc own nL rm ret tb) {ix a : Nat} (d : decode cc pc = .ok (.invokespecial ix, 3)) (h1 : Cond.methodLink own ix objectInit ∈ Gw) (h2 : Cond.instanceMethod objectInit ∈ Gw) (h3 : Cond.code objectInit ⟨#[0xb1]⟩ 1 none ∈ Gw) (hr : (Nat.ble 1 rm.frames && Nat.ble ((st.map fun v => v.category).sum + 12) rm.locals) = true) (k : V l γ X M w L cs ss (pc + 3) st) : V l γ X M w L cs ss pc (.ref a :: st) := by
  intro H locs ls hP hD hS hl
  have hR : kR X = rm := K.2.2.2.2.2.2.2.2.2.1
  have ht := K.2.2.2.2.1
  obtain ⟨r1, hr⟩ := jb hr
  have r2 := Nat.le_of_ble_eq_true hr
  exact W.objInit K.1 K.2.1 K.2.2.2.1 (ht _ h1) (ht _ h2) (ht _ h3) rfl hl.1 rfl d (by rw [hR]; exact r1) (by rw [hR]; show 2 * 0 + _ + 12 ≤ _; omega) (k H locs ls hP hD hS hl)
/-! throws -/
def nms : List String := ["java/lang/RuntimeException", "java/lang/Exception"]
def ThrOk (k ik ic : Nat) : Prop := Cond.classLink RX9 ik (xn k) ∈ Gw ∧ Cond.initialized (xn k) ∈ Gw ∧ (∀ w ∈ vx_atS RX9 ic (xn k) nms, w ∈ Gw ∨ w ∈ nwL) ∧ Bundle.fit (xn k) = true
theorem nms_fit : ∀ n ∈ nms, Bundle.fit n = true := by decide +kernel
theorem ot_good {w : Cond} (h : w ∈ Gw) : vx_ot w = true := by
  have := (List.mem_filter.mp h).2
  simp [vx_ot, this]
theorem ot_nw {w : Cond} (h : w ∈ nwL) : vx_ot w = true := by
  have := nwL_ot w h
  simp [vx_ot, this]
theorem thr_pre {k ik ic : Nat} (K : KX l γ X M y cc RX9 nL rm ret tb) (hT : ThrOk k ik ic) : (∀ w ∈ vx_atS RX9 ic (xn k) nms, w.before (ka X) (ks X) = true) ∧ (∀ w ∈ Cond.classLink RX9 ik (xn k) :: Cond.initialized (xn k) :: vx_atS RX9 ic (xn k) nms, vx_ot w = true) := by
  obtain ⟨h1, h2, h3, h4⟩ := hT
  refine ⟨fun w hw => ?_, fun w hw => ?_⟩
  · rcases h3 w hw with h | h
    · exact K.2.2.2.2.1 w h
    · exact va_Nw.use (nwL_ot w h) (K.2.2.2.2.2.2.2.1.2.2.2.2.2.2.2.1 w h)
  · rcases List.mem_cons.mp hw with rfl | hw
    · exact ot_good h1
    · rcases List.mem_cons.mp hw with rfl | hw
      · exact ot_good h2
      · rcases h3 w hw with h | h
        · exact ot_good h
        · exact ot_nw h
theorem r_thr (pc i : Nat) (K : KX l γ X M y cc RX9 nL rm ret []) {P : Ro → va_W → Prop} {mc ms k ik ic is : Nat} {text : String} (hQ : HQ X M γ P mc ms) (hi : strs[i]? = some (is, text)) (hT : ThrOk k ik ic)
    (d0 : decode cc pc = .ok (.new ik, 3)) (d3 : decode cc (pc + 3) = .ok (.dup, 1)) (d4 : decode cc (pc + 4) = .ok (.ldc is, 2)) (d6 : decode cc (pc + 6) = .ok (.invokespecial ic, 3)) (d9 : decode cc (pc + 9) = .ok (.athrow, 1))
    (hr : (Nat.ble 6 rm.frames && Nat.ble ((st.map fun v => v.category).sum + 82) rm.locals) = true) (hc1 : cs + 1 ≤ rm.cells) (hs1 : ss + 6 ≤ rm.slots) (hc : cs + 1 ≤ mc) (hs : ss + 6 ≤ ms) (hp : P (.inr k) w) : V l γ X M w L cs ss pc st := by
  intro H locs ls hP hD hS hl
  rw [show M.2 = _ from hQ]
  have hR : kR X = rm := K.2.2.2.2.2.2.2.2.2.1
  have ht := K.2.2.2.2.1
  obtain ⟨r1, hr⟩ := jb hr
  have r2 := Nat.le_of_ble_eq_true hr
  obtain ⟨t1, t2⟩ := thr_pre K hT
  have hG := K.2.2.2.2.2.2.2.1
  refine vx_throwS (names := nms) K.1 K.2.1 K.2.2.2.2.2.2.2.2.1 K.2.2.2.1 hT.2.2.2 nms_fit (ht _ hT.1) (ht _ hT.2.1) (hG.2.2.2.2.2.2.1 i (is, text) hi) t1 t2 hG.1 hG.2.1 hS hl.1 d0 d3 d4 d6 d9 (fun x hx => ?_) (by rw [hR]; exact r1) (by rw [hR]; exact r2) (by rw [hR]; exact hc1) (by rw [hR]; exact hs1) K.2.2.2.2.2.1 (fun t hv hz hq => ⟨k, w, rfl, hp, hP.kept (fun j q hj => hq _ (hP j q hj).lt), hD, Nat.le_trans hS.1 hz, fun q h1 h2 => (hq q (Nat.lt_of_lt_of_le h1 hS.1)).trans (hS.2.1 q h1 h2)⟩) hS.2.2 hc hs
  rw [K.2.2.2.2.2.2.2.2.2.2.2.1] at hx
  cases hx
theorem r_thrW (pc i : Nat) (K : KX l γ X M y cc RX9 nL rm ret []) {P : Ro → va_W → Prop} {mc ms k ik ic is : Nat} {text : String} (hQ : HQ X M γ P mc ms) (hi : strs[i]? = some (is, text)) (hT : ThrOk k ik ic)
    (d0 : decode cc pc = .ok (.new ik, 3)) (d3 : decode cc (pc + 3) = .ok (.dup, 1)) (d4 : decode cc (pc + 4) = .ok (.ldc_w is, 3)) (d6 : decode cc (pc + 7) = .ok (.invokespecial ic, 3)) (d9 : decode cc (pc + 10) = .ok (.athrow, 1))
    (hr : (Nat.ble 6 rm.frames && Nat.ble ((st.map fun v => v.category).sum + 82) rm.locals) = true) (hc1 : cs + 1 ≤ rm.cells) (hs1 : ss + 6 ≤ rm.slots) (hc : cs + 1 ≤ mc) (hs : ss + 6 ≤ ms) (hp : P (.inr k) w) : V l γ X M w L cs ss pc st := by
  intro H locs ls hP hD hS hl
  rw [show M.2 = _ from hQ]
  have hR : kR X = rm := K.2.2.2.2.2.2.2.2.2.1
  have ht := K.2.2.2.2.1
  obtain ⟨r1, hr⟩ := jb hr
  have r2 := Nat.le_of_ble_eq_true hr
  obtain ⟨t1, t2⟩ := thr_pre K hT
  have hG := K.2.2.2.2.2.2.2.1
  refine vx_throwSW (names := nms) K.1 K.2.1 K.2.2.2.2.2.2.2.2.1 K.2.2.2.1 hT.2.2.2 nms_fit (ht _ hT.1) (ht _ hT.2.1) (hG.2.2.2.2.2.2.1 i (is, text) hi) t1 t2 hG.1 hG.2.1 hS hl.1 d0 d3 d4 d6 d9 (fun x hx => ?_) (by rw [hR]; exact r1) (by rw [hR]; exact r2) (by rw [hR]; exact hc1) (by rw [hR]; exact hs1) K.2.2.2.2.2.1 (fun t hv hz hq => ⟨k, w, rfl, hp, hP.kept (fun j q hj => hq _ (hP j q hj).lt), hD, Nat.le_trans hS.1 hz, fun q h1 h2 => (hq q (Nat.lt_of_lt_of_le h1 hS.1)).trans (hS.2.1 q h1 h2)⟩) hS.2.2 hc hs
  rw [K.2.2.2.2.2.2.2.2.2.2.2.1] at hx
  cases hx
/-! handlers -/
theorem r_catch (pc : Nat) {k : Nat} (K : KX l γ X M y cc own nL rm ret tb) (pre : List ExceptionTableEntry) (x : ExceptionTableEntry) (suf : List ExceptionTableEntry) (hsplit : tb = pre ++ x :: suf) (hpass : ∀ z ∈ pre, z.catchType ≠ 0 ∧ ∃ k2 : Nat, Cond.classLink own z.catchType (xn k2) ∈ Gw ∧ (xn k, xn k2) ∈ ncL) (hx : covers x pc = true) (h0 : x.catchType ≠ 0)
    (hlk : Cond.classLink own x.catchType (xn k) ∈ Gw) (hcast : Cond.castable (xn k) (xn k) ∈ nwL) (kk : ∀ q : Nat, V l γ X M w L cs ss x.handlerPc [.ref q]) : VX l γ X M w L cs ss pc st (xn k) := by
  intro H locs ls q ce hP hD hS hl hce hcv hcl
  have ht := K.2.2.2.2.1
  have hG := K.2.2.2.2.2.2.2.1
  exact vx_catch K.2.2.2.1 pre x suf (by rw [K.2.2.2.2.2.2.2.2.2.2.2.1]; exact hsplit) (fun z hz => by
    obtain ⟨e1, k2, e2, e3⟩ := hpass z hz
    exact Or.inr ⟨e1, xn k2, ht _ e2, hG.2.2.2.2.2.2.2.2 _ e3⟩) hx h0 (ht _ hlk) (va_Nw.use (nwL_ot _ hcast) (hG.2.2.2.2.2.2.2.1 _ hcast)) hce hcv hcl (kk q H locs ls hP hD hS hl)
end JDK
