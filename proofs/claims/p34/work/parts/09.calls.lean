section CLS
variable {l : Launch} {γ : Gd} {X : CX} {M : MX} {w w' : va_W} {L L' : List (Option Value)} {cs ss : Nat} {st rest : List Value} {y : MethodName} {cc : ByteArray} {own : String} {nL : Nat} {rm : Room} {ret : Option FieldType} {tb : List ExceptionTableEntry}
/-! returns -/
theorem HQ.end_ {P : Ro → va_W → Prop} {mc ms : Nat} {v : Option Value} (h : HQ X M γ P mc ms) (hp : P (.inl v) w) {H : Heap} {locs : List Loc} (hP : va_P γ.1 clX w H) (hD : va_D (Ax X M) w) (hS : va_S (Ax X M) (ks X).heap H locs) :
    ∀ t : State, t.heap = H → (ks X).WarmedH t.vm → QcX γ M.1 (ks X).heap.size P (ka X) (ks X) (.returned v) t := fun t ht hW => ⟨v, w, rfl, hp, by rw [ht]; exact hP, hD, hS.F ht⟩
theorem r_iret (pc : Nat) (K : KX l γ X M y cc own nL rm (some .int) tb) {P : Ro → va_W → Prop} {mc ms : Nat} {x : Int32} (hQ : HQ X M γ P mc ms) (d : decode cc pc = .ok (.ireturn, 1)) (hc : cs ≤ mc) (hs : ss ≤ ms) (hp : P (.inl (some (.int x))) w) : V l γ X M w L cs ss pc [.int x] := by
  intro H locs ls hP hD hS hl
  rw [show M.2 = _ from hQ]
  exact vx_ret (W.widen hc hs (W.iret (v := x) K.1 K.2.1 K.2.2.2.2.2.2.2.2.2.2.1 (hQ.end_ hp hP hD hS) hS.2.2 d K.2.2.2.2.2.1))
theorem r_zret (pc : Nat) (K : KX l γ X M y cc own nL rm (some .boolean) tb) {P : Ro → va_W → Prop} {mc ms : Nat} {x : Int32} (hQ : HQ X M γ P mc ms) (d : decode cc pc = .ok (.ireturn, 1)) (hn : narrow .boolean (.int x) = .int x) (hc : cs ≤ mc) (hs : ss ≤ ms) (hp : P (.inl (some (.int x))) w) : V l γ X M w L cs ss pc [.int x] := by
  intro H locs ls hP hD hS hl
  rw [show M.2 = _ from hQ]
  exact vx_ret (W.widen hc hs (W.zret (v := x) K.1 K.2.1 K.2.2.2.2.2.2.2.2.2.2.1 hn (hQ.end_ hp hP hD hS) hS.2.2 d K.2.2.2.2.2.1))
theorem r_lret (pc : Nat) (K : KX l γ X M y cc own nL rm (some .long) tb) {P : Ro → va_W → Prop} {mc ms : Nat} {x : Int64} (hQ : HQ X M γ P mc ms) (d : decode cc pc = .ok (.lreturn, 1)) (hc : cs ≤ mc) (hs : ss ≤ ms) (hp : P (.inl (some (.long x))) w) : V l γ X M w L cs ss pc [.long x] := by
  intro H locs ls hP hD hS hl
  rw [show M.2 = _ from hQ]
  exact vx_ret (W.widen hc hs (W.lret (v := x) K.1 K.2.1 K.2.2.2.2.2.2.2.2.2.2.1 (hQ.end_ hp hP hD hS) hS.2.2 d K.2.2.2.2.2.1))
theorem r_vret (pc : Nat) (K : KX l γ X M y cc own nL rm none tb) {P : Ro → va_W → Prop} {mc ms : Nat} (hQ : HQ X M γ P mc ms) (d : decode cc pc = .ok (.return_, 1)) (hc : cs ≤ mc) (hs : ss ≤ ms) (hp : P (.inl none) w) : V l γ X M w L cs ss pc [] := by
  intro H locs ls hP hD hS hl
  rw [show M.2 = _ from hQ]
  exact vx_ret (W.widen hc hs (W.vret K.1 K.2.1 K.2.2.2.2.2.2.2.2.2.2.1 (hQ.end_ hp hP hD hS) hS.2.2 d K.2.2.2.2.2.1))
theorem zb0 : narrow .boolean (.int 0) = .int 0 := rfl
theorem zb1 : narrow .boolean (.int 1) = .int 1 := rfl
theorem r_zretR (pc : Nat) (K : KX l γ X M y cc own nL rm (some .boolean) tb) {P : Ro → va_W → Prop} {mc ms : Nat} {x : Int32} {α : Type} {u : α} {A : Option α} (hQ : HQ X M γ P mc ms) (d : decode cc pc = .ok (.ireturn, 1)) (hc : cs ≤ mc) (hs : ss ≤ ms) (hR : some u = if x = 0 ∨ x = 1 then A else none) (hp : some u = A → P (.inl (some (.int x))) w) : V l γ X M w L cs ss pc [.int x] := by
  by_cases h : x = 0 ∨ x = 1
  · rw [if_pos h] at hR
    refine r_zret pc K hQ d ?_ hc hs (hp hR)
    rcases h with rfl | rfl
    · exact zb0
    · exact zb1
  · rw [if_neg h] at hR; cases hR
/-! calls -/
theorem gw_gi {c0 c1 : Cond} (h : c1 ∈ Gw) : GoodIn (c0 :: Gw) (c1 :: Gw) := by
  intro w hw
  rcases List.mem_cons.mp hw with rfl | hw
  · exact ⟨List.mem_cons_of_mem _ h, gw_good h⟩
  · exact ⟨List.mem_cons_of_mem _ hw, gw_good hw⟩
theorem gw_pay {c1 : Cond} (h : c1 ∈ Gw) {a : Array Value} {s : State} (hts : ∀ w ∈ Gw, w.before a s = true) : ∀ w ∈ c1 :: Gw, ∀ (a' : Array Value) (U : State), s.WarmedH U.vm → w.before a' U = true := by
  intro w hw a' U hW
  rcases List.mem_cons.mp hw with rfl | hw
  · exact word_at hW (gw_good h) (hts _ h)
  · exact word_at hW (gw_good hw) (hts _ hw)
/-- what a call's site has of the tables -/
def CsV (own : String) (ix : Nat) (z : MethodName) (cz : ByteArray) (nz : Nat) (rz : Option FieldType) (n : Nat) : Prop :=
  Cond.methodLink own ix z ∈ Gw ∧ Cond.instanceMethod z ∈ Gw ∧ Cond.selects z.cls z z ∈ Gw ∧ Cond.initialized z.cls ∈ Gw ∧ Cond.code z cz nz rz ∈ Gw ∧ (z.cls ≠ "java/lang/invoke/MethodHandle" ∧ z.cls ≠ "java/lang/invoke/VarHandle" ∧ (parseMethodDescriptor z.desc).map (fun d => d.parameters.length) = some n)
def CsI (own : String) (ix : Nat) (z : MethodName) (cz : ByteArray) (nz : Nat) (n : Nat) : Prop :=
  Cond.methodLink own ix z ∈ Gw ∧ Cond.instanceMethod z ∈ Gw ∧ z.name = "<init>" ∧ Cond.initialized z.cls ∈ Gw ∧ Cond.code z cz nz none ∈ Gw ∧ (z.cls ≠ "java/lang/invoke/MethodHandle" ∧ z.cls ≠ "java/lang/invoke/VarHandle" ∧ (parseMethodDescriptor z.desc).map (fun d => d.parameters.length) = some n)
def CsS (own : String) (ix : Nat) (z : MethodName) (cz : ByteArray) (nz : Nat) (rz : Option FieldType) (n : Nat) : Prop :=
  Cond.methodLink own ix z ∈ Gw ∧ Cond.static z ∈ Gw ∧ Cond.initialized z.cls ∈ Gw ∧ Cond.code z cz nz rz ∈ Gw ∧ (z.cls ≠ "java/lang/invoke/MethodHandle" ∧ z.cls ≠ "java/lang/invoke/VarHandle" ∧ (parseMethodDescriptor z.desc).map (fun d => d.parameters.length) = some n)
theorem cs_par {z : MethodName} {n : Nat} (h : (parseMethodDescriptor z.desc).map (fun d => d.parameters.length) = some n) : ∀ sig, parseMethodDescriptor z.desc = some sig → n = sig.parameters.length := by
  intro sig hs
  rw [hs] at h
  exact (Option.some.inj h).symm
/-- the room that a callee needs -/
abbrev rmOk (rm rz : Room) (nz mc ms : Nat) : Prop := (Nat.ble (rz.frames + 1) rm.frames && Nat.ble (8 + (nz + 11) + rz.locals) rm.locals) = true ∧ rz.cells = mc ∧ rz.slots = ms
theorem rmOk.use {rm rz : Room} {nz mc ms : Nat} (h : rmOk rm rz nz mc ms) : rz.frames + 1 ≤ rm.frames ∧ 8 + (nz + 11) + rz.locals ≤ rm.locals ∧ rz.cells = mc ∧ rz.slots = ms :=
  ⟨Nat.le_of_ble_eq_true (Bool.and_eq_true_iff.mp h.1).1, Nat.le_of_ble_eq_true (Bool.and_eq_true_iff.mp h.1).2, h.2⟩
theorem cs_B {own : String} {ix : Nat} {z : MethodName} {cz : ByteArray} {nz n mc ms : Nat} {rz : Option FieldType} {rmz : Room} (K : KX l γ X M y cc own nL rm ret tb) (h1 : Cond.methodLink own ix z ∈ Gw) (h4 : Cond.initialized z.cls ∈ Gw) (h5 : Cond.code z cz nz rz ∈ Gw) (h6 : z.cls ≠ "java/lang/invoke/MethodHandle" ∧ z.cls ≠ "java/lang/invoke/VarHandle" ∧ (parseMethodDescriptor z.desc).map (fun d => d.parameters.length) = some n) (hr : rmOk rm rmz nz mc ms) :
    CallB (kR X) (ks X) (ka X) own ix z cz nz rz (Cond.code z cz nz rz :: Gw) rmz mc ms n := by
  obtain ⟨r1, r2, r3, r4⟩ := hr.use
  have ht := K.2.2.2.2.1
  have hR : kR X = rm := K.2.2.2.2.2.2.2.2.2.1
  exact ⟨r3, r4, by rw [hR]; exact r1, by rw [hR]; exact r2, gw_pay h5 ht, List.mem_cons_self, ht _ h5, ht _ h4, ⟨h6.1, h6.2.1⟩, cs_par h6.2.2, ht _ h1⟩
abbrev kFix (X : CX) (cc : ByteArray) (nL : Nat) (own : String) : Prop := CallFix (kp X) (km X) (kc X) cc nL (ks X) (ka X) Gw own
theorem cs_fix (K : KX l γ X M y cc own nL rm ret tb) : kFix X cc nL own := ⟨K.1, K.2.1, K.2.2.1, K.2.2.2.1, K.2.2.2.2.1⟩
/-- the start of the callee -/
theorem cs_pre (K : KX l γ X M y cc own nL rm ret tb) {as : List Value} {H : Heap} {locs : List Loc} (hP : va_P γ.1 clX w H) (hD : va_D (Ax X M) w) (hS : va_S (Ax X M) (ks X).heap H locs) :
    ∀ U : State, U.heap = H → (ks X).WarmedH U.vm → PcX γ as w H.size as.toArray U := fun U hU hW =>
  ⟨rfl, by rw [hU], by rw [hU]; exact hP, va_K.moved hW.alike K.2.2.2.2.2.2.1, hD.self, (K.2.2.2.2.2.2.2.1).pass hW hS hU (fun q hq => by
    rcases hq with ⟨k, e, h⟩ | h
    · exact hD.2 k (q, e) h
    · exact Or.inr (Nat.le_trans hS.1 h))⟩
theorem cs_sub {H : Heap} {locs : List Loc} (hD : va_D (Ax X M) w) (hS : va_S (Ax X M) (ks X).heap H locs) : ∀ q, va_A w H.size q → Ax X M q := by
  intro q hq
  rcases hq with ⟨k, e, h⟩ | h
  · exact hD.2 k (q, e) h
  · exact Or.inr (Nat.le_trans hS.1 h)
/-- an exception goes up from pc -/
def VX (l : Launch) (γ : Gd) (X : CX) (M : MX) (w : va_W) (L : List (Option Value)) (cs ss pc : Nat) (st : List Value) (E : String) : Prop :=
  ∀ (H : Heap) (locs : List Loc) (ls : Array Slot) (q : Addr) (ce : Cell), va_P γ.1 clX w H → va_D (Ax X M) w → va_S (Ax X M) (ks X).heap H locs → lv_has ls (kc X).maxLocals (lvs 0 L) → H[q]? = some ce → ce.vm = .none → (ks X).vm.findClass E = some ce.cls →
    vx_W (kp X) l (ke X) (kR X) (ks X) (km X) (ka X) (kb X) (kt X) (kc X) H locs cs ss M.2 (F0 (km X) pc ls st) q
theorem V.ofRun {P : Ro → va_W → Prop} {mc ms pc : Nat} {a : Array Value} (hr : ∀ (H : Heap) (locs : List Loc) (ls : Array Slot), va_P γ.1 clX w H → va_D (Ax X M) w → va_S (Ax X M) (ks X).heap H locs → lv_has ls (kc X).maxLocals (lvs 0 L) → vx_Run (kp X) l (ke X) (kR X) (ks X) (km X) (ka X) (kb X) (kt X) (kc X) H locs cs ss mc ms (F0 (km X) pc ls st) rest (QcX γ w H.size P a) (XcX γ w H.size P) (va_A w H.size))
    (kx : ∀ (k : Nat) (w1 : va_W), P (.inr k) w1 → VX l γ X M w1 L (cs + mc) (ss + ms) pc rest (xn k))
    (kk : ∀ (v : Option Value) (w1 : va_W), P (.inl v) w1 → V l γ X M w1 L (cs + mc) (ss + ms) (pc + 3) (v.toList ++ rest)) : V l γ X M w L cs ss pc st := by
  intro H locs ls hP hD hS hl T hT XX
  have hsub := cs_sub (w := w) hD hS
  rcases hr H locs ls hP hD hS hl T hT XX with ⟨v, st₀, t, T', LL, h0, X', hL, e1, e2, ⟨v', w1, hv, hp, hP1, hD1, hF⟩, stp⟩ | ⟨q, st₀, t, T', LL, E, ce, h0, X', hL, e1, e2, ⟨k, w1, hE, hp, hP1, hD1, hF⟩, hce, hcv, hcl, stp⟩
  · cases hv
    obtain ⟨k1, k2, k3⟩ := vx_keep h0 e1 hS (fun q _ h => hsub q h) hsub hL hF
    obtain ⟨t2, a1, b1⟩ := kk v w1 hp T'.heap (locs ++ LL) ls (by rw [e1]; exact hP1) (hD1.weaken (fun _ q _ h => hsub q.1 h)) k3 hl T' rfl X'
    exact ⟨t2, stp t2 a1, b1⟩
  · obtain ⟨k1, k2, k3⟩ := vx_keep h0 e1 hS (fun q _ h => hsub q h) hsub hL hF
    subst hE
    obtain ⟨t2, a1, b1⟩ := kx k w1 hp T'.heap (locs ++ LL) ls q ce (by rw [e1]; exact hP1) (hD1.weaken (fun _ q _ h => hsub q.1 h)) k3 hl (by rw [e1]; exact hce) hcv hcl T' rfl X'
    exact ⟨t2, stp.trans a1, b1⟩
theorem ls_len {ls : Array Slot} (K : KX l γ X M y cc own nL rm ret tb) (hl : lv_has ls (kc X).maxLocals (lvs 0 L)) : ls.size = nL := hl.1.trans K.2.2.1
/-- a call of an instance method, returning or throwing -/
theorem r_callV (pc q0 : Nat) (As : List Value) (rest : List Value) (K : KX l γ X M y cc own nL rm ret tb) {P : Ro → va_W → Prop} {mc ms ix nz n a ci N : Nat} {z : MethodName} {cz : ByteArray} {rz : Option FieldType} {rmz : Room} {T : u_T} {fs : List Value}
    (hC : Ct l γ z (Cond.code z cz nz rz) rmz (.ref a :: As) w P mc ms) (cs9 : CsV own ix z cz nz rz n) (hr : rmOk rm rmz nz mc ms) (d : decode cc pc = .ok (.invokevirtual ix, 3))
    (he : w[q0]? = some (a, .inr (ci, fs))) (hc : clX[ci]? = some (z.cls, T, N)) (hn : As.length = n) (hst : st = As.reverse ++ .ref a :: rest) (hcat : (rest.map fun v => v.category).sum ≤ 8) (hf : cs + mc ≤ rm.cells ∧ ss + ms ≤ rm.slots)
    (kx : ∀ (k : Nat) (w1 : va_W), P (.inr k) w1 → VX l γ X M w1 L (cs + mc) (ss + ms) pc rest (xn k))
    (kk : ∀ (v : Option Value) (w1 : va_W), P (.inl v) w1 → V l γ X M w1 L (cs + mc) (ss + ms) (pc + 3) (v.toList ++ rest)) : V l γ X M w L cs ss pc st := by
  obtain ⟨h1, h2, h3, h4, h5, h6⟩ := cs9
  have hR : kR X = rm := K.2.2.2.2.2.2.2.2.2.1
  refine V.ofRun (P := P) (a := (Value.ref a :: As).toArray) (fun H locs ls hP hD hS hl => ?_) kx kk
  exact vx_runV (As := As) (rest := rest) (C := z.cls) (cs_fix K) (hC H.size) ⟨cs_B K h1 h4 h5 h6 hr, K.2.2.2.2.1 _ h2, K.2.2.2.2.1 _ h3⟩ ⟨PcX.blind, va_recv K.2.2.2.2.2.2.1 hP hc he, cs_pre K hP hD hS⟩ rfl hn (ls_len K hl) hst (lv_room hcat) d (by rw [hR]; exact hf)
theorem r_callI (pc : Nat) (As : List Value) (rest : List Value) (K : KX l γ X M y cc own nL rm ret tb) {P : Ro → va_W → Prop} {mc ms ix nz n a : Nat} {z : MethodName} {cz : ByteArray} {rmz : Room}
    (hC : Ct l γ z (Cond.code z cz nz none) rmz (.ref a :: As) w P mc ms) (cs9 : CsI own ix z cz nz n) (hr : rmOk rm rmz nz mc ms) (d : decode cc pc = .ok (.invokespecial ix, 3))
    (hn : As.length = n) (hst : st = As.reverse ++ .ref a :: rest) (hcat : (rest.map fun v => v.category).sum ≤ 8) (hf : cs + mc ≤ rm.cells ∧ ss + ms ≤ rm.slots)
    (kx : ∀ (k : Nat) (w1 : va_W), P (.inr k) w1 → VX l γ X M w1 L (cs + mc) (ss + ms) pc rest (xn k))
    (kk : ∀ (v : Option Value) (w1 : va_W), P (.inl v) w1 → V l γ X M w1 L (cs + mc) (ss + ms) (pc + 3) (v.toList ++ rest)) : V l γ X M w L cs ss pc st := by
  obtain ⟨h1, h2, h3, h4, h5, h6⟩ := cs9
  have hR : kR X = rm := K.2.2.2.2.2.2.2.2.2.1
  refine V.ofRun (P := P) (a := (Value.ref a :: As).toArray) (fun H locs ls hP hD hS hl => ?_) kx kk
  exact vx_runI (As := As) (rest := rest) (cs_fix K) (hC H.size) ⟨cs_B K h1 h4 h5 h6 hr, h3, K.2.2.2.2.1 _ h2⟩ ⟨PcX.blind, cs_pre K hP hD hS⟩ rfl hn (ls_len K hl) hst (lv_room hcat) d (by rw [hR]; exact hf)
theorem r_callS (pc : Nat) (As : List Value) (rest : List Value) (K : KX l γ X M y cc own nL rm ret tb) {P : Ro → va_W → Prop} {mc ms ix nz n : Nat} {z : MethodName} {cz : ByteArray} {rz : Option FieldType} {rmz : Room}
    (hC : Ct l γ z (Cond.code z cz nz rz) rmz As w P mc ms) (cs9 : CsS own ix z cz nz rz n) (hr : rmOk rm rmz nz mc ms) (d : decode cc pc = .ok (.invokestatic ix, 3))
    (hn : As.length = n) (hst : st = As.reverse ++ rest) (hcat : (rest.map fun v => v.category).sum ≤ 8) (hf : cs + mc ≤ rm.cells ∧ ss + ms ≤ rm.slots)
    (kx : ∀ (k : Nat) (w1 : va_W), P (.inr k) w1 → VX l γ X M w1 L (cs + mc) (ss + ms) pc rest (xn k))
    (kk : ∀ (v : Option Value) (w1 : va_W), P (.inl v) w1 → V l γ X M w1 L (cs + mc) (ss + ms) (pc + 3) (v.toList ++ rest)) : V l γ X M w L cs ss pc st := by
  obtain ⟨h1, h2, h4, h5, h6⟩ := cs9
  have hR : kR X = rm := K.2.2.2.2.2.2.2.2.2.1
  refine V.ofRun (P := P) (a := As.toArray) (fun H locs ls hP hD hS hl => ?_) kx kk
  exact vx_runS (As := As) (rest := rest) (cs_fix K) (hC H.size) ⟨cs_B K h1 h4 h5 h6 hr, K.2.2.2.2.1 _ h2⟩ ⟨PcX.blind, cs_pre K hP hD hS⟩ rfl hn (ls_len K hl) hst (lv_room hcat) d (by rw [hR]; exact hf)
/-- the end of a call whose outcome is known: it returns v and leaves w2 -/
abbrev Pr (v : Option Value) (w2 : va_W) : Ro → va_W → Prop := fun o w1 => o = .inl v ∧ w1 = w2
/-- .. it throws the exception k and leaves w2 -/
abbrev Px (k : Nat) (w2 : va_W) : Ro → va_W → Prop := fun o w1 => o = .inr k ∧ w1 = w2
theorem Pr.x {v : Option Value} {w2 : va_W} {G : Nat → va_W → Prop} : ∀ (k : Nat) (w1 : va_W), Pr v w2 (.inr k) w1 → G k w1 := fun _ _ h => by cases h.1
theorem Pr.k {v : Option Value} {w2 : va_W} {G : Option Value → va_W → Prop} (g : G v w2) : ∀ (v1 : Option Value) (w1 : va_W), Pr v w2 (.inl v1) w1 → G v1 w1 := fun _ _ h => by cases h.1; rw [h.2]; exact g
theorem Px.k {k : Nat} {w2 : va_W} {G : Option Value → va_W → Prop} : ∀ (v1 : Option Value) (w1 : va_W), Px k w2 (.inl v1) w1 → G v1 w1 := fun _ _ h => by cases h.1
theorem Px.x {k : Nat} {w2 : va_W} {G : Nat → va_W → Prop} (g : G k w2) : ∀ (k1 : Nat) (w1 : va_W), Px k w2 (.inr k1) w1 → G k1 w1 := fun _ _ h => by cases h.1; rw [h.2]; exact g
theorem rm00 {cs ss : Nat} (h : (Nat.ble cs rm.cells && Nat.ble ss rm.slots) = true) : cs + 0 ≤ rm.cells ∧ ss + 0 ≤ rm.slots := ⟨Nat.le_of_ble_eq_true (Bool.and_eq_true_iff.mp h).1, Nat.le_of_ble_eq_true (Bool.and_eq_true_iff.mp h).2⟩
/-- .. calls that return -/
theorem r_cV (pc q0 : Nat) (As : List Value) (rest : List Value) (v : Option Value) (w2 : va_W) (K : KX l γ X M y cc own nL rm ret tb) {ix nz n a ci N : Nat} {z : MethodName} {cz : ByteArray} {rz : Option FieldType} {rmz : Room} {T : u_T} {fs : List Value}
    (hC : Ct l γ z (Cond.code z cz nz rz) rmz (.ref a :: As) w (Pr v w2) 0 0) (cs9 : CsV own ix z cz nz rz n) (hr : rmOk rm rmz nz 0 0) (d : decode cc pc = .ok (.invokevirtual ix, 3))
    (he : w[q0]? = some (a, .inr (ci, fs))) (hc : clX[ci]? = some (z.cls, T, N)) (hn : As.length = n) (hst : st = As.reverse ++ .ref a :: rest) (hcat : Nat.ble (rest.map fun v => v.category).sum 8 = true) (hf : (Nat.ble cs rm.cells && Nat.ble ss rm.slots) = true)
    (kk : V l γ X M w2 L cs ss (pc + 3) (v.toList ++ rest)) : V l γ X M w L cs ss pc st :=
  r_callV pc q0 As rest K hC cs9 hr d he hc hn hst (Nat.le_of_ble_eq_true hcat) (rm00 hf) Pr.x (Pr.k kk)
theorem r_cS (pc : Nat) (As : List Value) (rest : List Value) (v : Option Value) (w2 : va_W) (K : KX l γ X M y cc own nL rm ret tb) {ix nz n : Nat} {z : MethodName} {cz : ByteArray} {rz : Option FieldType} {rmz : Room}
    (hC : Ct l γ z (Cond.code z cz nz rz) rmz As w (Pr v w2) 0 0) (cs9 : CsS own ix z cz nz rz n) (hr : rmOk rm rmz nz 0 0) (d : decode cc pc = .ok (.invokestatic ix, 3))
    (hn : As.length = n) (hst : st = As.reverse ++ rest) (hcat : Nat.ble (rest.map fun v => v.category).sum 8 = true) (hf : (Nat.ble cs rm.cells && Nat.ble ss rm.slots) = true)
    (kk : V l γ X M w2 L cs ss (pc + 3) (v.toList ++ rest)) : V l γ X M w L cs ss pc st :=
  r_callS pc As rest K hC cs9 hr d hn hst (Nat.le_of_ble_eq_true hcat) (rm00 hf) Pr.x (Pr.k kk)
/-- .. calls that throw: it goes up -/
theorem r_xV (pc q0 : Nat) (As : List Value) (rest : List Value) (k : Nat) (w2 : va_W) (K : KX l γ X M y cc own nL rm ret tb) {mc ms ix nz n a ci N : Nat} {z : MethodName} {cz : ByteArray} {rz : Option FieldType} {rmz : Room} {T : u_T} {fs : List Value}
    (hC : Ct l γ z (Cond.code z cz nz rz) rmz (.ref a :: As) w (Px k w2) mc ms) (cs9 : CsV own ix z cz nz rz n) (hr : rmOk rm rmz nz mc ms) (d : decode cc pc = .ok (.invokevirtual ix, 3))
    (he : w[q0]? = some (a, .inr (ci, fs))) (hc : clX[ci]? = some (z.cls, T, N)) (hn : As.length = n) (hst : st = As.reverse ++ .ref a :: rest) (hcat : Nat.ble (rest.map fun v => v.category).sum 8 = true) (hf : cs + mc ≤ rm.cells ∧ ss + ms ≤ rm.slots)
    (kx : VX l γ X M w2 L (cs + mc) (ss + ms) pc rest (xn k)) : V l γ X M w L cs ss pc st :=
  r_callV pc q0 As rest K hC cs9 hr d he hc hn hst (Nat.le_of_ble_eq_true hcat) hf (Px.x kx) Px.k
theorem r_xS (pc : Nat) (As : List Value) (rest : List Value) (k : Nat) (w2 : va_W) (K : KX l γ X M y cc own nL rm ret tb) {mc ms ix nz n : Nat} {z : MethodName} {cz : ByteArray} {rz : Option FieldType} {rmz : Room}
    (hC : Ct l γ z (Cond.code z cz nz rz) rmz As w (Px k w2) mc ms) (cs9 : CsS own ix z cz nz rz n) (hr : rmOk rm rmz nz mc ms) (d : decode cc pc = .ok (.invokestatic ix, 3))
    (hn : As.length = n) (hst : st = As.reverse ++ rest) (hcat : Nat.ble (rest.map fun v => v.category).sum 8 = true) (hf : cs + mc ≤ rm.cells ∧ ss + ms ≤ rm.slots)
    (kx : VX l γ X M w2 L (cs + mc) (ss + ms) pc rest (xn k)) : V l γ X M w L cs ss pc st :=
  r_callS pc As rest K hC cs9 hr d hn hst (Nat.le_of_ble_eq_true hcat) hf (Px.x kx) Px.k
/-- an exception leaves a method without handlers -/
theorem r_out (pc : Nat) (K : KX l γ X M y cc own nL rm ret []) {P : Ro → va_W → Prop} {mc ms k : Nat} (hQ : HQ X M γ P mc ms) (hc : cs ≤ mc) (hs : ss ≤ ms) (hp : P (.inr k) w) : VX l γ X M w L cs ss pc st (xn k) := by
  intro H locs ls q ce hP hD hS hl hce hcv hcl
  rw [show M.2 = _ from hQ]
  refine vx_out (E := xn k) (ce := ce) (fun x hx => ?_) K.2.2.2.2.2.1 hce hcv hcl (fun t ht hv => ⟨k, w, rfl, hp, by rw [ht]; exact hP, hD, hS.F ht⟩) hS.2.2 hc hs
  rw [K.2.2.2.2.2.2.2.2.2.2.2.1] at hx
  cases hx
end CLS
