/-! the law's script, read by a method of its own: a contract that sees the script beside the world -/
def PcS (γ : Gd) (as : List Value) (w : va_W) (sz b n : Nat) (xs : Nat → Int32) : Array Value → State → Prop := va_Pc as (fun U => (U.heap.size = sz ∧ va_P γ.1 clX w U.heap ∧ va_K γ.1 clX (tyG γ) U ∧ va_D (va_A w sz) w ∧ GL γ (va_A w sz) U U.heap) ∧ va_X b n xs U U.heap ∧ b < U.heap.size ∧ ¬ va_A w sz b)
def CtS (l : Launch) (γ : Gd) (y : MethodName) (cw : Cond) (rm : Room) (as : List Value) (w : va_W) (b n : Nat) (xs : Nat → Int32) (P : Ro → va_W → Prop) (mc ms : Nat) : Prop :=
  ∀ sz : Nat, vx_Met l y (cw :: Gw) rm (PcS γ as w sz b n xs) (QcX γ w sz P) (XcX γ w sz P) mc ms (va_A w sz)
theorem PcS.blind {γ : Gd} {as : List Value} {w : va_W} {sz b n : Nat} {xs : Nat → Int32} : FrameBlind (PcS γ as w sz b n xs) := by
  rintro a U g mk ⟨h1, ⟨h2, h3, h4, h5, h6⟩, h7, h8, h9⟩
  exact ⟨h1, ⟨h2, h3, va_K.moved (u := U) (U := U.calling g mk a) (Vm.Alike.refl U.vm) h4, h5, h6.blind⟩, va_X.moved (u := U) (U := U.calling g mk a) (Vm.Alike.refl U.vm) h7, h8, h9⟩
theorem CtS_of {l : Launch} {γ : Gd} {y : MethodName} {cc : ByteArray} {nL : Nat} {ret : Option FieldType} {own : String} {rm : Room} {as : List Value} {w : va_W} {b n : Nat} {xs : Nat → Int32} {P : Ro → va_W → Prop} {mc ms : Nat} {L : List (Option Value)}
    (hl : l.stackTraces = false) (hy : plainName y.cls = true) (hown : y.cls = own) (hn : (lg_sl as).length ≤ nL) (hL : lvs 0 L = lv_args 0 as)
    (body : ∀ (X : CX) (Q : State → Prop), KX l γ X (w, Q) y cc own nL rm ret [] → HQ X (w, Q) γ P mc ms → va_X b n xs (ks X) (ks X).heap → b < (ks X).heap.size → ¬ Ax X (w, Q) b → V l γ X (w, Q) w L 0 0 0 []) : CtS l γ y (Cond.code y cc nL ret) rm as w b n xs P mc ms := by
  intro sz
  refine vx_ofW (cc := cc) (maxL := nL) (ret := ret) hy rfl ?_
  intro p e s m args below meth c s₁ B hml ht hv
  obtain ⟨rfl, ⟨hsz, hP, hK, hD, hG⟩, hX, hbl, hbA⟩ := hv
  subst hsz
  have hts := atoms_spec (ws := Cond.code y cc nL ret :: Gw) B.pre
  have hl0 := lv_entry as (n := nL) hn
  rw [lg_entry_eq]
  generalize (lg_sl as ++ List.replicate (nL - (lg_sl as).length) Slot.unset).toArray = ls at hl0 ⊢
  have hl1 : lv_has ls nL (lvs 0 L) := by rw [hL]; exact hl0
  have b0 := body (p, e, (headSpec (Cond.code y cc nL ret :: Gw) rm).room, s, m, as.toArray, below, meth, c) (vx_MQ below (QcX γ w s.heap.size P) (XcX γ w s.heap.size P) as.toArray s mc ms (va_A w s.heap.size))
    ⟨B.exec, B.bytes, hml, by rw [← hown]; exact findClass_of_methodNamed B.named, fun w hw => hts w (List.mem_cons_of_mem _ hw), B.notSynchronized, hK, hG, hl, rfl, B.returns, List.eq_nil_iff_forall_not_mem.mpr (fun x hx => ht x hx), (name_of_methodNamed B.named B.method).1⟩ rfl hX hbl hbA
  have b' := b0 s.heap [] ls hP hD va_S.rf (by rw [show (kc (p, e, (headSpec (Cond.code y cc nL ret :: Gw) rm).room, s, m, as.toArray, below, meth, c)).maxLocals = nL from hml]; exact hl1)
  exact b'
/-- any int comes back -/
def PrI (w2 : va_W) : Ro → va_W → Prop := fun o w1 => (∃ x : Int32, o = .inl (some (.int x))) ∧ w1 = w2
section SCR
variable {l : Launch} {γ : Gd} {X : CX} {M : MX} {w w' : va_W} {L L' : List (Option Value)} {cs ss : Nat} {st rest : List Value} {y : MethodName} {cc : ByteArray} {own : String} {nL : Nat} {rm : Room} {ret : Option FieldType} {tb : List ExceptionTableEntry}
theorem cs_preS (K : KX l γ X M y cc own nL rm ret tb) {as : List Value} {b n : Nat} {xs : Nat → Int32} (hX : va_X b n xs (ks X) (ks X).heap) (hbl : b < (ks X).heap.size) (hbA : ¬ Ax X M b) {H : Heap} {locs : List Loc} (hP : va_P γ.1 clX w H) (hD : va_D (Ax X M) w) (hS : va_S (Ax X M) (ks X).heap H locs) :
    ∀ U : State, U.heap = H → (ks X).WarmedH U.vm → PcS γ as w H.size b n xs as.toArray U := by
  intro U hU hW
  obtain ⟨h1, h2⟩ := cs_pre (as := as) K hP hD hS U hU hW
  refine ⟨h1, h2, ?_, ?_, fun q => hbA (cs_sub hD hS b q)⟩
  · rw [hU]
    exact va_X.moved hW.alike (hX.kept (hS.2.1 b hbl hbA))
  · rw [hU]
    exact Nat.lt_of_lt_of_le hbl hS.1
theorem r_callSS (pc : Nat) (As : List Value) (rest : List Value) (K : KX l γ X M y cc own nL rm ret tb) {P : Ro → va_W → Prop} {mc ms ix nz n : Nat} {z : MethodName} {cz : ByteArray} {rz : Option FieldType} {rmz : Room} {b n0 : Nat} {xs : Nat → Int32}
    (hX : va_X b n0 xs (ks X) (ks X).heap) (hbl : b < (ks X).heap.size) (hbA : ¬ Ax X M b)
    (hC : CtS l γ z (Cond.code z cz nz rz) rmz As w b n0 xs P mc ms) (cs9 : CsS own ix z cz nz rz n) (hr : rmOk rm rmz nz mc ms) (d : decode cc pc = .ok (.invokestatic ix, 3))
    (hn : As.length = n) (hst : st = As.reverse ++ rest) (hcat : (rest.map fun v => v.category).sum ≤ 8) (hf : cs + mc ≤ rm.cells ∧ ss + ms ≤ rm.slots)
    (kx : ∀ (k : Nat) (w1 : va_W), P (.inr k) w1 → VX l γ X M w1 L (cs + mc) (ss + ms) pc rest (xn k))
    (kk : ∀ (v : Option Value) (w1 : va_W), P (.inl v) w1 → V l γ X M w1 L (cs + mc) (ss + ms) (pc + 3) (v.toList ++ rest)) : V l γ X M w L cs ss pc st := by
  obtain ⟨h1, h2, h4, h5, h6⟩ := cs9
  have hR : kR X = rm := K.2.2.2.2.2.2.2.2.2.1
  refine V.ofRun (P := P) (a := As.toArray) (fun H locs ls hP hD hS hl => ?_) kx kk
  exact vx_runS (As := As) (rest := rest) (cs_fix K) (hC H.size) ⟨cs_B K h1 h4 h5 h6 hr, K.2.2.2.2.1 _ h2⟩ ⟨PcS.blind, cs_preS K hX hbl hbA hP hD hS⟩ rfl hn (ls_len K hl) hst (lv_room hcat) d (by rw [hR]; exact hf)
end SCR
abbrev rmL : Room := { frames := 11, cells := 205, slots := 2077, locals := 396 }
theorem bbL {a b : Nat} (h1 : a ≤ 205) (h2 : b ≤ 2077) : (Nat.ble a rmL.cells && Nat.ble b rmL.slots) = true := bb_ h1 h2
theorem aaL {a b : Nat} (h1 : a ≤ 205) (h2 : b ≤ 2077) : a ≤ rmL.cells ∧ b ≤ rmL.slots := ⟨h1, h2⟩
theorem r_sldX {l : Launch} {γ : Gd} {X : CX} {M : MX} {w : va_W} {L : List (Option Value)} {cs ss : Nat} {st : List Value} {y : MethodName} {cc : ByteArray} {own : String} {nL : Nat} {rm : Room} {ret : Option FieldType} {tb : List ExceptionTableEntry} (pc : Nat) (K : KX l γ X M y cc own nL rm ret tb) {b n : Nat} {xs : Nat → Int32} {i : Int32} (hX : va_X b n xs (ks X) (ks X).heap) (hbl : b < (ks X).heap.size) (hbA : ¬ Ax X M b) (hi : ¬ (i < 0 ∨ n ≤ i.toNatClampNeg)) (d : decode cc pc = .ok (.iaload, 1)) (k : V l γ X M w L cs ss (pc + 1) (.int (xs i.toNatClampNeg) :: st)) : V l γ X M w L cs ss pc (.int i :: .ref b :: st) :=
  fun H locs ls hP hD hS hl => va_sld K.1 K.2.1 hX hbl hbA hS hi d (k H locs ls hP hD hS hl)
theorem sI_in : ∀ k : Nat, k < 1000 → (Int32.ofNat k).toInt = (k : Int) ∧ ¬ Int32.ofNat k < 0 ∧ (Int32.ofNat k).toNatClampNeg = k := by decide +kernel
set_option maxHeartbeats 4000000 in
set_option maxRecDepth 100000 in
theorem ct_L_cell {l : Launch} (hl : l.stackTraces = false) {γ : Gd} {w : va_W} {b n : Nat} {xs : Nat → Int32} {k : Int32} (hn : n ≤ 260) (hk : ∃ j, j < 1000 ∧ k = Int32.ofNat j) : CtS l γ yL_cell (Cond.code yL_cell cL_cell 2 (some .int)) ({ frames := 0, cells := 0, slots := 0, locals := 0 } : Room) [.ref b, .int k] w b n xs (PrI w) 0 0 := by
  obtain ⟨j, hj, rfl⟩ := hk
  refine CtS_of hl (by decide +kernel) rfl (Nat.le_of_ble_eq_true rfl) (L := [some (.ref b), some (.int (Int32.ofNat j))]) rfl ?_
  intro X Q K hQ hX hbl hbA
  generalize ((w, Q) : MX) = M at K hQ hbA ⊢
  refine r_iload_n 0 1 K (dk_of tL_cell 0 rfl) rfl rfl ?_
  refine r_aload_n 1 0 K (dk_of tL_cell 1 rfl) rfl rfl ?_
  refine r_slen 2 K hX hbl hbA (dk_of tL_cell 2 rfl) ?_
  by_cases hc : Int32.ofNat n ≤ Int32.ofNat j
  · refine r_ic_ge 3 12 K (u := ()) (A := some ()) (B := none) (dk_of tL_cell 3 rfl) (by decide) (if_pos hc).symm (fun _ => ?_) (fun hR => nn_ hR)
    refine r_ldc 12 37110107 K (dk_of tL_cell 8 rfl) w770 ?_
    refine r_iload_n 14 1 K (dk_of tL_cell 9 rfl) rfl rfl ?_
    refine r_imul 15 K (dk_of tL_cell 10 rfl) ?_
    refine r_sipush 16 (12007 : Int32) K (dk_of tL_cell 11 rfl) (by decide) ?_
    refine r_iadd 19 K (dk_of tL_cell 12 rfl) ?_
    exact r_iret 20 K hQ (dk_of tL_cell 13 rfl) (Nat.zero_le _) (Nat.zero_le _) ⟨⟨_, rfl⟩, rfl⟩
  · refine r_ic_ge 3 12 K (u := ()) (A := none) (B := some ()) (dk_of tL_cell 3 rfl) (by decide) (if_neg hc).symm (fun hR => nn_ hR) (fun _ => ?_)
    have hi : ¬ (Int32.ofNat j < 0 ∨ n ≤ (Int32.ofNat j).toNatClampNeg) := by
      obtain ⟨a1, a2, a3⟩ := sI_in j hj
      obtain ⟨b1, b2, b3⟩ := sI_in n (by omega)
      rw [Int32.le_iff_toInt_le, a1, b1] at hc
      rintro (h | h)
      · exact a2 h
      · omega
    refine r_aload_n 6 0 K (dk_of tL_cell 4 rfl) rfl rfl ?_
    refine r_iload_n 7 1 K (dk_of tL_cell 5 rfl) rfl rfl ?_
    refine r_sldX 8 K hX hbl hbA hi (dk_of tL_cell 6 rfl) ?_
    refine r_goto 9 20 K (dk_of tL_cell 7 rfl) (by decide) ?_
    exact r_iret 20 K hQ (dk_of tL_cell 13 rfl) (Nat.zero_le _) (Nat.zero_le _) ⟨⟨_, rfl⟩, rfl⟩
theorem r_cell {l : Launch} (hl : l.stackTraces = false) {γ : Gd} {X : CX} {M : MX} {w : va_W} {L : List (Option Value)} {cs ss : Nat} {rest : List Value} {y : MethodName} {cc : ByteArray} {nL : Nat} {ret : Option FieldType} {tb : List ExceptionTableEntry} (pc : Nat) (K : KX l γ X M y cc RL nL rmL ret tb) {b n : Nat} {xs : Nat → Int32} (hn : n ≤ 260) (hX : va_X b n xs (ks X) (ks X).heap) (hbl : b < (ks X).heap.size) (hbA : ¬ Ax X M b) {k : Int32} (hk : ∃ j, j < 1000 ∧ k = Int32.ofNat j) (d : decode cc pc = .ok (.invokestatic 54, 3))
    (hcat : (rest.map fun v => v.category).sum ≤ 8) (h1 : cs ≤ 205) (h2 : ss ≤ 2077) (kk : ∀ x : Int32, V l γ X M w L cs ss (pc + 3) (.int x :: rest)) : V l γ X M w L cs ss pc (.int k :: .ref b :: rest) := by
  refine r_callSS (P := PrI w) (mc := 0) (ms := 0) pc [.ref b, .int k] rest K hX hbl hbA (ct_L_cell hl hn hk) cs_L_54 ⟨rfl, rfl, rfl⟩ d rfl rfl hcat (aaL h1 h2) ?_ ?_
  · rintro k1 w1 ⟨⟨x, hx⟩, -⟩
    cases hx
  · rintro v w1 ⟨⟨x, hx⟩, rfl⟩
    cases hx
    exact kk x
