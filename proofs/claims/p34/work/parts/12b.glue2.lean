section GL2
variable {l : Launch} {γ : Gd} {X : CX} {M : MX} {w w' : va_W} {L L' : List (Option Value)} {cs ss : Nat} {st : List Value} {y : MethodName} {cc : ByteArray} {own : String} {nL : Nat} {rm : Room} {ret : Option FieldType} {tb : List ExceptionTableEntry}
theorem r_cVi (pc q0 : Nat) (As : List Value) (rest : List Value) (x : Int32) (w2 : va_W) (K : KX l γ X M y cc own nL rm ret tb) {ix nz n a ci N : Nat} {z : MethodName} {cz : ByteArray} {rz : Option FieldType} {rmz : Room} {T : u_T} {fs : List Value}
    (hC : Ct l γ z (Cond.code z cz nz rz) rmz (.ref a :: As) w (Pr (some (.int x)) w2) 0 0) (cs9 : CsV own ix z cz nz rz n) (hr : rmOk rm rmz nz 0 0) (d : decode cc pc = .ok (.invokevirtual ix, 3))
    (he : w[q0]? = some (a, .inr (ci, fs))) (hc : clX[ci]? = some (z.cls, T, N)) (hn : As.length = n) (hst : st = As.reverse ++ .ref a :: rest) (hcat : Nat.ble (rest.map fun v => v.category).sum 8 = true) (hf : (Nat.ble cs rm.cells && Nat.ble ss rm.slots) = true)
    (kk : V l γ X M w2 L cs ss (pc + 3) (.int x :: rest)) : V l γ X M w L cs ss pc st := r_cV pc q0 As rest (some (.int x)) w2 K hC cs9 hr d he hc hn hst hcat hf kk
theorem r_cVl (pc q0 : Nat) (As : List Value) (rest : List Value) (x : Int64) (w2 : va_W) (K : KX l γ X M y cc own nL rm ret tb) {ix nz n a ci N : Nat} {z : MethodName} {cz : ByteArray} {rz : Option FieldType} {rmz : Room} {T : u_T} {fs : List Value}
    (hC : Ct l γ z (Cond.code z cz nz rz) rmz (.ref a :: As) w (Pr (some (.long x)) w2) 0 0) (cs9 : CsV own ix z cz nz rz n) (hr : rmOk rm rmz nz 0 0) (d : decode cc pc = .ok (.invokevirtual ix, 3))
    (he : w[q0]? = some (a, .inr (ci, fs))) (hc : clX[ci]? = some (z.cls, T, N)) (hn : As.length = n) (hst : st = As.reverse ++ .ref a :: rest) (hcat : Nat.ble (rest.map fun v => v.category).sum 8 = true) (hf : (Nat.ble cs rm.cells && Nat.ble ss rm.slots) = true)
    (kk : V l γ X M w2 L cs ss (pc + 3) (.long x :: rest)) : V l γ X M w L cs ss pc st := r_cV pc q0 As rest (some (.long x)) w2 K hC cs9 hr d he hc hn hst hcat hf kk
theorem r_cVv (pc q0 : Nat) (As : List Value) (rest : List Value) (w2 : va_W) (K : KX l γ X M y cc own nL rm ret tb) {ix nz n a ci N : Nat} {z : MethodName} {cz : ByteArray} {rz : Option FieldType} {rmz : Room} {T : u_T} {fs : List Value}
    (hC : Ct l γ z (Cond.code z cz nz rz) rmz (.ref a :: As) w (Pr none w2) 0 0) (cs9 : CsV own ix z cz nz rz n) (hr : rmOk rm rmz nz 0 0) (d : decode cc pc = .ok (.invokevirtual ix, 3))
    (he : w[q0]? = some (a, .inr (ci, fs))) (hc : clX[ci]? = some (z.cls, T, N)) (hn : As.length = n) (hst : st = As.reverse ++ .ref a :: rest) (hcat : Nat.ble (rest.map fun v => v.category).sum 8 = true) (hf : (Nat.ble cs rm.cells && Nat.ble ss rm.slots) = true)
    (kk : V l γ X M w2 L cs ss (pc + 3) rest) : V l γ X M w L cs ss pc st := r_cV pc q0 As rest none w2 K hC cs9 hr d he hc hn hst hcat hf kk
theorem r_cSi (pc : Nat) (As : List Value) (rest : List Value) (x : Int32) (w2 : va_W) (K : KX l γ X M y cc own nL rm ret tb) {ix nz n : Nat} {z : MethodName} {cz : ByteArray} {rz : Option FieldType} {rmz : Room}
    (hC : Ct l γ z (Cond.code z cz nz rz) rmz As w (Pr (some (.int x)) w2) 0 0) (cs9 : CsS own ix z cz nz rz n) (hr : rmOk rm rmz nz 0 0) (d : decode cc pc = .ok (.invokestatic ix, 3))
    (hn : As.length = n) (hst : st = As.reverse ++ rest) (hcat : Nat.ble (rest.map fun v => v.category).sum 8 = true) (hf : (Nat.ble cs rm.cells && Nat.ble ss rm.slots) = true)
    (kk : V l γ X M w2 L cs ss (pc + 3) (.int x :: rest)) : V l γ X M w L cs ss pc st := r_cS pc As rest (some (.int x)) w2 K hC cs9 hr d hn hst hcat hf kk
theorem r_cSv (pc : Nat) (As : List Value) (rest : List Value) (w2 : va_W) (K : KX l γ X M y cc own nL rm ret tb) {ix nz n : Nat} {z : MethodName} {cz : ByteArray} {rz : Option FieldType} {rmz : Room}
    (hC : Ct l γ z (Cond.code z cz nz rz) rmz As w (Pr none w2) 0 0) (cs9 : CsS own ix z cz nz rz n) (hr : rmOk rm rmz nz 0 0) (d : decode cc pc = .ok (.invokestatic ix, 3))
    (hn : As.length = n) (hst : st = As.reverse ++ rest) (hcat : Nat.ble (rest.map fun v => v.category).sum 8 = true) (hf : (Nat.ble cs rm.cells && Nat.ble ss rm.slots) = true)
    (kk : V l γ X M w2 L cs ss (pc + 3) rest) : V l γ X M w L cs ss pc st := r_cS pc As rest none w2 K hC cs9 hr d hn hst hcat hf kk
end GL2
theorem i32_ne {x v : Int32} (k : Int) (h : ¬ x = v) (hv : v.toInt = k) : x.toInt ≠ k := fun e => h (Int32.toInt_inj.mp (e.trans hv.symm))
