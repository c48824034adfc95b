/-! calls whose exceptions are caught -/
def bc1 {α κ : Type} (x : Option (α ⊕ Nat)) (f : α → Option κ) (g : Nat → Option κ) : Option κ := match x with
  | some (.inl a) => f a
  | some (.inr k) => g k
  | none => none
def bc2 {α β κ : Type} (x : Option ((α × β) ⊕ Nat)) (f : α → β → Option κ) (g : Nat → Option κ) : Option κ := match x with
  | some (.inl (a, b)) => f a b
  | some (.inr k) => g k
  | none => none
def bc3 {α β δ κ : Type} (x : Option ((α × β × δ) ⊕ Nat)) (f : α → β → δ → Option κ) (g : Nat → Option κ) : Option κ := match x with
  | some (.inl (a, b, d)) => f a b d
  | some (.inr k) => g k
  | none => none
theorem oc1 {α κ : Type} {x : Option (α ⊕ Nat)} {f : α → Option κ} {g : Nat → Option κ} {z : κ} (h : some z = bc1 x f g) : (∃ a, x = some (.inl a) ∧ some z = f a) ∨ (∃ k, x = some (.inr k) ∧ some z = g k) := by
  cases x with
  | none => cases h
  | some a =>
    cases a with
    | inl a => exact Or.inl ⟨a, rfl, h⟩
    | inr k => exact Or.inr ⟨k, rfl, h⟩
theorem oc2 {α β κ : Type} {x : Option ((α × β) ⊕ Nat)} {f : α → β → Option κ} {g : Nat → Option κ} {z : κ} (h : some z = bc2 x f g) : (∃ a b, x = some (.inl (a, b)) ∧ some z = f a b) ∨ (∃ k, x = some (.inr k) ∧ some z = g k) := by
  cases x with
  | none => cases h
  | some a =>
    cases a with
    | inl a => obtain ⟨a, b⟩ := a; exact Or.inl ⟨a, b, rfl, h⟩
    | inr k => exact Or.inr ⟨k, rfl, h⟩
theorem oc3 {α β δ κ : Type} {x : Option ((α × β × δ) ⊕ Nat)} {f : α → β → δ → Option κ} {g : Nat → Option κ} {z : κ} (h : some z = bc3 x f g) : (∃ a b d, x = some (.inl (a, b, d)) ∧ some z = f a b d) ∨ (∃ k, x = some (.inr k) ∧ some z = g k) := by
  cases x with
  | none => cases h
  | some a =>
    cases a with
    | inl a => obtain ⟨a, b, d⟩ := a; exact Or.inl ⟨a, b, d, rfl, h⟩
    | inr k => exact Or.inr ⟨k, rfl, h⟩
theorem bb_ {a b c d : Nat} (h1 : a ≤ b) (h2 : c ≤ d) : (Nat.ble a b && Nat.ble c d) = true := by
  rw [Bool.and_eq_true]
  exact ⟨Nat.ble_eq_true_of_le h1, Nat.ble_eq_true_of_le h2⟩
section GL3
variable {l : Launch} {γ : Gd} {X : CX} {M : MX} {w w' : va_W} {L L' : List (Option Value)} {cs ss : Nat} {st : List Value} {y : MethodName} {cc : ByteArray} {own : String} {nL : Nat} {rm : Room} {ret : Option FieldType} {tb : List ExceptionTableEntry}
/-- a call of a static method with handlers, which may have made an exception -/
theorem r_cSh (pc : Nat) (As : List Value) (rest : List Value) (x : Int32) (w2 : va_W) (K : KX l γ X M y cc own nL rm ret tb) {mc ms ix nz n : Nat} {z : MethodName} {cz : ByteArray} {rz : Option FieldType} {hh : List (Nat × Nat × Nat × Nat)} {rmz : Room}
    (hC : Ct l γ z (Cond.codeWith z cz nz rz hh) rmz As w (Pr (some (.int x)) w2) mc ms) (h1 : Cond.methodLink own ix z ∈ Gw) (h2 : Cond.static z ∈ Gw) (h4 : Cond.initialized z.cls ∈ Gw) (h5 : Cond.codeWith z cz nz rz hh ∈ Gw) (h6 : z.cls ≠ "java/lang/invoke/MethodHandle" ∧ z.cls ≠ "java/lang/invoke/VarHandle" ∧ (parseMethodDescriptor z.desc).map (fun d => d.parameters.length) = some n) (hr : rmOk rm rmz nz mc ms) (d : decode cc pc = .ok (.invokestatic ix, 3))
    (hn : As.length = n) (hst : st = As.reverse ++ rest) (hcat : Nat.ble (rest.map fun v => v.category).sum 8 = true) (hf : cs + mc ≤ rm.cells ∧ ss + ms ≤ rm.slots)
    (kk : V l γ X M w2 L (cs + mc) (ss + ms) (pc + 3) (.int x :: rest)) : V l γ X M w L cs ss pc st := by
  have hR : kR X = rm := K.2.2.2.2.2.2.2.2.2.1
  have ht := K.2.2.2.2.1
  obtain ⟨r1, r2, r3, r4⟩ := hr.use
  refine V.ofRun (P := Pr (some (.int x)) w2) (a := As.toArray) (mc := mc) (ms := ms) (rest := rest) (fun H locs ls hP hD hS hl => ?_) Pr.x (Pr.k kk)
  exact vx_runSX (As := As) (rest := rest) (hh := hh) (cs_fix K) (hC H.size) ⟨⟨r3, r4, by rw [hR]; exact r1, by rw [hR]; exact r2, gw_pay h5 ht, List.mem_cons_self⟩, ht _ h5, ht _ h4, ⟨h6.1, h6.2.1⟩, cs_par h6.2.2, ht _ h1, ht _ h2⟩ ⟨PcX.blind, cs_pre K hP hD hS⟩ rfl hn (ls_len K hl) hst (lv_room (Nat.le_of_ble_eq_true hcat)) d (by rw [hR]; exact hf)
/-- the law's script -/
theorem r_sld (pc : Nat) (K : KX l γ X M y cc own nL rm ret tb) {b n : Nat} {xs : Nat → Int32} {i : Int32} {α : Type} {u : α} {A : Option α} (hX : va_X b n xs (ks X) (ks X).heap) (hbl : b < (ks X).heap.size) (hbA : ¬ Ax X M b) (d : decode cc pc = .ok (.iaload, 1)) (hR : some u = if i < 0 ∨ n ≤ i.toNatClampNeg then none else A) (k : some u = A → V l γ X M w L cs ss (pc + 1) (.int (xs i.toNatClampNeg) :: st)) : V l γ X M w L cs ss pc (.int i :: .ref b :: st) := by
  by_cases hz : i < 0 ∨ n ≤ i.toNatClampNeg
  · rw [if_pos hz] at hR; cases hR
  · rw [if_neg hz] at hR
    exact fun H locs ls hP hD hS hl => va_sld K.1 K.2.1 hX hbl hbA hS hz d (k hR H locs ls hP hD hS hl)
theorem r_slen (pc : Nat) (K : KX l γ X M y cc own nL rm ret tb) {b n : Nat} {xs : Nat → Int32} (hX : va_X b n xs (ks X) (ks X).heap) (hbl : b < (ks X).heap.size) (hbA : ¬ Ax X M b) (d : decode cc pc = .ok (.arraylength, 1)) (k : V l γ X M w L cs ss (pc + 1) (.int (Int32.ofNat n) :: st)) : V l γ X M w L cs ss pc (.ref b :: st) :=
  fun H locs ls hP hD hS hl => va_slen K.1 K.2.1 hX hbl hbA hS d (k H locs ls hP hD hS hl)
/-- a new object at the head of the world -/
theorem r_newF (pc : Nat) (K : KX l γ X M y cc own nL rm ret tb) {ix ci N : Nat} {C : String} {T : u_T} {tyT : Nat → FieldType} {fs : List Value} (d : decode cc pc = .ok (.new ix, 3)) (h1 : Cond.classLink own ix C ∈ Gw) (h2 : Cond.instantiable C N ∈ Gw) (h3 : Cond.initialized C ∈ Gw) (hin : ∀ w ∈ u_ws C T N, w ∈ Gw) (hty : ∀ k, k < N → parseFieldDescriptor (T k).2.2.1 = some (tyT k)) (hc : clX[ci]? = some (C, T, N)) (hfs : (List.range N).map (fun j => defaultValue (tyT j)) = fs)
    (hr : (Nat.ble (cs + 1) rm.cells && Nat.ble (ss + N) rm.slots) = true) (k : ∀ q : Nat, V l γ X M ((q, .inr (ci, fs)) :: w) L (cs + 1) (ss + N) (pc + 3) (.ref q :: st)) : V l γ X M w L cs ss pc st :=
  r_new pc K d h1 h2 h3 hin hty hc hfs hr (fun q => r_perm _ (List.perm_append_singleton _ _) _ (k q))
theorem r_newaF (pc : Nat) (K : KX l γ X M y cc own nL rm ret tb) {at9 : ArrayType} {n : Int32} {N ti : Nat} {cA : ClassId} {a0 : vp_A} {ty : FieldType} (d : decode cc pc = .ok (.newarray at9, 2)) (h1 : Cond.arrayClass (newarray.typeOf at9) ∈ Gw) (hty : newarray.typeOf at9 = ty) (hti : (tyG γ)[ti]? = some (cA, ty)) (hra : ∀ (U : State) (c1 c2 : ClassId), va_RA U c1 ty → va_RA U c2 ty → c1 = c2) (ha : ∀ c : ClassId, vp_cell c a0 = arrV c N (fun _ => defaultValue ty)) (hn : ¬ n < 0) (hN : n.toNatClampNeg = N) (hb : Nat.ble (N * componentBytes ty) 536870912 = true)
    (hr : (Nat.ble (cs + 1) rm.cells && Nat.ble (ss + N) rm.slots) = true) (k : ∀ q : Nat, V l γ X M ((q, .inl (cA, a0)) :: w) L (cs + 1) (ss + N) (pc + 2) (.ref q :: st)) : V l γ X M w L cs ss pc (.int n :: st) :=
  r_newa pc K d h1 hty hti hra ha hn hN hb hr (fun q => r_perm _ (List.perm_append_singleton _ _) _ (k q))
end GL3
