/-! A LAYER OF MY OWN over the kit's rows: heap, written places and local slots are hidden behind lists: the world w (cells), the locals L (by place), the stack st. A method's contract Ct: from the world w with the arguments as, it comes to an outcome o and a world w' with P o w'. -/
abbrev clX : List vw_C := [(RX0, TX0, 9), (RX1, TX1, 7), (RX2, TX2, 8), (RX3, TX3, 4), (RX4, TX4, 9), (RX5, TX5, 5), (RX6, TX6, 5), (RX7, TX7, 1), (RX8, TX8, 4), (RX9, TX9, 6)]
/-- what is fixed for a whole run: classes and slots; the classes of int[], boolean[], long[]; where the static arrays and the Strings lie -/
abbrev Gd : Type := va_G × (ClassId × ClassId × ClassId) × (Nat → Nat)
abbrev tyG (γ : Gd) : List (ClassId × FieldType) := [(γ.2.1.1, .int), (γ.2.1.2.1, .boolean)]
/-- an outcome: an answer, or the number of an exception -/
abbrev Ro : Type := Option Value ⊕ Nat
def xn : Nat → String
  | 1 => "java/lang/IndexOutOfBoundsException"
  | 2 => "java/lang/IllegalArgumentException"
  | _ => "java/lang/IllegalStateException"
def fH : Nat → Value := fun j => .int (if j = 0 then 0 else if j = 1 then 200 else if j = 2 then 500 else 1000)
def fB : Nat → Value := fun j => .int (if j = 0 then 0 else if j = 1 then 5 else if j = 2 then 10 else 0)
def strs : List (Nat × String) := [(342, "there is none with such a number"), (345, "an argument is out of range"), (63, "the HOUR is not 0"), (87, "a SHIP or a SKIMMER is there"), (347, "the CELL is a SHORE"), (119, "there are 4 SHIPS"), (138, "the HOUR would be above 2000"), (167, "there is a BOOM on that border"), (351, "there are 20 means"), (353, "the mean is of another sort"), (349, "the CELL is WATER"), (205, "the TEAM cannot clean"), (224, "a rule is against it"), (239, "there would be more than 1000 birds"), (266, "there are 20 CLAIMS")]
/-- words that the tables decide but that aren't 'good' ones -/
def nwL : List Cond := [.fieldLinkNest RX2 50 "Slickboom" "HOLDS" "[I" "Slickboom", .fieldLinkNest RX2 53 "Slickboom" "BACK_PARTS" "[I" "Slickboom", .castable (xn 1) (xn 1), .castable (xn 2) (xn 2), .castable (xn 3) (xn 3), .declares ⟨"java/lang/RuntimeException", "<init>", "()V"⟩, .declares ⟨"java/lang/RuntimeException", "<init>", "(Ljava/lang/String;)V"⟩, .declares ⟨"java/lang/Exception", "<init>", "()V"⟩, .declares ⟨"java/lang/Exception", "<init>", "(Ljava/lang/String;)V"⟩, .declares ⟨"java/lang/Throwable", "<init>", "()V"⟩, .declares ⟨"java/lang/Throwable", "<init>", "(Ljava/lang/String;)V"⟩]
def ncL : List (String × String) := [(xn 2, xn 1), (xn 3, xn 1), (xn 3, xn 2), (xn 1, xn 2), (xn 1, xn 3), (xn 2, xn 3)]
theorem nwL_ot : ∀ w ∈ nwL, w.onTables = true := by decide +kernel
theorem nwL_warm {s U : State} (hW : s.WarmedH U.vm) : ∀ w ∈ nwL, va_Nw w s → va_Nw w U := by
  intro w hw h
  simp only [nwL, List.mem_cons, List.not_mem_nil, or_false] at hw
  rcases hw with rfl | rfl | rfl | rfl | rfl | rfl | rfl | rfl | rfl | rfl | rfl
  · exact va_Nw.warmF hW h
  · exact va_Nw.warmF hW h
  · exact va_Nw.warmC hW h
  · exact va_Nw.warmC hW h
  · exact va_Nw.warmC hW h
  all_goals exact va_Nw.warmD hW h
/-- what lies outside of the worlds and is only read -/
def GL (γ : Gd) (A : Nat → Prop) (U : State) (H : Heap) : Prop :=
  vx_Zq Bundle.tN "UNASSIGNED_STACK" Bundle.steD A U H ∧ vx_Zq Bundle.tN "SUPPRESSED_SENTINEL" Bundle.listD A U H ∧
  va_Z "Slickboom" "HOLDS" "[I" (.ref (γ.2.2 0)) A U H ∧ va_T .int (γ.2.2 0) 4 fH A U H ∧
  va_Z "Slickboom" "BACK_PARTS" "[I" (.ref (γ.2.2 1)) A U H ∧ va_T .int (γ.2.2 1) 4 fB A U H ∧
  (∀ (i : Nat) (q : Nat × String), strs[i]? = some q → vk_R "Slickboom" q.1 q.2 (γ.2.2 (i + 2)) U) ∧
  (∀ w ∈ nwL, va_Nw w U) ∧ (∀ q ∈ ncL, va_Nc q.1 q.2 U)
theorem GL.pass {γ : Gd} {A B : Nat → Prop} {s U : State} {H : Heap} {locs : List Loc} (h : GL γ A s s.heap) (hW : s.WarmedH U.vm) (hS : va_S A s.heap H locs) (hU : U.heap = H) (hAB : ∀ q, B q → A q) : GL γ B U U.heap := by
  obtain ⟨h1, h2, h3, h4, h5, h6, h7, h8, h9⟩ := h
  rw [hU]
  exact ⟨(vx_Zq.moved hW.alike (h1.kept hS.2.1)).narrow hAB, (vx_Zq.moved hW.alike (h2.kept hS.2.1)).narrow hAB, (va_Z.moved hW.alike (h3.kept hS.2.1)).narrow hAB, (va_T.moved hW.alike (h4.kept hS.2.1)).narrow hAB, (va_Z.moved hW.alike (h5.kept hS.2.1)).narrow hAB, (va_T.moved hW.alike (h6.kept hS.2.1)).narrow hAB, fun i q hq => (h7 i q hq).warm hW, fun w hw => nwL_warm hW w hw (h8 w hw), fun q hq => (h9 q hq).moved hW.alike⟩
theorem GL.blind {γ : Gd} {A : Nat → Prop} {U : State} {g : JFrame} {mk : MethodId} {a : Array Value} (h : GL γ A U U.heap) : GL γ A (U.calling g mk a) (U.calling g mk a).heap := by
  have hW : U.WarmedH (U.calling g mk a).vm := State.WarmedH.refl U
  exact GL.pass (locs := []) h hW va_S.rf rfl (fun _ q => q)
/-- locals by their places -/
def lvs : Nat → List (Option Value) → List (Nat × Value)
  | _, [] => []
  | i, none :: t => lvs (i + 1) t
  | i, some v :: t => (i, v) :: lvs (i + 1) t
theorem lvs_mem {L : List (Option Value)} : ∀ {i : Nat} {q : Nat × Value}, q ∈ lvs i L ↔ ∃ k, L[k]? = some (some q.2) ∧ q.1 = i + k := by
  induction L with
  | nil => intro i q; simp [lvs]
  | cons o t ih =>
    intro i q
    cases o with
    | none =>
      simp only [lvs, ih]
      constructor
      · rintro ⟨k, h1, h2⟩
        exact ⟨k + 1, by simpa using h1, by omega⟩
      · rintro ⟨k, h1, h2⟩
        cases k with
        | zero => simp at h1
        | succ k => exact ⟨k, by simpa using h1, by omega⟩
    | some v =>
      simp only [lvs, List.mem_cons, ih]
      constructor
      · rintro (rfl | ⟨k, h1, h2⟩)
        · exact ⟨0, by simp, by simp⟩
        · exact ⟨k + 1, by simpa using h1, by omega⟩
      · rintro ⟨k, h1, h2⟩
        cases k with
        | zero =>
          left
          simp at h1
          obtain ⟨a, b⟩ := q
          simp only at h1 h2
          subst h1
          simp at h2
          rw [h2]
        | succ k => exact Or.inr ⟨k, by simpa using h1, by omega⟩
theorem lvs_at {ls : Array Slot} {n : Nat} {L : List (Option Value)} (h : lv_has ls n (lvs 0 L)) {i : Nat} {v : Value} (hi : L[i]? = some (some v)) : ls[i]? = some (.val v) :=
  h.2.2 (i, v) (lvs_mem.mpr ⟨i, hi, by simp⟩)
theorem lvs_weak {ls : Array Slot} {n : Nat} {l l' : List (Nat × Value)} (h : lv_has ls n l) (hs : ∀ q ∈ l', q ∈ l) : lv_has ls n l' := ⟨h.1, h.2.1, fun q hq => h.2.2 q (hs q hq)⟩
/-- no value of two slots begins just ahead of i -/
def okL (L : List (Option Value)) (i : Nat) : Bool := match i with
  | 0 => true
  | j + 1 => match L[j]? with
    | some (some v) => v.category == 1
    | _ => true
theorem lvs_st1 {L : List (Option Value)} {i : Nat} {v : Value} (hi : i < L.length) (hok : okL L i = true) : ∀ q ∈ lvs 0 (L.set i (some v)), q ∈ (i, v) :: (lvs 0 L).filter (fun q => !(q.1 == i) && !(q.1 + 1 == i && q.2.category == 2)) := by
  intro q hq
  obtain ⟨k, h1, h2⟩ := lvs_mem.mp hq
  rw [Nat.zero_add] at h2
  by_cases hk : i = k
  · subst hk
    rw [List.getElem?_set_self hi] at h1
    obtain ⟨a, b⟩ := q
    simp only at h2
    simp at h1
    rw [h2, ← h1]
    exact List.mem_cons_self
  · rw [List.getElem?_set_ne hk] at h1
    refine List.mem_cons_of_mem _ (List.mem_filter.mpr ⟨lvs_mem.mpr ⟨k, h1, by omega⟩, ?_⟩)
    have a1 : (q.1 == i) = false := by rw [h2]; simp; omega
    rw [a1]
    by_cases hz : q.1 + 1 = i
    · have : i = k + 1 := by omega
      subst this
      have hok' := hok
      simp only [okL, h1] at hok'
      simp at hok'
      simp [hok']
    · simp [hz]
theorem lvs_st2 {L : List (Option Value)} {i : Nat} {v : Value} (hi : i + 1 < L.length) (hok : okL L i = true) : ∀ q ∈ lvs 0 ((L.set i (some v)).set (i + 1) none), q ∈ (i, v) :: (lvs 0 L).filter (fun q => !(q.1 == i) && (!(q.1 == i + 1) && !(q.1 + 1 == i && q.2.category == 2))) := by
  intro q hq
  obtain ⟨k, h1, h2⟩ := lvs_mem.mp hq
  rw [Nat.zero_add] at h2
  by_cases hk1 : i + 1 = k
  · subst hk1
    rw [List.getElem?_set_self (by simpa using hi)] at h1
    simp at h1
  · rw [List.getElem?_set_ne hk1] at h1
    by_cases hk : i = k
    · subst hk
      rw [List.getElem?_set_self (by omega)] at h1
      obtain ⟨a, b⟩ := q
      simp only at h2
      simp at h1
      rw [h2, ← h1]
      exact List.mem_cons_self
    · rw [List.getElem?_set_ne hk] at h1
      refine List.mem_cons_of_mem _ (List.mem_filter.mpr ⟨lvs_mem.mpr ⟨k, h1, by omega⟩, ?_⟩)
      have a1 : (q.1 == i) = false := by rw [h2]; simp; omega
      have a2 : (q.1 == i + 1) = false := by rw [h2]; simp; omega
      rw [a1, a2]
      by_cases hz : q.1 + 1 = i
      · have : i = k + 1 := by omega
        subst this
        have hok' := hok
        simp only [okL, h1] at hok'
        simp at hok'
        simp [hok']
      · simp [hz]
abbrev CX : Type := Program × Env × Room × State × MethodId × Array Value × List Frame × Method × Code
abbrev kp (X : CX) : Program := X.1
abbrev ke (X : CX) : Env := X.2.1
abbrev kR (X : CX) : Room := X.2.2.1
abbrev ks (X : CX) : State := X.2.2.2.1
abbrev km (X : CX) : MethodId := X.2.2.2.2.1
abbrev ka (X : CX) : Array Value := X.2.2.2.2.2.1
abbrev kb (X : CX) : List Frame := X.2.2.2.2.2.2.1
abbrev kt (X : CX) : Method := X.2.2.2.2.2.2.2.1
abbrev kc (X : CX) : Code := X.2.2.2.2.2.2.2.2
/-- a method's own: the world of its start, and what is owed at its end -/
abbrev MX : Type := va_W × (State → Prop)
abbrev Ax (X : CX) (M : MX) : Nat → Prop := va_A M.1 (ks X).heap.size
def V (l : Launch) (γ : Gd) (X : CX) (M : MX) (w : va_W) (L : List (Option Value)) (cs ss pc : Nat) (st : List Value) : Prop :=
  ∀ (H : Heap) (locs : List Loc) (ls : Array Slot), va_P γ.1 clX w H → va_D (Ax X M) w → va_S (Ax X M) (ks X).heap H locs → lv_has ls (kc X).maxLocals (lvs 0 L) →
    W (kp X) l (ke X) (kR X) (ks X) (km X) (ka X) (kb X) (kt X) (kc X) H locs cs ss M.2 (F0 (km X) pc ls st)
def KX (l : Launch) (γ : Gd) (X : CX) (M : MX) (y : MethodName) (cc : ByteArray) (own : String) (nL : Nat) (rm : Room) (ret : Option FieldType) (tb : List ExceptionTableEntry) : Prop :=
  (kp X).tables.exec = Jvm.exec ∧ (kc X).code = cc ∧ (kc X).maxLocals = nL ∧ (ks X).vm.findClass own = some (km X).cls ∧ (∀ w ∈ Gw, w.before (ka X) (ks X) = true) ∧ (kt X).locks = false ∧
  va_K γ.1 clX (tyG γ) (ks X) ∧ GL γ (Ax X M) (ks X) (ks X).heap ∧ l.stackTraces = false ∧ kR X = rm ∧ (kt X).sig.returnType = ret ∧ (kc X).exceptionTable.toList = tb ∧ (kt X).name = y.name
/-! contracts -/
def PcX (γ : Gd) (as : List Value) (w : va_W) (sz : Nat) : Array Value → State → Prop := va_Pc as (fun U => U.heap.size = sz ∧ va_P γ.1 clX w U.heap ∧ va_K γ.1 clX (tyG γ) U ∧ va_D (va_A w sz) w ∧ GL γ (va_A w sz) U U.heap)
def QcX (γ : Gd) (w : va_W) (sz : Nat) (P : Ro → va_W → Prop) : Array Value → State → Outcome → State → Prop := fun _ st oc t => ∃ (v : Option Value) (w' : va_W), oc = .returned v ∧ P (.inl v) w' ∧ va_P γ.1 clX w' t.heap ∧ va_D (va_A w sz) w' ∧ va_F (va_A w sz) st t
def XcX (γ : Gd) (w : va_W) (sz : Nat) (P : Ro → va_W → Prop) : String → State → State → Prop := fun E st t => ∃ (k : Nat) (w' : va_W), E = xn k ∧ P (.inr k) w' ∧ va_P γ.1 clX w' t.heap ∧ va_D (va_A w sz) w' ∧ va_F (va_A w sz) st t
def Ct (l : Launch) (γ : Gd) (y : MethodName) (cw : Cond) (rm : Room) (as : List Value) (w : va_W) (P : Ro → va_W → Prop) (mc ms : Nat) : Prop :=
  ∀ sz : Nat, vx_Met l y (cw :: Gw) rm (PcX γ as w sz) (QcX γ w sz P) (XcX γ w sz P) mc ms (va_A w sz)
/-- what the body owes at its end -/
def HQ (X : CX) (M : MX) (γ : Gd) (P : Ro → va_W → Prop) (mc ms : Nat) : Prop :=
  M.2 = vx_MQ (kb X) (QcX γ M.1 (ks X).heap.size P) (XcX γ M.1 (ks X).heap.size P) (ka X) (ks X) mc ms (Ax X M)
theorem PcX.blind {γ : Gd} {as : List Value} {w : va_W} {sz : Nat} : FrameBlind (PcX γ as w sz) := by
  rintro a U g mk ⟨h1, h2, h3, h4, h5, h6⟩
  exact ⟨h1, h2, h3, va_K.moved (u := U) (U := U.calling g mk a) (Vm.Alike.refl U.vm) h4, h5, h6.blind⟩
theorem Ct_of {l : Launch} {γ : Gd} {y : MethodName} {cc : ByteArray} {nL : Nat} {ret : Option FieldType} {own : String} {rm : Room} {as : List Value} {w : va_W} {P : Ro → va_W → Prop} {mc ms : Nat} {L : List (Option Value)}
    (hl : l.stackTraces = false) (hy : plainName y.cls = true) (hown : y.cls = own) (hn : (lg_sl as).length ≤ nL) (hL : lvs 0 L = lv_args 0 as)
    (body : ∀ (X : CX) (Q : State → Prop), KX l γ X (w, Q) y cc own nL rm ret [] → HQ X (w, Q) γ P mc ms → V l γ X (w, Q) w L 0 0 0 []) : Ct l γ y (Cond.code y cc nL ret) rm as w P mc ms := by
  intro sz
  refine vx_ofW (cc := cc) (maxL := nL) (ret := ret) hy rfl ?_
  intro p e s m args below meth c s₁ B hml ht hv
  obtain ⟨rfl, hsz, hP, hK, hD, hG⟩ := hv
  subst hsz
  have hts := atoms_spec (ws := Cond.code y cc nL ret :: Gw) B.pre
  have hl0 := lv_entry as (n := nL) hn
  rw [lg_entry_eq]
  generalize (lg_sl as ++ List.replicate (nL - (lg_sl as).length) Slot.unset).toArray = ls at hl0 ⊢
  have hl1 : lv_has ls nL (lvs 0 L) := by rw [hL]; exact hl0
  have b := body (p, e, (headSpec (Cond.code y cc nL ret :: Gw) rm).room, s, m, as.toArray, below, meth, c) (vx_MQ below (QcX γ w s.heap.size P) (XcX γ w s.heap.size P) as.toArray s mc ms (va_A w s.heap.size))
    ⟨B.exec, B.bytes, hml, by rw [← hown]; exact findClass_of_methodNamed B.named, fun w hw => hts w (List.mem_cons_of_mem _ hw), B.notSynchronized, hK, hG, hl, rfl, B.returns, List.eq_nil_iff_forall_not_mem.mpr (fun x hx => ht x hx), (name_of_methodNamed B.named B.method).1⟩ rfl
  have b' := b s.heap [] ls hP hD va_S.rf (by rw [show (kc (p, e, (headSpec (Cond.code y cc nL ret :: Gw) rm).room, s, m, as.toArray, below, meth, c)).maxLocals = nL from hml]; exact hl1)
  exact b'
/-- .. of a method with handlers -/
theorem Ct_ofH {l : Launch} {γ : Gd} {y : MethodName} {cc : ByteArray} {nL : Nat} {ret : Option FieldType} {hh : List (Nat × Nat × Nat × Nat)} {own : String} {rm : Room} {as : List Value} {w : va_W} {P : Ro → va_W → Prop} {mc ms : Nat} {L : List (Option Value)}
    (hl : l.stackTraces = false) (hy : plainName y.cls = true) (hown : y.cls = own) (hn : (lg_sl as).length ≤ nL) (hL : lvs 0 L = lv_args 0 as)
    (body : ∀ (X : CX) (Q : State → Prop), KX l γ X (w, Q) y cc own nL rm ret (tableOf hh) → HQ X (w, Q) γ P mc ms → V l γ X (w, Q) w L 0 0 0 []) : Ct l γ y (Cond.codeWith y cc nL ret hh) rm as w P mc ms := by
  intro sz
  refine vx_ofWH (cc := cc) (maxL := nL) (ret := ret) (hh := hh) hy rfl ?_
  intro p e s m args below meth c s₁ B hml hv
  obtain ⟨rfl, hsz, hP, hK, hD, hG⟩ := hv
  subst hsz
  have hts := atoms_spec (ws := Cond.codeWith y cc nL ret hh :: Gw) B.pre
  have hl0 := lv_entry as (n := nL) hn
  rw [lg_entry_eq]
  generalize (lg_sl as ++ List.replicate (nL - (lg_sl as).length) Slot.unset).toArray = ls at hl0 ⊢
  have hl1 : lv_has ls nL (lvs 0 L) := by rw [hL]; exact hl0
  have b := body (p, e, (headSpec (Cond.codeWith y cc nL ret hh :: Gw) rm).room, s, m, as.toArray, below, meth, c) (vx_MQ below (QcX γ w s.heap.size P) (XcX γ w s.heap.size P) as.toArray s mc ms (va_A w s.heap.size))
    ⟨B.exec, B.bytes, hml, by rw [← hown]; exact findClass_of_methodNamed B.named, fun w hw => hts w (List.mem_cons_of_mem _ hw), B.notSynchronized, hK, hG, hl, rfl, B.returns, vx_table (x := y) B (hts _ List.mem_cons_self), (name_of_methodNamed B.named B.method).1⟩ rfl
  have b' := b s.heap [] ls hP hD va_S.rf (by rw [show (kc (p, e, (headSpec (Cond.codeWith y cc nL ret hh :: Gw) rm).room, s, m, as.toArray, below, meth, c)).maxLocals = nL from hml]; exact hl1)
  exact b'
/-! what a spec says at a branch, a check, a call -/
theorem nn_ {α : Type} {z : α} {C : Prop} (h : some z = none) : C := by cases h
def b1 {α β : Type} (x : Option α) (f : α → Option β) : Option β := match x with
  | some a => f a
  | none => none
def b2 {α β κ : Type} (x : Option (α × β)) (f : α → β → Option κ) : Option κ := match x with
  | some (a, b) => f a b
  | none => none
def b3 {α β δ κ : Type} (x : Option (α × β × δ)) (f : α → β → δ → Option κ) : Option κ := match x with
  | some (a, b, d) => f a b d
  | none => none
def bx {α κ : Type} (x : Option (α ⊕ Nat)) (f : α → Option (κ ⊕ Nat)) : Option (κ ⊕ Nat) := match x with
  | some (.inl a) => f a
  | some (.inr k) => some (.inr k)
  | none => none
def bc {α κ : Type} (x : Option (α ⊕ Nat)) (f : α → Option κ) (g : Nat → Option κ) : Option κ := match x with
  | some (.inl a) => f a
  | some (.inr k) => g k
  | none => none
theorem o1 {α β : Type} {x : Option α} {f : α → Option β} {z : β} (h : some z = b1 x f) : ∃ a, x = some a ∧ some z = f a := by
  cases x with
  | none => cases h
  | some a => exact ⟨a, rfl, h⟩
theorem o2 {α β κ : Type} {x : Option (α × β)} {f : α → β → Option κ} {z : κ} (h : some z = b2 x f) : ∃ a b, x = some (a, b) ∧ some z = f a b := by
  cases x with
  | none => cases h
  | some a => obtain ⟨a, b⟩ := a; exact ⟨a, b, rfl, h⟩
theorem o3 {α β δ κ : Type} {x : Option (α × β × δ)} {f : α → β → δ → Option κ} {z : κ} (h : some z = b3 x f) : ∃ a b d, x = some (a, b, d) ∧ some z = f a b d := by
  cases x with
  | none => cases h
  | some a => obtain ⟨a, b, d⟩ := a; exact ⟨a, b, d, rfl, h⟩
theorem ox {α κ : Type} {x : Option (α ⊕ Nat)} {f : α → Option (κ ⊕ Nat)} {z : κ ⊕ Nat} (h : some z = bx x f) : (∃ a, x = some (.inl a) ∧ some z = f a) ∨ (∃ k, x = some (.inr k) ∧ z = .inr k) := by
  cases x with
  | none => cases h
  | some a =>
    cases a with
    | inl a => exact Or.inl ⟨a, rfl, h⟩
    | inr k => exact Or.inr ⟨k, rfl, Option.some.inj h⟩
theorem oc {α κ : Type} {x : Option (α ⊕ Nat)} {f : α → Option κ} {g : Nat → Option κ} {z : κ} (h : some z = bc x f g) : (∃ a, x = some (.inl a) ∧ some z = f a) ∨ (∃ k, x = some (.inr k) ∧ some z = g k) := by
  cases x with
  | none => cases h
  | some a =>
    cases a with
    | inl a => exact Or.inl ⟨a, rfl, h⟩
    | inr k => exact Or.inr ⟨k, rfl, h⟩
