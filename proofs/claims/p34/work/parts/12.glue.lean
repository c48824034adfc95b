/-! names for values and states: what a spec binds by 'sl', the walk may forget -/
def sl {α β : Type} (a : α) (f : α → Option β) : Option β := f a
section GLU
variable {l : Launch} {γ : Gd} {X : CX} {M : MX} {w w' : va_W} {L L' : List (Option Value)} {cs ss pc : Nat} {st : List Value}
theorem r_nmI {α : Type} {u : α} {x : Int32} {f : Int32 → Option α} (hR : some u = sl x f) (k : ∀ x1 : Int32, some u = f x1 → V l γ X M w L cs ss pc (.int x1 :: st)) : V l γ X M w L cs ss pc (.int x :: st) := k x hR
theorem r_nmL {α : Type} {u : α} {x : Int64} {f : Int64 → Option α} (hR : some u = sl x f) (k : ∀ x1 : Int64, some u = f x1 → V l γ X M w L cs ss pc (.long x1 :: st)) : V l γ X M w L cs ss pc (.long x :: st) := k x hR
theorem r_nmS {S α : Type} {u : α} {s : S} {f : S → Option α} (wf : S → va_W) (hR : some u = sl s f) (k : ∀ s1 : S, some u = f s1 → V l γ X M (wf s1) L cs ss pc st) : V l γ X M (wf s) L cs ss pc st := k s hR
/-- locals that nobody reads any more -/
def msk : List Bool → List (Option Value) → List (Option Value)
  | true :: b, o :: t => o :: msk b t
  | false :: b, _ :: t => none :: msk b t
  | _, _ => []
theorem msk_get : ∀ (b : List Bool) (L : List (Option Value)) (k : Nat) (v : Value), (msk b L)[k]? = some (some v) → L[k]? = some (some v)
  | [], _, _, _, h => by simp [msk] at h
  | true :: _, [], _, _, h => by simp [msk] at h
  | false :: _, [], _, _, h => by simp [msk] at h
  | true :: b, o :: t, 0, v, h => by simpa [msk] using h
  | true :: b, o :: t, k + 1, v, h => by
    simp only [msk, List.getElem?_cons_succ] at h ⊢
    exact msk_get b t k v h
  | false :: b, o :: t, 0, v, h => by simp [msk] at h
  | false :: b, o :: t, k + 1, v, h => by
    simp only [msk, List.getElem?_cons_succ] at h ⊢
    exact msk_get b t k v h
theorem r_msk (b : List Bool) (L' : List (Option Value)) (hL : msk b L = L') (k : V l γ X M w L' cs ss pc st) : V l γ X M w L cs ss pc st := by
  intro H locs ls hP hD hS hl
  refine k H locs ls hP hD hS (lvs_weak hl (fun q hq => ?_))
  subst hL
  obtain ⟨j, h1, h2⟩ := lvs_mem.mp hq
  exact lvs_mem.mpr ⟨j, msk_get _ _ _ _ h1, h2⟩
end GLU
/-! the ends -/
theorem lfi {S : Type} (wf : S → va_W) {v x : Int32} {s1 s2 : S} (h : some (v, s1) = some (x, s2)) : Pr (some (.int v)) (wf s1) (.inl (some (.int x))) (wf s2) := by cases h; exact ⟨rfl, rfl⟩
theorem lfi0 {w : va_W} {v x : Int32} (h : some v = some x) : Pr (some (.int v)) w (.inl (some (.int x))) w := by cases h; exact ⟨rfl, rfl⟩
theorem lfl0 {w : va_W} {v x : Int64} (h : some v = some x) : Pr (some (.long v)) w (.inl (some (.long x))) w := by cases h; exact ⟨rfl, rfl⟩
theorem lfv {S : Type} (wf : S → va_W) {s1 s2 : S} (h : some s1 = some s2) : Pr none (wf s1) (.inl none) (wf s2) := by cases h; exact ⟨rfl, rfl⟩
theorem lfv0 {w : va_W} : Pr none w (.inl none) w := ⟨rfl, rfl⟩
/-! methods that may throw: the outcome is known by the spec -/
def mcz {α : Type} : α ⊕ Nat → Nat
  | .inl _ => 0
  | .inr _ => 1
def msz {α : Type} : α ⊕ Nat → Nat
  | .inl _ => 0
  | .inr _ => 6
def Pzi {S : Type} (wf : S → va_W) (w0 : va_W) : (Int32 × S) ⊕ Nat → Ro → va_W → Prop
  | .inl (v, s) => Pr (some (.int v)) (wf s)
  | .inr k => Px k w0
def Pzi0 (w0 : va_W) : Int32 ⊕ Nat → Ro → va_W → Prop
  | .inl v => Pr (some (.int v)) w0
  | .inr k => Px k w0
def Pzv0 (w0 : va_W) : Unit ⊕ Nat → Ro → va_W → Prop
  | .inl _ => Pr none w0
  | .inr k => Px k w0
theorem lzi {S : Type} (wf : S → va_W) (w0 : va_W) {z : (Int32 × S) ⊕ Nat} {x : Int32} {s2 : S} (h : some z = some (.inl (x, s2))) : Pzi wf w0 z (.inl (some (.int x))) (wf s2) := by cases h; exact ⟨rfl, rfl⟩
theorem lzi0 {w0 : va_W} {z : Int32 ⊕ Nat} {x : Int32} (h : some z = some (.inl x)) : Pzi0 w0 z (.inl (some (.int x))) w0 := by cases h; exact ⟨rfl, rfl⟩
theorem lzv0 {w0 : va_W} {z : Unit ⊕ Nat} (h : some z = some (.inl ())) : Pzv0 w0 z (.inl none) w0 := by cases h; exact ⟨rfl, rfl⟩
theorem lxi {S : Type} (wf : S → va_W) {w0 : va_W} {z : (Int32 × S) ⊕ Nat} {k : Nat} (h : z = .inr k) : Pzi wf w0 z (.inr k) w0 := by cases h; exact ⟨rfl, rfl⟩
theorem lxi0 {w0 : va_W} {z : Int32 ⊕ Nat} {k : Nat} (h : z = .inr k) : Pzi0 w0 z (.inr k) w0 := by cases h; exact ⟨rfl, rfl⟩
theorem lxv0 {w0 : va_W} {z : Unit ⊕ Nat} {k : Nat} (h : z = .inr k) : Pzv0 w0 z (.inr k) w0 := by cases h; exact ⟨rfl, rfl⟩
theorem zc {α : Type} {z : α ⊕ Nat} {k : Nat} (h : z = .inr k) : 0 + 1 ≤ mcz z := by cases h; exact Nat.le_refl _
theorem zs {α : Type} {z : α ⊕ Nat} {k : Nat} (h : z = .inr k) : 0 + 6 ≤ msz z := by cases h; exact Nat.le_refl _
