/-! THE EQUIVALENCE: class against reference, no machine any more -/
/-- the Int32 of a place -/
def ι (c : Nat) : Int32 := Int32.ofNat c
theorem ι_toInt {c : Nat} (h : c < 100000) : (ι c).toInt = (c : Int) := by
  unfold ι
  rw [Int32.toInt_ofNat_of_lt (by omega)]
theorem ι_nat {c : Nat} (h : c < 100000) : (ι c).toNatClampNeg = c := by
  have := ι_toInt h
  rw [Int32.toNatClampNeg, this]
  rfl
theorem ι_add (a b : Nat) : ι a + ι b = ι (a + b) := (Int32.ofNat_add a b).symm
theorem ι_one (a : Nat) : ι a + 1 = ι (a + 1) := ι_add a 1
theorem ι_lt {a b : Nat} (ha : a < 100000) (hb : b < 100000) : ι a < ι b ↔ a < b := by
  rw [Int32.lt_iff_toInt_lt, ι_toInt ha, ι_toInt hb]; omega
theorem ι_le {a b : Nat} (ha : a < 100000) (hb : b < 100000) : ι a ≤ ι b ↔ a ≤ b := by
  rw [Int32.le_iff_toInt_le, ι_toInt ha, ι_toInt hb]; omega
theorem ι_inj {a b : Nat} (ha : a < 100000) (hb : b < 100000) : ι a = ι b ↔ a = b := by
  rw [← Int32.toInt_inj, ι_toInt ha, ι_toInt hb]; omega
/-- an index that is in range: the test goes on -/
theorem ix {α : Type} {c n : Nat} {A B : α} (h : c < n) (hn : n < 100000) : (if ι c < 0 ∨ n ≤ (ι c).toNatClampNeg then A else B) = B := by
  refine if_neg ?_
  rw [ι_nat (by omega), show (0 : Int32) = ι 0 from rfl, ι_lt (by omega) (by omega)]
  omega
theorem of_range {x : Int32} {n : Nat} (h0 : ¬ x < 0) (h1 : ¬ (ι n ≤ x)) (hn : n < 100000) : ∃ c, c < n ∧ x = ι c := by
  rw [Int32.lt_iff_toInt_lt] at h0
  rw [Int32.le_iff_toInt_le, ι_toInt hn] at h1
  refine ⟨x.toInt.toNat, ?_, ?_⟩
  · have : (0 : Int32).toInt = 0 := rfl
    omega
  · rw [← Int32.toInt_inj, ι_toInt (by have : (0 : Int32).toInt = 0 := rfl; omega)]
    have : (0 : Int32).toInt = 0 := rfl
    omega
/-! stores -/
theorem stU_same (σ : St) (k i : Nat) (x : Int32) : stU σ k i x k i = x := by unfold stU upd; rw [if_pos rfl, if_pos rfl]
theorem stU_k {σ : St} {k i k2 i2 : Nat} {x : Int32} (h : k2 ≠ k) : stU σ k i x k2 i2 = σ k2 i2 := by unfold stU; rw [if_neg h]
theorem stU_i {σ : St} {k i i2 : Nat} {x : Int32} (h : i2 ≠ i) : stU σ k i x k i2 = σ k i2 := by unfold stU upd; rw [if_pos rfl, if_neg h]
theorem stU_ite (σ : St) (k i k2 i2 : Nat) (x : Int32) : stU σ k i x k2 i2 = if k2 = k ∧ i2 = i then x else σ k2 i2 := by
  unfold stU upd
  by_cases h : k2 = k
  · subst h
    rw [if_pos rfl]
    by_cases h2 : i2 = i
    · rw [if_pos h2, if_pos ⟨rfl, h2⟩]
    · rw [if_neg h2, if_neg (fun e => h2 e.2)]
  · rw [if_neg h, if_neg (fun e => h e.1)]
theorem stU_self (σ : St) (k i : Nat) : stU σ k i (σ k i) = σ := by
  funext a b
  rw [stU_ite]
  by_cases h : a = k ∧ b = i
  · rw [if_pos h, h.1, h.2]
  · rw [if_neg h]
/-! the same place in class and reference -/
def ρ (k i : Nat) : Nat × Nat := match k with
  | 0 => if i = 4 then (1, 168) else (0, i)
  | 2 => (3, i)
  | 4 => (1, i)
  | 5 => (1, 24 + i)
  | 6 => (1, 48 + i)
  | 7 => (1, 72 + i)
  | 8 => (1, 96 + i)
  | 9 => (1, 120 + i)
  | 10 => (0, 7)
  | 11 => (6, i)
  | 12 => (1, 144 + i)
  | 13 => (7, i)
  | 14 => (0, 10)
  | 15 => (8, i)
  | 16 => (9, i)
  | 18 => (11, i)
  | 19 => (12, i)
  | 20 => (1, 148 + i)
  | 21 => (13, i)
  | 22 => (14, i)
  | 23 => if i < 5 then (1, 169 + i) else (0, i + 13)
  | 24 => (5, i)
  | _ => (5, 24 + i)
/-- the places that answer to each other; e: the trial bay lacks some -/
def Dm (e : Prop) (k i : Nat) : Prop := match k with
  | 0 => i = 4 ∨ i = 5 ∨ i = 6
  | 2 => i < 24
  | 4 => i < 24
  | 5 => i < 24
  | 6 => i < 24
  | 7 => e ∧ i < 24
  | 8 => e ∧ i < 24
  | 9 => e ∧ i < 24
  | 10 => i = 0
  | 11 => i < 4
  | 12 => i < 4
  | 13 => i < 4
  | 14 => i = 0
  | 15 => i < 20
  | 16 => i < 20
  | 18 => i < 20
  | 19 => i < 20
  | 20 => i < 20
  | 21 => e ∧ i < 20
  | 22 => e ∧ i < 20
  | 23 => e ∧ i < 7
  | _ => False
/-- .. with the rows of what goes -/
def Dg (e : Prop) (k i : Nat) : Prop := Dm e k i ∨ ((k = 24 ∨ k = 25) ∧ i < 24)
def ρb (p : Nat × Nat) : Nat × Nat := match p.1 with
  | 0 => if p.2 = 7 then (10, 0) else if p.2 = 10 then (14, 0) else if p.2 < 18 then (0, p.2) else (23, p.2 - 13)
  | 1 => if p.2 < 24 then (4, p.2) else if p.2 < 48 then (5, p.2 - 24) else if p.2 < 72 then (6, p.2 - 48) else if p.2 < 96 then (7, p.2 - 72) else if p.2 < 120 then (8, p.2 - 96) else if p.2 < 144 then (9, p.2 - 120) else if p.2 < 148 then (12, p.2 - 144) else if p.2 < 168 then (20, p.2 - 148) else if p.2 = 168 then (0, 4) else (23, p.2 - 169)
  | 3 => (2, p.2)
  | 5 => if p.2 < 24 then (24, p.2) else (25, p.2 - 24)
  | 6 => (11, p.2)
  | 7 => (13, p.2)
  | 8 => (15, p.2)
  | 9 => (16, p.2)
  | 11 => (18, p.2)
  | 12 => (19, p.2)
  | 13 => (21, p.2)
  | _ => (22, p.2)
def dB (k i : Nat) : Bool := match k with
  | 0 => i == 4 || i == 5 || i == 6
  | 2 => Nat.blt i 24
  | 4 => Nat.blt i 24
  | 5 => Nat.blt i 24
  | 6 => Nat.blt i 24
  | 7 => Nat.blt i 24
  | 8 => Nat.blt i 24
  | 9 => Nat.blt i 24
  | 10 => i == 0
  | 11 => Nat.blt i 4
  | 12 => Nat.blt i 4
  | 13 => Nat.blt i 4
  | 14 => i == 0
  | 15 => Nat.blt i 20
  | 16 => Nat.blt i 20
  | 18 => Nat.blt i 20
  | 19 => Nat.blt i 20
  | 20 => Nat.blt i 20
  | 21 => Nat.blt i 20
  | 22 => Nat.blt i 20
  | 23 => Nat.blt i 7
  | 24 => Nat.blt i 24
  | 25 => Nat.blt i 24
  | _ => false
theorem dB_all : ∀ k, k < 26 → ∀ i, i < 24 → dB k i = true → ρb (ρ k i) = (k, i) := by decide +kernel
theorem blt_ {a b : Nat} (h : a < b) : Nat.blt a b = true := Nat.ble_eq_true_of_le h
theorem ρb_ρ {k i : Nat} (h : Dg True k i) : ρb (ρ k i) = (k, i) := by
  have key : k < 26 ∧ i < 24 ∧ dB k i = true := by
    rcases h with h | ⟨h, hi⟩
    · unfold Dm at h
      split at h
      · rcases h with rfl | rfl | rfl <;> exact ⟨by omega, by omega, rfl⟩
      all_goals first
        | exact h.elim
        | exact ⟨by omega, by omega, blt_ h⟩
        | exact ⟨by omega, by omega, blt_ h.2⟩
        | (subst h; exact ⟨by omega, by omega, rfl⟩)
    · rcases h with rfl | rfl <;> exact ⟨by omega, hi, blt_ hi⟩
  exact dB_all k key.1 i key.2.1 key.2.2
theorem ρ_inj {k i k2 i2 : Nat} (h : Dg True k i) (h2 : Dg True k2 i2) (e : ρ k i = ρ k2 i2) : k = k2 ∧ i = i2 := by
  have := (ρb_ρ h).symm.trans ((congrArg ρb e).trans (ρb_ρ h2))
  exact ⟨congrArg Prod.fst this, congrArg Prod.snd this⟩
theorem Dm.up {e : Prop} {k i : Nat} (h : Dm e k i) : Dm True k i := by
  unfold Dm at h ⊢
  split at h <;> first | exact h | exact ⟨trivial, h.2⟩
theorem Dg.up {e : Prop} {k i : Nat} (h : Dg e k i) : Dg True k i := h.imp Dm.up id
/-- class and reference agree on the places of D -/
def Rd (D : Nat → Nat → Prop) (σ μ : St) : Prop := ∀ k i, D k i → σ k i = μ (ρ k i).1 (ρ k i).2
theorem Rd.mono {D E : Nat → Nat → Prop} {σ μ : St} (h : Rd D σ μ) (hs : ∀ k i, E k i → D k i) : Rd E σ μ := fun k i hk => h k i (hs k i hk)
/-- a store on both sides -/
theorem Rd.upd {D : Nat → Nat → Prop} (hD : ∀ k i, D k i → Dg True k i) {σ μ : St} (h : Rd D σ μ) {k i : Nat} (hk : Dg True k i) {x y : Int32} (hx : D k i → x = y) : Rd D (stU σ k i x) (stU μ (ρ k i).1 (ρ k i).2 y) := by
  intro a b hab
  rw [stU_ite, stU_ite]
  by_cases e : a = k ∧ b = i
  · obtain ⟨rfl, rfl⟩ := e
    rw [if_pos ⟨rfl, rfl⟩, if_pos ⟨rfl, rfl⟩]
    exact hx hab
  · rw [if_neg e, if_neg]
    · exact h a b hab
    · intro e2
      exact e (ρ_inj (hD a b hab) hk (Prod.ext e2.1 e2.2))
/-- a store of the class alone, outside of D -/
theorem Rd.left {D : Nat → Nat → Prop} {σ μ : St} (h : Rd D σ μ) {k i : Nat} (hk : ¬ D k i) {x : Int32} : Rd D (stU σ k i x) μ := by
  intro a b hab
  rw [stU_ite, if_neg]
  · exact h a b hab
  · rintro ⟨rfl, rfl⟩
    exact hk hab
/-- a store of the reference alone, at no place of D -/
theorem Rd.right {D : Nat → Nat → Prop} {σ μ : St} (h : Rd D σ μ) {k i : Nat} {x : Int32} (hk : ∀ a b, D a b → ρ a b ≠ (k, i)) : Rd D σ (stU μ k i x) := by
  intro a b hab
  rw [stU_ite, if_neg]
  · exact h a b hab
  · rintro ⟨e1, e2⟩
    exact hk a b hab (Prod.ext e1 e2)
/-! arithmetic: Int32 by its value -/
theorem tb {x : Int} (h1 : -2147483648 ≤ x) (h2 : x ≤ 2147483647) : x.bmod (2 ^ 32) = x := Int.bmod_eq_of_le (by omega) (by omega)
theorem t_add {a b : Int32} (h1 : -2147483648 ≤ a.toInt + b.toInt) (h2 : a.toInt + b.toInt ≤ 2147483647) : (a + b).toInt = a.toInt + b.toInt := by
  rw [Int32.toInt_add]; exact tb h1 h2
theorem t_sub {a b : Int32} (h1 : -2147483648 ≤ a.toInt - b.toInt) (h2 : a.toInt - b.toInt ≤ 2147483647) : (a - b).toInt = a.toInt - b.toInt := by
  rw [Int32.toInt_sub]; exact tb h1 h2
theorem t_mul {a b : Int32} (h1 : -2147483648 ≤ a.toInt * b.toInt) (h2 : a.toInt * b.toInt ≤ 2147483647) : (a * b).toInt = a.toInt * b.toInt := by
  rw [Int32.toInt_mul]; exact tb h1 h2
theorem t_div {a b : Int32} (ha : 0 ≤ a.toInt) (hb : 0 < b.toInt) : (a / b).toInt = a.toInt / b.toInt := by
  rw [Int32.toInt_div, Int.tdiv_eq_ediv_of_nonneg ha]
  have h1 : a.toInt ≤ 2147483647 := Int32.toInt_le a
  have h2 := Int.ediv_le_self b.toInt ha
  have h3 := Int.ediv_nonneg ha (Int.le_of_lt hb)
  exact tb (by omega) (by omega)
theorem iMin_int (x z : Int32) : (iMin x z).toInt = min x.toInt z.toInt := by
  unfold iMin
  by_cases h : z < x
  · rw [if_pos h]
    rw [Int32.lt_iff_toInt_lt] at h
    omega
  · rw [if_neg h]
    rw [Int32.lt_iff_toInt_lt] at h
    omega
theorem least_eq (a b : Int32) : sp_X10_least a b = some (iMin a b) := by
  unfold sp_X10_least
  by_cases h : b ≤ a
  · rw [if_pos h]; exact congrArg some (Int32.toInt_inj.mp (show b.toInt = (iMin a b).toInt by rw [iMin_int]; rw [Int32.le_iff_toInt_le] at h; omega))
  · rw [if_neg h]; exact congrArg some (Int32.toInt_inj.mp (show a.toInt = (iMin a b).toInt by rw [iMin_int]; rw [Int32.le_iff_toInt_le] at h; omega))
theorem iMin_comm (a b : Int32) : iMin a b = iMin b a := Int32.toInt_inj.mp (by rw [iMin_int, iMin_int]; omega)
