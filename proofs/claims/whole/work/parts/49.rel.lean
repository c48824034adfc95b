/-! THE RELATION -/
def Sg (σ : St) : Prop := ∀ c, c < 24 → ∃ s, s < 8 ∧ σ 9 c = ι s
def Dp (σ μ : St) : Prop := ∀ c, c < 24 → σ 3 c = if σ 2 c = 0 then μ 4 c else 0
def Sz (nM : Nat) (μ : St) : Prop := ∀ m, nM ≤ m → m < 20 → μ 12 m = 0
def Tt (μ : St) : Prop := ∀ m, m < 20 → μ 13 m = 0 ∨ μ 13 m = 1
def Z0 (hr : Nat) (σ : St) : Prop := hr = 0 → ∀ c, c < 24 → σ 4 c = 0 ∧ σ 5 c = 0 ∧ σ 6 c = 0
def Tp (nM : Nat) (σ : St) : Prop := ∀ m, m < nM → σ 15 m = 2 → ∃ p, p ≤ 50 ∧ σ 18 m = ι p
def RDm (δ μ : St) : Prop := (∃ n, n ≤ 3 ∧ δ 0 0 = ι n ∧ μ 0 22 = ι n) ∧ δ 0 3 = μ 0 21 ∧ (∀ i, i < 2 → δ 1 i = μ 15 i) ∧ ∀ i, i < 6 → δ 2 i = μ 16 i
def RPm (π : St × Int64) (μ : St) : Prop := ∃ n, n ≤ 20 ∧ π.1 0 0 = ι n ∧ μ 0 24 = ι n ∧ (∃ a, a ≤ 10000000 ∧ π.1 0 1 = Int32.ofNat a ∧ μ 0 26 = Int32.ofNat a) ∧ (∃ b, b ≤ 10000000 ∧ π.1 0 2 = Int32.ofNat b ∧ μ 0 27 = Int32.ofNat b) ∧ (∀ i, i < n → π.1 1 i = μ 17 i ∧ 1 ≤ (μ 17 i).toInt ∧ (μ 17 i).toInt ≤ 1000000) ∧ π.2.toInt = Sm n (fun i => (μ 17 i).toInt)
def RR (nS nM hr : Nat) (σ δ : St) (π : St × Int64) (μ : St) : Prop := Jn True nS nM hr (100000 * (nS : Int)) σ μ ∧ hr ≤ 2000 ∧ Ex True σ ∧ Sg σ ∧ Dp σ μ ∧ Sz nM μ ∧ Tt μ ∧ Z0 hr σ ∧ Tp nM σ ∧ RDm δ μ ∧ RPm π μ
def Rel (z : S7) : Prop := ∃ nS nM hr, RR nS nM hr z.1 z.2.2.2.1 z.2.2.2.2.1 z.2.2.2.2.2.2
/-- the reference's last word on exceptions -/
def th (μ : St) (x : Int32) : St := stU μ 0 28 x
theorem no28 {e : Prop} : ∀ a b, Dm e a b → ρ a b ≠ (0, 28) := by
  intro a b hab q
  have h := ρb_ρ (dmu a b hab)
  rw [q] at h
  cases h
  exact absurd hab.2 (by decide)
theorem Rd.th {e : Prop} {σ μ : St} (h : Rd (Dm e) σ μ) {x : Int32} : Rd (Dm e) σ (th μ x) := h.right no28
theorem Jn.th {e : Prop} {nS nM hr : Nat} {K : Int} {σ μ : St} (h : Jn e nS nM hr K σ μ) {x : Int32} : Jn e nS nM hr K σ (th μ x) := ⟨h.1.th, h.2.1.right (by decide), h.2.2⟩
theorem RR.th {nS nM hr : Nat} {σ δ μ : St} {π : St × Int64} (h : RR nS nM hr σ δ π μ) {x : Int32} : RR nS nM hr σ δ π (th μ x) := by
  obtain ⟨h1, h2, h3, h4, h5, h6, h7, h8, h9, h10, h11⟩ := h
  exact ⟨h1.th, h2, h3, h4, h5, h6, h7, h8, h9, h10, h11⟩
theorem th_th (μ : St) (a b : Int32) : th (th μ a) b = th μ b := by
  unfold th
  funext k i
  rw [stU_ite, stU_ite, stU_ite]
  by_cases h : k = 0 ∧ i = 28
  · rw [if_pos h, if_pos h]
  · rw [if_neg h, if_neg h, if_neg h]
theorem th_r (μ : St) (x : Int32) : th μ x 0 28 = x := rfl
theorem b2s {α β κ : Type} (a : α) (b : β) (f : α → β → Option κ) : b2 (some (a, b)) f = f a b := rfl
theorem bxl {α κ : Type} (a : α) (f : α → Option (κ ⊕ Nat)) : bx (some (.inl a)) f = f a := rfl
theorem bxr {α κ : Type} (k : Nat) (f : α → Option (κ ⊕ Nat)) : bx (some (.inr k)) f = some (.inr k) := rfl
theorem fl1 (c : Int32) (μ : St) : sp_X10_fails 1 c μ = some (0, th μ 0) := rfl
theorem fl0 (c : Int32) (μ : St) : sp_X10_fails 0 c μ = some (1, th μ c) := rfl
theorem i10 : ((1 : Int32) = 0) = False := by decide
theorem i00 : ((0 : Int32) = 0) = True := by decide
theorem i11 : ((1 : Int32) = 1) = True := by decide
theorem i01 : ((0 : Int32) = 1) = False := by decide
theorem lg_self (x : Int64) : lg_cmp x x = 0 := by
  unfold lg_cmp
  rw [if_neg (Int64.lt_irrefl), if_pos rfl]
/-! the end of a call -/
theorem e3_ok {α : Type} {X : Option ((Int32 × α) ⊕ Nat)} {Y : Option (Int32 × St)} {a' : α} {μ' : St} {ω : Nat → Int64} {v : Int32} {H : Nat → Option (Int32 × α × (Nat → Int64))} (mk : α → (Nat → Int64) → St → S7) (h9 : X = some (.inl (v, a'))) (h10 : Y = some (v, μ')) (ht : μ' 0 28 = 0) :
    b3 (bc2 X (fun x1 σ2 => sl (vp_updL ω (0 : Int32).toNatClampNeg x1.toInt64) (fun ω3 => some ((0 : Int32), σ2, ω3))) H) (fun x1 σ2 ω3 => b2 Y (fun x4 μ5 => b1 (sp_X10_thrown μ5) (fun x6 => if x6 = x1 then (if x1 = 0 then (if lg_cmp (ω3 (0 : Int32).toNatClampNeg) x4.toInt64 = 0 then some (mk σ2 ω3 μ5) else none) else some (mk σ2 ω3 μ5)) else none))) = some (mk a' (vp_updL ω (0 : Int32).toNatClampNeg v.toInt64) μ') := by
  subst h9; subst h10
  show (if μ' 0 28 = (0 : Int32) then (if (0 : Int32) = 0 then (if lg_cmp v.toInt64 v.toInt64 = 0 then some _ else none) else some _) else none) = _
  rw [if_pos ht, if_pos rfl, if_pos (lg_self _)]
theorem e3_ex {α : Type} {X : Option ((Int32 × α) ⊕ Nat)} {Y : Option (Int32 × St)} {a : α} {μ' : St} {ω : Nat → Int64} {v c : Int32} {k : Nat} {F : Int32 → α → Option (Int32 × α × (Nat → Int64))} {H : Nat → Option (Int32 × α × (Nat → Int64))} (mk : α → (Nat → Int64) → St → S7) (h9 : X = some (.inr k)) (hH : H k = some (c, a, ω)) (h10 : Y = some (v, μ')) (ht : μ' 0 28 = c) (hc : ¬ c = 0) :
    b3 (bc2 X F H) (fun x1 σ2 ω3 => b2 Y (fun x4 μ5 => b1 (sp_X10_thrown μ5) (fun x6 => if x6 = x1 then (if x1 = 0 then (if lg_cmp (ω3 (0 : Int32).toNatClampNeg) x4.toInt64 = 0 then some (mk σ2 ω3 μ5) else none) else some (mk σ2 ω3 μ5)) else none))) = some (mk a ω μ') := by
  subst h9; subst h10
  show b3 (H k) _ = _
  rw [hH]
  show (if μ' 0 28 = c then (if c = 0 then _ else some _) else none) = _
  rw [if_pos ht, if_neg hc]
theorem e2_ok {X : Option (Int32 ⊕ Nat)} {Y : Option (Int32 × St)} {μ' : St} {ω : Nat → Int64} {v : Int32} {H : Nat → Option (Int32 × (Nat → Int64))} (mk : (Nat → Int64) → St → S7) (h9 : X = some (.inl v)) (h10 : Y = some (v, μ')) (ht : μ' 0 28 = 0) :
    b2 (bc1 X (fun x1 => sl (vp_updL ω (0 : Int32).toNatClampNeg x1.toInt64) (fun ω3 => some ((0 : Int32), ω3))) H) (fun x1 ω3 => b2 Y (fun x4 μ5 => b1 (sp_X10_thrown μ5) (fun x6 => if x6 = x1 then (if x1 = 0 then (if lg_cmp (ω3 (0 : Int32).toNatClampNeg) x4.toInt64 = 0 then some (mk ω3 μ5) else none) else some (mk ω3 μ5)) else none))) = some (mk (vp_updL ω (0 : Int32).toNatClampNeg v.toInt64) μ') := by
  subst h9; subst h10
  show (if μ' 0 28 = (0 : Int32) then (if (0 : Int32) = 0 then (if lg_cmp v.toInt64 v.toInt64 = 0 then some _ else none) else some _) else none) = _
  rw [if_pos ht, if_pos rfl, if_pos (lg_self _)]
theorem e2_ex {X : Option (Int32 ⊕ Nat)} {Y : Option (Int32 × St)} {μ' : St} {ω : Nat → Int64} {v c : Int32} {k : Nat} {F : Int32 → Option (Int32 × (Nat → Int64))} {H : Nat → Option (Int32 × (Nat → Int64))} (mk : (Nat → Int64) → St → S7) (h9 : X = some (.inr k)) (hH : H k = some (c, ω)) (h10 : Y = some (v, μ')) (ht : μ' 0 28 = c) (hc : ¬ c = 0) :
    b2 (bc1 X F H) (fun x1 ω3 => b2 Y (fun x4 μ5 => b1 (sp_X10_thrown μ5) (fun x6 => if x6 = x1 then (if x1 = 0 then (if lg_cmp (ω3 (0 : Int32).toNatClampNeg) x4.toInt64 = 0 then some (mk ω3 μ5) else none) else some (mk ω3 μ5)) else none))) = some (mk ω μ') := by
  subst h9; subst h10
  show b2 (H k) _ = _
  rw [hH]
  show (if μ' 0 28 = c then (if c = 0 then _ else some _) else none) = _
  rw [if_pos ht, if_neg hc]
theorem e4_ok {α β : Type} {X : Option ((Int32 × α × β) ⊕ Nat)} {Y : Option (Int32 × St)} {a' : α} {d' : β} {μ' : St} {ω : Nat → Int64} {v : Int32} {H : Nat → Option (Int32 × α × β × (Nat → Int64))} (mk : α → β → (Nat → Int64) → St → S7) (h9 : X = some (.inl (v, a', d'))) (h10 : Y = some (v, μ')) (ht : μ' 0 28 = 0) :
    b4 (bc3 X (fun x1 σ2 δ3 => sl (vp_updL ω (0 : Int32).toNatClampNeg x1.toInt64) (fun ω3 => some ((0 : Int32), σ2, δ3, ω3))) H) (fun x1 σ2 δ3 ω3 => b2 Y (fun x4 μ5 => b1 (sp_X10_thrown μ5) (fun x6 => if x6 = x1 then (if x1 = 0 then (if lg_cmp (ω3 (0 : Int32).toNatClampNeg) x4.toInt64 = 0 then some (mk σ2 δ3 ω3 μ5) else none) else some (mk σ2 δ3 ω3 μ5)) else none))) = some (mk a' d' (vp_updL ω (0 : Int32).toNatClampNeg v.toInt64) μ') := by
  subst h9; subst h10
  show (if μ' 0 28 = (0 : Int32) then (if (0 : Int32) = 0 then (if lg_cmp v.toInt64 v.toInt64 = 0 then some _ else none) else some _) else none) = _
  rw [if_pos ht, if_pos rfl, if_pos (lg_self _)]
theorem e4_ex {α β : Type} {X : Option ((Int32 × α × β) ⊕ Nat)} {Y : Option (Int32 × St)} {a : α} {d : β} {μ' : St} {ω : Nat → Int64} {v c : Int32} {k : Nat} {F : Int32 → α → β → Option (Int32 × α × β × (Nat → Int64))} {H : Nat → Option (Int32 × α × β × (Nat → Int64))} (mk : α → β → (Nat → Int64) → St → S7) (h9 : X = some (.inr k)) (hH : H k = some (c, a, d, ω)) (h10 : Y = some (v, μ')) (ht : μ' 0 28 = c) (hc : ¬ c = 0) :
    b4 (bc3 X F H) (fun x1 σ2 δ3 ω3 => b2 Y (fun x4 μ5 => b1 (sp_X10_thrown μ5) (fun x6 => if x6 = x1 then (if x1 = 0 then (if lg_cmp (ω3 (0 : Int32).toNatClampNeg) x4.toInt64 = 0 then some (mk σ2 δ3 ω3 μ5) else none) else some (mk σ2 δ3 ω3 μ5)) else none))) = some (mk a d ω μ') := by
  subst h9; subst h10
  show b4 (H k) _ = _
  rw [hH]
  show (if μ' 0 28 = c then (if c = 0 then _ else some _) else none) = _
  rw [if_pos ht, if_neg hc]
/-! arguments -/
theorem nn24 (p : Int32) : (∃ c, c < 24 ∧ p = ι c) ∨ (sp_X9_needNumber p 24 = some (.inr 1) ∧ sp_X10_isCell p = some 0) := by
  by_cases h : p < 0
  · refine Or.inr ⟨?_, ?_⟩
    · unfold sp_X9_needNumber; rw [if_pos h]; rfl
    · unfold sp_X10_isCell sp_X10_in; rw [if_pos h]; rfl
  · by_cases h2 : p < 24
    · refine Or.inl (of_range h ?_ (by decide))
      rw [Int32.le_iff_toInt_le, show (ι 24).toInt = 24 from rfl]
      rw [Int32.lt_iff_toInt_lt, show (24 : Int32).toInt = 24 from rfl] at h2
      omega
    · refine Or.inr ⟨?_, ?_⟩
      · unfold sp_X9_needNumber; rw [if_neg h, if_neg h2]; rfl
      · unfold sp_X10_isCell sp_X10_in
        rw [if_neg h, if_pos (by rw [Int32.lt_iff_toInt_lt, show (24 : Int32).toInt = 24 from rfl] at h2; rw [Int32.lt_iff_toInt_lt, show (23 : Int32).toInt = 23 from rfl]; omega)]
        rfl
theorem nc9 : ∀ c, c < 24 → sp_X9_needNumber (ι c) 24 = some (.inl ()) := by decide +kernel
theorem nc10 : ∀ c, c < 24 → sp_X10_isCell (ι c) = some 1 := by decide +kernel
/-- numbers below a count -/
theorem nnN (p : Int32) {n : Nat} (hn : n < 100) : (∃ c, c < n ∧ p = ι c ∧ sp_X9_needNumber p (ι n) = some (.inl ()) ∧ sp_X10_in p 0 (ι n - 1) = some 1) ∨ (sp_X9_needNumber p (ι n) = some (.inr 1) ∧ sp_X10_in p 0 (ι n - 1) = some 0) := by
  have e1 : (ι n - 1).toInt = (n : Int) - 1 := by
    rw [t_sub (by rw [ι_toInt (by omega)]; show _ ≤ _ - (1 : Int); omega) (by rw [ι_toInt (by omega)]; show _ - (1 : Int) ≤ _; omega), ι_toInt (by omega)]; rfl
  by_cases h : p < 0
  · refine Or.inr ⟨?_, ?_⟩
    · unfold sp_X9_needNumber; rw [if_pos h]; rfl
    · unfold sp_X10_in; rw [if_pos h]
  · by_cases h2 : p < ι n
    · have h3 : ¬ ι n ≤ p := by rw [Int32.le_iff_toInt_le]; rw [Int32.lt_iff_toInt_lt] at h2; omega
      obtain ⟨c, hc, e⟩ := of_range h h3 (by omega)
      refine Or.inl ⟨c, hc, e, ?_, ?_⟩
      · unfold sp_X9_needNumber; rw [if_neg h, if_pos h2]
      · unfold sp_X10_in
        rw [if_neg h, if_neg (by rw [Int32.lt_iff_toInt_lt, e1]; rw [Int32.lt_iff_toInt_lt, ι_toInt (by omega)] at h2; omega)]
    · refine Or.inr ⟨?_, ?_⟩
      · unfold sp_X9_needNumber; rw [if_neg h, if_neg h2]; rfl
      · unfold sp_X10_in
        rw [if_neg h, if_pos (by rw [Int32.lt_iff_toInt_lt, e1]; rw [Int32.lt_iff_toInt_lt, ι_toInt (by omega)] at h2; omega)]
theorem nrg (p a b : Int32) : (a.toInt ≤ p.toInt ∧ p.toInt ≤ b.toInt ∧ sp_X9_needRange p a b = some (.inl ()) ∧ sp_X10_in p a b = some 1) ∨ (sp_X9_needRange p a b = some (.inr 2) ∧ sp_X10_in p a b = some 0) := by
  unfold sp_X9_needRange sp_X10_in
  by_cases h : p < a
  · rw [if_pos h, if_pos h]; exact Or.inr ⟨rfl, rfl⟩
  · rw [if_neg h, if_neg h]
    by_cases h2 : p ≤ b
    · have h3 : ¬ b < p := by rw [Int32.lt_iff_toInt_lt]; rw [Int32.le_iff_toInt_le] at h2; omega
      rw [if_pos h2, if_neg h3]
      rw [Int32.lt_iff_toInt_lt] at h
      rw [Int32.le_iff_toInt_le] at h2
      exact Or.inl ⟨by omega, h2, rfl, rfl⟩
    · have h3 : b < p := by rw [Int32.lt_iff_toInt_lt]; rw [Int32.le_iff_toInt_le] at h2; omega
      rw [if_neg h2, if_pos h3]; exact Or.inr ⟨rfl, rfl⟩
theorem th_k1 (μ : St) (x : Int32) : th μ x 1 = μ 1 := rfl
theorem th_k2 (μ : St) (x : Int32) : th μ x 2 = μ 2 := rfl
theorem th_k3 (μ : St) (x : Int32) : th μ x 3 = μ 3 := rfl
theorem th_k4 (μ : St) (x : Int32) : th μ x 4 = μ 4 := rfl
theorem th_k5 (μ : St) (x : Int32) : th μ x 5 = μ 5 := rfl
theorem th_k6 (μ : St) (x : Int32) : th μ x 6 = μ 6 := rfl
theorem th_k7 (μ : St) (x : Int32) : th μ x 7 = μ 7 := rfl
theorem th_k8 (μ : St) (x : Int32) : th μ x 8 = μ 8 := rfl
theorem th_k9 (μ : St) (x : Int32) : th μ x 9 = μ 9 := rfl
theorem th_k10 (μ : St) (x : Int32) : th μ x 10 = μ 10 := rfl
theorem th_k11 (μ : St) (x : Int32) : th μ x 11 = μ 11 := rfl
theorem th_k12 (μ : St) (x : Int32) : th μ x 12 = μ 12 := rfl
theorem th_k13 (μ : St) (x : Int32) : th μ x 13 = μ 13 := rfl
theorem th_k14 (μ : St) (x : Int32) : th μ x 14 = μ 14 := rfl
theorem th_k15 (μ : St) (x : Int32) : th μ x 15 = μ 15 := rfl
theorem th_k16 (μ : St) (x : Int32) : th μ x 16 = μ 16 := rfl
theorem th_k17 (μ : St) (x : Int32) : th μ x 17 = μ 17 := rfl
theorem th_0_5 (μ : St) (x : Int32) : th μ x 0 5 = μ 0 5 := rfl
theorem th_0_6 (μ : St) (x : Int32) : th μ x 0 6 = μ 0 6 := rfl
theorem th_0_7 (μ : St) (x : Int32) : th μ x 0 7 = μ 0 7 := rfl
theorem th_0_10 (μ : St) (x : Int32) : th μ x 0 10 = μ 0 10 := rfl
theorem th_0_18 (μ : St) (x : Int32) : th μ x 0 18 = μ 0 18 := rfl
theorem th_0_19 (μ : St) (x : Int32) : th μ x 0 19 = μ 0 19 := rfl
theorem th_0_21 (μ : St) (x : Int32) : th μ x 0 21 = μ 0 21 := rfl
theorem th_0_22 (μ : St) (x : Int32) : th μ x 0 22 = μ 0 22 := rfl
theorem th_0_24 (μ : St) (x : Int32) : th μ x 0 24 = μ 0 24 := rfl
theorem th_0_26 (μ : St) (x : Int32) : th μ x 0 26 = μ 0 26 := rfl
theorem th_0_27 (μ : St) (x : Int32) : th μ x 0 27 = μ 0 27 := rfl
