/-! arguments, and what is asked -/
theorem nn24 (p : Int32) : (∃ c, c < 24 ∧ p = ι c) ∨ sp_X9_needNumber p 24 = some (.inr 1) := by
  by_cases h : p < 0
  · refine Or.inr ?_
    unfold sp_X9_needNumber; rw [if_pos h]; rfl
  · by_cases h2 : p < 24
    · refine Or.inl (of_range h ?_ (by decide))
      rw [Int32.le_iff_toInt_le, show (ι 24).toInt = 24 from rfl]
      rw [Int32.lt_iff_toInt_lt, show (24 : Int32).toInt = 24 from rfl] at h2
      omega
    · refine Or.inr ?_
      unfold sp_X9_needNumber; rw [if_neg h, if_neg h2]; rfl
/-- a number below a count, or not -/
theorem nnY {c n : Nat} (h : c < n) (hn : n < 100000) : sp_X9_needNumber (ι c) (ι n) = some (.inl ()) := by
  unfold sp_X9_needNumber
  rw [if_neg (show ¬ ι c < 0 by rw [show (0 : Int32) = ι 0 from rfl, ι_lt (by omega) (by omega)]; omega), if_pos (by rw [ι_lt (by omega) (by omega)]; exact h)]
theorem nnN {c n : Nat} (h : n ≤ c) (hc : c < 100000) : sp_X9_needNumber (ι c) (ι n) = some (.inr 1) := by
  unfold sp_X9_needNumber
  rw [if_neg (show ¬ ι c < 0 by rw [show (0 : Int32) = ι 0 from rfl, ι_lt (by omega) (by omega)]; omega), if_neg (by rw [ι_lt (by omega) (by omega)]; omega)]
  rfl
theorem nrY {p a b : Int32} (h1 : a.toInt ≤ p.toInt) (h2 : p.toInt ≤ b.toInt) : sp_X9_needRange p a b = some (.inl ()) := by
  unfold sp_X9_needRange
  rw [if_neg (by rw [Int32.lt_iff_toInt_lt]; omega), if_pos (by rw [Int32.le_iff_toInt_le]; exact h2)]
theorem ofI {x : Int32} (h0 : 0 ≤ x.toInt) (h1 : x.toInt < 100000) : ∃ r : Nat, (r : Int) = x.toInt ∧ x = ι r := by
  refine ⟨x.toInt.toNat, by omega, ?_⟩
  rw [← Int32.toInt_inj, ι_toInt (by omega)]
  omega
theorem and_nn (v : Int32) : 0 ≤ (v &&& 2147483647).toInt := by
  have h : (v &&& 2147483647).toBitVec.msb = false := by
    rw [Int32.toBitVec_and, BitVec.msb_and, show (2147483647 : Int32).toBitVec.msb = false by decide, Bool.and_false]
  exact BitVec.toInt_nonneg_of_msb_false h
theorem lowV (v n : Int32) (hn : 0 < n.toInt) : ∃ x : Int32, sp_L_low v n = some x ∧ 0 ≤ x.toInt ∧ x.toInt < n.toInt := by
  unfold sp_L_low
  have n0 : ¬ n = 0 := by
    intro e
    rw [e] at hn
    exact absurd hn (by decide)
  rw [if_neg n0]
  refine ⟨_, rfl, ?_⟩
  have a0 := and_nn v
  generalize (v &&& 2147483647) = a at *
  have a1 : a.toInt ≤ 2147483647 := Int32.toInt_le a
  have q1 : (a / n).toInt = a.toInt / n.toInt := t_div a0 hn
  have q2 : a.toInt / n.toInt * n.toInt ≤ a.toInt := Int.ediv_mul_le _ (by omega)
  have q3 : 0 ≤ a.toInt / n.toInt * n.toInt := Int.mul_nonneg (Int.ediv_nonneg a0 (by omega)) (by omega)
  have q4 : (a / n * n).toInt = a.toInt / n.toInt * n.toInt := by rw [t_mul (by rw [q1]; omega) (by rw [q1]; omega), q1]
  have q5 : (a - a / n * n).toInt = a.toInt - a.toInt / n.toInt * n.toInt := by rw [t_sub (by omega) (by omega), q4]
  have q6 : a.toInt % n.toInt = a.toInt - a.toInt / n.toInt * n.toInt := by rw [Int.emod_def, Int.mul_comm]
  rw [q5, ← q6]
  exact ⟨Int.emod_nonneg _ (by omega), Int.emod_lt_of_pos _ hn⟩
/-- .. of a small number -/
theorem lowN (v : Int32) {n : Nat} (h0 : 0 < n) (hn : n < 100000) : ∃ r : Nat, r < n ∧ sp_L_low v (ι n) = some (ι r) := by
  obtain ⟨x, e, x0, x1⟩ := lowV v (ι n) (by rw [ι_toInt hn]; omega)
  rw [ι_toInt hn] at x1
  obtain ⟨r, hr, er⟩ := ofI x0 (by omega)
  exact ⟨r, by omega, by rw [e, er]⟩
/-- a remainder of a number that isn't negative -/
theorem remV {p n : Int32} (h0 : 0 ≤ p.toInt) (hn : 0 < n.toInt) : 0 ≤ (p - p / n * n).toInt ∧ (p - p / n * n).toInt < n.toInt := by
  have a1 : p.toInt ≤ 2147483647 := Int32.toInt_le p
  have q1 : (p / n).toInt = p.toInt / n.toInt := t_div h0 hn
  have q2 : p.toInt / n.toInt * n.toInt ≤ p.toInt := Int.ediv_mul_le _ (by omega)
  have q3 : 0 ≤ p.toInt / n.toInt * n.toInt := Int.mul_nonneg (Int.ediv_nonneg h0 (by omega)) (by omega)
  have q4 : (p / n * n).toInt = p.toInt / n.toInt * n.toInt := by rw [t_mul (by rw [q1]; omega) (by rw [q1]; omega), q1]
  have q5 : (p - p / n * n).toInt = p.toInt - p.toInt / n.toInt * n.toInt := by rw [t_sub (by omega) (by omega), q4]
  have q6 : p.toInt % n.toInt = p.toInt - p.toInt / n.toInt * n.toInt := by rw [Int.emod_def, Int.mul_comm]
  rw [q5, ← q6]
  exact ⟨Int.emod_nonneg _ (by omega), Int.emod_lt_of_pos _ hn⟩
theorem bt1s {α κ : Type} (a : α) (f : α → Option κ) : bt1 (some (.inl a)) f = f a := rfl
theorem bt2s {α β κ : Type} (a : α) (b : β) (f : α → β → Option κ) : bt2 (some (.inl (a, b))) f = f a b := rfl
theorem b3s {α β δ κ : Type} (a : α) (b : β) (c : δ) (f : α → β → δ → Option κ) : b3 (some (a, b, c)) f = f a b c := rfl
/-! at -/
theorem at_k {σ : St} {c : Nat} (hc : c < 24) : sp_X9_at (ι c) 0 σ = some (.inl (σ 4 c)) ∧ sp_X9_at (ι c) 1 σ = some (.inl (σ 5 c)) ∧ sp_X9_at (ι c) 2 σ = some (.inl (σ 6 c)) ∧ sp_X9_at (ι c) 3 σ = some (.inl (σ 2 c)) ∧ sp_X9_at (ι c) 4 σ = some (.inl (σ 3 c)) ∧ sp_X9_at (ι c) 5 σ = some (.inl (σ 7 c)) ∧ sp_X9_at (ι c) 6 σ = some (.inl (σ 8 c)) := by
  unfold sp_X9_at
  rw [nc9 c hc, bxl, bxl, bxl, bxl, bxl, bxl, bxl]
  rw [show sp_X9_needRange 0 0 8 = some (.inl ()) from rfl, show sp_X9_needRange 1 0 8 = some (.inl ()) from rfl, show sp_X9_needRange 2 0 8 = some (.inl ()) from rfl, show sp_X9_needRange 3 0 8 = some (.inl ()) from rfl, show sp_X9_needRange 4 0 8 = some (.inl ()) from rfl, show sp_X9_needRange 5 0 8 = some (.inl ()) from rfl, show sp_X9_needRange 6 0 8 = some (.inl ()) from rfl]
  simp only [bxl, ι_nat (show c < 100000 by omega), ix2 hc (show 24 < 100000 by omega)]
  exact ⟨rfl, rfl, rfl, rfl, rfl, rfl, rfl⟩
/-! sums -/
theorem Sm_up {f : Nat → Int} {n : Nat} (h : ∀ i, 0 ≤ f i) : ∀ d, Sm n f ≤ Sm (n + d) f
  | 0 => Int.le_refl _
  | d + 1 => by
    have h1 := Sm_up (n := n) h d
    have h2 := h (n + d)
    show Sm n f ≤ Sm (n + d) f + f (n + d)
    omega
theorem Sm_up' {f : Nat → Int} {n m : Nat} (h : ∀ i, i < m → 0 ≤ f i) (hnm : n ≤ m) : Sm n f ≤ Sm m f := by
  have e : ∀ k, k ≤ m → Sm k f = Sm k (fun i => if i < m then f i else 0) := fun k hk => Sm_congr (fun i hi => by rw [if_pos (by omega)])
  rw [e n hnm, e m (Nat.le_refl _)]
  have := Sm_up (f := fun i => if i < m then f i else 0) (n := n) (fun i => by
    by_cases g : i < m
    · rw [if_pos g]; exact h i g
    · rw [if_neg g]; exact Int.le_refl 0) (m - n)
  rwa [show n + (m - n) = m by omega] at this
theorem Sm_plus (f g : Nat → Int) : ∀ n, Sm n (fun i => f i + g i) = Sm n f + Sm n g
  | 0 => rfl
  | n + 1 => by
    show Sm n (fun i => f i + g i) + (f n + g n) = Sm n f + f n + (Sm n g + g n)
    rw [Sm_plus f g n]; omega
theorem fl9 {nS nM hr : Nat} {K : Int} (hK : K ≤ 400000) {σ : St} (h : I2 nS nM hr K σ) : ∀ (j c n : Nat) (y : Int32), c + j = 24 → j < n → y.toInt = Sm c (fun i => (σ 4 i).toInt + (σ 5 i).toInt) → ∃ z : Int32, sp_X2_allFloating_4 σ n y (ι c) = some z ∧ z.toInt = Sm 24 (fun i => (σ 4 i).toInt + (σ 5 i).toInt) := by
  have tb := h.2.2.2.2.2.2
  have nn : ∀ i, i < 24 → 0 ≤ (σ 4 i).toInt + (σ 5 i).toInt := fun i hi => by have := h.2.b4 hi; omega
  have bd : Sm 24 (fun i => (σ 4 i).toInt + (σ 5 i).toInt) ≤ 400000 := by
    rw [Sm_plus]
    have := oil_nn h.2
    have r12 := rs12_nn h.2
    have b3 : 0 ≤ rs σ 6 24 := Sm_nn (fun i hi => (h.2.2.2.1 i hi).1)
    unfold tot at tb
    show rs σ 4 24 + rs σ 5 24 ≤ 400000
    omega
  intro j
  induction j with
  | zero =>
    intro c n y h1 h2 hy
    obtain ⟨n, rfl⟩ : ∃ q, n = q + 1 := ⟨n - 1, by omega⟩
    have ec : c = 24 := by omega
    subst ec
    exact ⟨y, by rw [sp_X2_allFloating_4, if_pos (by decide)], hy⟩
  | succ j ih =>
    intro c n y h1 h2 hy
    obtain ⟨n, rfl⟩ : ∃ q, n = q + 1 := ⟨n - 1, by omega⟩
    have hc : c < 24 := by omega
    have q : ¬ (24 : Int32) ≤ ι c := by rw [show (24 : Int32) = ι 24 from rfl, ι_le (by omega) (by omega)]; omega
    have b4 := h.2.b4 hc
    have u1 : Sm (c + 1) (fun i => (σ 4 i).toInt + (σ 5 i).toInt) ≤ _ := Sm_up' nn (show c + 1 ≤ 24 by omega)
    have u0 : 0 ≤ Sm c (fun i => (σ 4 i).toInt + (σ 5 i).toInt) := Sm_nn (fun i hi => nn i (by omega))
    have T : Sm (c + 1) (fun i => (σ 4 i).toInt + (σ 5 i).toInt) = Sm c (fun i => (σ 4 i).toInt + (σ 5 i).toInt) + ((σ 4 c).toInt + (σ 5 c).toInt) := rfl
    have w1 : (σ 4 c + σ 5 c).toInt = (σ 4 c).toInt + (σ 5 c).toInt := t_add (by omega) (by omega)
    have w2 : (y + (σ 4 c + σ 5 c)).toInt = y.toInt + ((σ 4 c).toInt + (σ 5 c).toInt) := by rw [t_add (by omega) (by omega), w1]
    obtain ⟨z, z1, z2⟩ := ih (c + 1) n (y + (σ 4 c + σ 5 c)) (by omega) (by omega) (by rw [w2, T, hy])
    refine ⟨z, ?_, z2⟩
    rw [sp_X2_allFloating_4, if_neg q]
    simp only [ι_nat (show c < 100000 by omega), ix2 hc (show 24 < 100000 by omega), sls, ι_one]
    exact z1
theorem st9 {nS nM hr : Nat} {K : Int} (hK : K ≤ 400000) {σ : St} (h : I2 nS nM hr K σ) : ∀ (j c n : Nat) (y : Int32), c + j = 24 → j < n → y.toInt = rs σ 6 c → ∃ z : Int32, sp_X2_allStranded_4 σ n y (ι c) = some z ∧ z.toInt = rs σ 6 24 := by
  have tb := h.2.2.2.2.2.2
  have nn : ∀ i, i < 24 → 0 ≤ (σ 6 i).toInt := fun i hi => (h.2.2.2.1 i hi).1
  have bd : rs σ 6 24 ≤ 400000 := by
    have r12 := rs12_nn h.2
    have b1 : 0 ≤ rs σ 4 24 := Sm_nn (fun i hi => (h.2.1 i hi).1)
    have b2 : 0 ≤ rs σ 5 24 := Sm_nn (fun i hi => (h.2.2.1 i hi).1)
    unfold tot at tb
    omega
  intro j
  induction j with
  | zero =>
    intro c n y h1 h2 hy
    obtain ⟨n, rfl⟩ : ∃ q, n = q + 1 := ⟨n - 1, by omega⟩
    have ec : c = 24 := by omega
    subst ec
    exact ⟨y, by rw [sp_X2_allStranded_4, if_pos (by decide)], hy⟩
  | succ j ih =>
    intro c n y h1 h2 hy
    obtain ⟨n, rfl⟩ : ∃ q, n = q + 1 := ⟨n - 1, by omega⟩
    have hc : c < 24 := by omega
    have q : ¬ (24 : Int32) ≤ ι c := by rw [show (24 : Int32) = ι 24 from rfl, ι_le (by omega) (by omega)]; omega
    have b6 := nn c hc
    have u1 : rs σ 6 (c + 1) ≤ rs σ 6 24 := Sm_up' nn (show c + 1 ≤ 24 by omega)
    have u0 : 0 ≤ rs σ 6 c := Sm_nn (fun i hi => nn i (by omega))
    have T : rs σ 6 (c + 1) = rs σ 6 c + (σ 6 c).toInt := rfl
    have w2 : (y + σ 6 c).toInt = y.toInt + (σ 6 c).toInt := t_add (by omega) (by omega)
    obtain ⟨z, z1, z2⟩ := ih (c + 1) n (y + σ 6 c) (by omega) (by omega) (by rw [w2, T, hy])
    refine ⟨z, ?_, z2⟩
    rw [sp_X2_allStranded_4, if_neg q]
    simp only [ι_nat (show c < 100000 by omega), ix2 hc (show 24 < 100000 by omega), sls, ι_one]
    exact z1
theorem rs12_eq {nS nM : Nat} {K : Int} {σ : St} (h : I1 nS nM K σ) (hS : nS ≤ 4) : rs σ 12 nS = rs σ 12 4 := by
  have : ∀ d, nS + d ≤ 4 → rs σ 12 (nS + d) = rs σ 12 nS := by
    intro d
    induction d with
    | zero => intro _; rfl
    | succ d ih =>
      intro hd
      show rs σ 12 (nS + d) + (σ 12 (nS + d)).toInt = _
      rw [ih (by omega), (h.2.2.2.1 (nS + d) (by omega)).2 (by omega)]
      omega
  rw [← this (4 - nS) (by omega), show nS + (4 - nS) = 4 by omega]
theorem li9 {nS nM hr : Nat} {K : Int} (hK : K ≤ 400000) {σ : St} (h : I2 nS nM hr K σ) : ∀ (j c n : Nat) (y : Int32), c + j = nS → j < n → y.toInt = rs σ 12 c → ∃ z : Int32, sp_X8_allLitres_4 σ n y (ι c) = some z ∧ z.toInt = rs σ 12 nS := by
  have tb := h.2.2.2.2.2.2
  obtain ⟨hS, e10⟩ := h.1.2.1
  have nn : ∀ i, i < 4 → 0 ≤ (σ 12 i).toInt := fun i hi => (h.2.2.2.2.1 i hi).1
  have bd : rs σ 12 4 ≤ 400000 := by
    have := oil_nn h.2
    unfold tot at tb
    unfold oil at this
    omega
  intro j
  induction j with
  | zero =>
    intro c n y h1 h2 hy
    obtain ⟨n, rfl⟩ : ∃ q, n = q + 1 := ⟨n - 1, by omega⟩
    have ec : c = nS := by omega
    subst ec
    exact ⟨y, by rw [sp_X8_allLitres_4, e10, if_pos (Int32.le_refl _)], hy⟩
  | succ j ih =>
    intro c n y h1 h2 hy
    obtain ⟨n, rfl⟩ : ∃ q, n = q + 1 := ⟨n - 1, by omega⟩
    have hc : c < 4 := by omega
    have q : ¬ ι nS ≤ ι c := by rw [ι_le (by omega) (by omega)]; omega
    have b6 := nn c hc
    have u1 : rs σ 12 (c + 1) ≤ rs σ 12 4 := Sm_up' nn (show c + 1 ≤ 4 by omega)
    have u0 : 0 ≤ rs σ 12 c := Sm_nn (fun i hi => nn i (by omega))
    have T : rs σ 12 (c + 1) = rs σ 12 c + (σ 12 c).toInt := rfl
    have w2 : (y + σ 12 c).toInt = y.toInt + (σ 12 c).toInt := t_add (by omega) (by omega)
    obtain ⟨z, z1, z2⟩ := ih (c + 1) n (y + σ 12 c) (by omega) (by omega) (by rw [w2, T, hy])
    refine ⟨z, ?_, z2⟩
    rw [sp_X8_allLitres_4, e10, if_neg q]
    simp only [ι_nat (show c < 100000 by omega), ix2 hc (show 4 < 100000 by omega), sls, ι_one]
    exact z1
theorem ss9 {nS nM hr : Nat} {K : Int} {σ : St} (h : I2 nS nM hr K σ) (hb : sto nM σ ≤ 400000) : ∀ (j m n : Nat) (y : Int32), m + j = nM → j < n → y.toInt = sto m σ → ∃ z : Int32, sp_X4_allInStores_4 σ n y (ι m) = some z ∧ z.toInt = sto nM σ := by
  obtain ⟨hM, e14⟩ := h.1.2.2.1
  have nn : ∀ i, i < nM → 0 ≤ (if σ 15 i = 1 then (σ 20 i).toInt else 0) := fun i hi => by
    split
    · exact ((h.2.2.2.2.2.1 i (by omega)).1 hi (by assumption)).1
    · exact Int.le_refl 0
  intro j
  induction j with
  | zero =>
    intro m n y h1 h2 hy
    obtain ⟨n, rfl⟩ : ∃ q, n = q + 1 := ⟨n - 1, by omega⟩
    have em : m = nM := by omega
    subst em
    exact ⟨y, by rw [sp_X4_allInStores_4, e14, if_pos (Int32.le_refl _)], hy⟩
  | succ j ih =>
    intro m n y h1 h2 hy
    obtain ⟨n, rfl⟩ : ∃ q, n = q + 1 := ⟨n - 1, by omega⟩
    have hm : m < 20 := by omega
    have q : ¬ ι nM ≤ ι m := by rw [ι_le (by omega) (by omega)]; omega
    have u1 : sto (m + 1) σ ≤ sto nM σ := Sm_up' nn (show m + 1 ≤ nM by omega)
    have u0 : 0 ≤ sto m σ := Sm_nn (fun i hi => nn i (by omega))
    have T : sto (m + 1) σ = sto m σ + (if σ 15 m = 1 then (σ 20 m).toInt else 0) := rfl
    have n0 := nn m (by omega)
    rw [sp_X4_allInStores_4, e14, if_neg q]
    simp only [ι_nat (show m < 100000 by omega), ix2 hm (show 20 < 100000 by omega), sls, ι_one]
    by_cases g : σ 15 m = 1
    · rw [if_pos g] at T n0
      have w2 : (y + σ 20 m).toInt = y.toInt + (σ 20 m).toInt := t_add (by omega) (by omega)
      obtain ⟨z, z1, z2⟩ := ih (m + 1) n (y + σ 20 m) (by omega) (by omega) (by rw [w2, T, hy])
      exact ⟨z, by rw [if_pos g]; exact z1, z2⟩
    · rw [if_neg g] at T
      obtain ⟨z, z1, z2⟩ := ih (m + 1) n y (by omega) (by omega) (by rw [T, hy]; omega)
      exact ⟨z, by rw [if_neg g]; exact z1, z2⟩
/-- the waste -/
def Ws (δ : St) : Int := (δ 1 0).toInt + (δ 1 1).toInt
def Wd (δ : St) : Prop := 0 ≤ (δ 1 0).toInt ∧ 0 ≤ (δ 1 1).toInt ∧ (δ 0 3).toInt = 0
theorem wa9 {δ : St} (h : Wd δ) (hb : Ws δ ≤ 400000) : ∃ z : Int32, sp_X3_allWaste δ = some z ∧ z.toInt = Ws δ := by
  obtain ⟨h1, h2, h3⟩ := h
  unfold Ws at hb ⊢
  refine ⟨_, rfl, ?_⟩
  show (δ 1 0 + δ 1 1 + δ 0 3).toInt = _
  have e1 : (δ 1 0 + δ 1 1).toInt = (δ 1 0).toInt + (δ 1 1).toInt := t_add (by omega) (by omega)
  rw [t_add (by omega) (by omega), e1, h3]
  omega
/-- what sum answers -/
def sv (nM : Nat) (σ δ : St) (k : Nat) : Int := match k with
  | 1 => (σ 23 0).toInt
  | 2 => rs σ 12 4
  | 3 => rs σ 4 24 + rs σ 5 24
  | 4 => (σ 23 2).toInt
  | 5 => (σ 23 3).toInt
  | 6 => (σ 23 4).toInt
  | 7 => rs σ 6 24
  | 8 => sto nM σ
  | 9 => (σ 23 5).toInt
  | 10 => (σ 23 6).toInt
  | _ => Ws δ
theorem sumV {nS nM hr : Nat} {B : Int} {σ δ : St} (h : I2 nS nM hr 400000 σ) (q : Cq nM B (Ws δ) σ) (hd : Wd δ) {k : Nat} (k1 : 1 ≤ k) (k11 : k ≤ 11) : ∃ x : Int32, sp_X9_sum (ι k) σ δ = some (.inl x) ∧ x.toInt = sv nM σ δ k := by
  obtain ⟨-, -, -, -, -, -, -, -, -, -, -, bs, bw, -⟩ := q.bd h
  have hK : (400000 : Int) ≤ 400000 := Int.le_refl _
  have hS := h.1.2.1.1
  have hM := h.1.2.2.1.1
  unfold sp_X9_sum
  rw [nrY (show (0 : Int32).toInt ≤ (ι k).toInt by rw [ι_toInt (by omega)]; show (0 : Int) ≤ _; omega) (show (ι k).toInt ≤ (11 : Int32).toInt by rw [ι_toInt (by omega)]; show _ ≤ (11 : Int); omega), bxl]
  rcases (show k = 1 ∨ k = 2 ∨ k = 3 ∨ k = 4 ∨ k = 5 ∨ k = 6 ∨ k = 7 ∨ k = 8 ∨ k = 9 ∨ k = 10 ∨ k = 11 by omega) with rfl | rfl | rfl | rfl | rfl | rfl | rfl | rfl | rfl | rfl | rfl
  · exact ⟨_, rfl, rfl⟩
  · obtain ⟨z, z1, z2⟩ := li9 hK h nS 0 200 0 (by omega) (by omega) rfl
    refine ⟨z, ?_, by rw [z2, rs12_eq h.2 hS]; rfl⟩
    rw [if_neg (by decide), if_neg (by decide), if_pos (by decide), show sp_X8_allLitres σ = some z from z1, b1s]
  · obtain ⟨z, z1, z2⟩ := fl9 hK h 24 0 200 0 (by omega) (by omega) rfl
    refine ⟨z, ?_, by rw [z2, Sm_plus]; rfl⟩
    rw [if_neg (by decide), if_neg (by decide), if_neg (by decide), if_pos (by decide), show sp_X2_allFloating σ = some z from z1, b1s]
  · exact ⟨_, rfl, rfl⟩
  · exact ⟨_, rfl, rfl⟩
  · exact ⟨_, rfl, rfl⟩
  · obtain ⟨z, z1, z2⟩ := st9 hK h 24 0 200 0 (by omega) (by omega) rfl
    refine ⟨z, ?_, z2⟩
    rw [if_neg (by decide), if_neg (by decide), if_neg (by decide), if_neg (by decide), if_neg (by decide), if_neg (by decide), if_neg (by decide), if_pos (by decide), show sp_X2_allStranded σ = some z from z1, b1s]
  · obtain ⟨z, z1, z2⟩ := ss9 h bs nM 0 200 0 (by omega) (by omega) rfl
    refine ⟨z, ?_, z2⟩
    rw [if_neg (by decide), if_neg (by decide), if_neg (by decide), if_neg (by decide), if_neg (by decide), if_neg (by decide), if_neg (by decide), if_neg (by decide), if_pos (by decide), show sp_X4_allInStores σ = some z from z1, b1s]
  · exact ⟨_, rfl, rfl⟩
  · exact ⟨_, rfl, rfl⟩
  · obtain ⟨z, z1, z2⟩ := wa9 hd bw
    refine ⟨z, ?_, z2⟩
    rw [if_neg (by decide), if_neg (by decide), if_neg (by decide), if_neg (by decide), if_neg (by decide), if_neg (by decide), if_neg (by decide), if_neg (by decide), if_neg (by decide), if_neg (by decide), if_neg (by decide), z1, b1s]
