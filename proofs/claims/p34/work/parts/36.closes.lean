/-! what holds between acts -/
def De (σ : St) : Prop := ∀ c, c < 24 → ¬ σ 2 c = 0 → σ 3 c = 0
def Tp (nM : Nat) (σ : St) : Prop := ∀ m, m < nM → σ 15 m = 2 → ∃ p, p ≤ 50 ∧ σ 18 m = ι p
def Iv (nS nM hr : Nat) (B : Int) (σ δ : St) : Prop := I2 nS nM hr 400000 σ ∧ Cq nM B (Ws δ) σ ∧ Ob σ ∧ De σ ∧ Tp nM σ ∧ Wd δ
/-- the sum behind c cells -/
theorem cl11 {nS nM hr : Nat} {B : Int} {σ δ : St} (h : Iv nS nM hr B σ δ) (y1 y2 : Int32) : ∀ (j c n : Nat) (y3 y4 : Int32), c + j = 24 → j < n → y3.toInt = Sm c (fun i => (σ 4 i).toInt + (σ 5 i).toInt) → y4.toInt = rs σ 6 c →
    ∃ z3 z4 : Int32, sp_L_closes_11 σ δ y1 y2 n y3 y4 1 (ι c) = sp_L_closes_139 σ δ y1 y2 z3 z4 1 200 0 0 ∧ z3.toInt = Sm 24 (fun i => (σ 4 i).toInt + (σ 5 i).toInt) ∧ z4.toInt = rs σ 6 24 := by
  obtain ⟨i2, -, ob, de, -⟩ := h
  have tb := i2.2.2.2.2.2.2
  have nn : ∀ i, i < 24 → 0 ≤ (σ 4 i).toInt + (σ 5 i).toInt := fun i hi => by have := i2.2.b4 hi; omega
  have nn6 : ∀ i, i < 24 → 0 ≤ (σ 6 i).toInt := fun i hi => (i2.2.2.2.1 i hi).1
  have r12 := rs12_nn i2.2
  have p6 : 0 ≤ rs σ 6 24 := Sm_nn nn6
  have p45 : 0 ≤ Sm 24 (fun i => (σ 4 i).toInt + (σ 5 i).toInt) := Sm_nn nn
  have e45 : Sm 24 (fun i => (σ 4 i).toInt + (σ 5 i).toInt) = rs σ 4 24 + rs σ 5 24 := Sm_plus _ _ 24
  unfold tot at tb
  intro j
  induction j with
  | zero =>
    intro c n y3 y4 h1 h2 h3 h4
    obtain ⟨n, rfl⟩ : ∃ q, n = q + 1 := ⟨n - 1, by omega⟩
    have ec : c = 24 := by omega
    subst ec
    exact ⟨y3, y4, by rw [sp_L_closes_11, if_pos (by decide)], h3, h4⟩
  | succ j ih =>
    intro c n y3 y4 h1 h2 h3 h4
    obtain ⟨n, rfl⟩ : ∃ q, n = q + 1 := ⟨n - 1, by omega⟩
    have hc : c < 24 := by omega
    have q : ¬ (24 : Int32) ≤ ι c := by rw [show (24 : Int32) = ι 24 from rfl, ι_le (by omega) (by omega)]; omega
    obtain ⟨a0, a1, a2, a3, a4, a5, a6⟩ := at_k (σ := σ) hc
    have b4 := i2.2.b4 hc
    have u1 : Sm (c + 1) (fun i => (σ 4 i).toInt + (σ 5 i).toInt) ≤ _ := Sm_up' nn (show c + 1 ≤ 24 by omega)
    have u0 : 0 ≤ Sm c (fun i => (σ 4 i).toInt + (σ 5 i).toInt) := Sm_nn (fun i hi => nn i (by omega))
    have v1 : rs σ 6 (c + 1) ≤ rs σ 6 24 := Sm_up' nn6 (show c + 1 ≤ 24 by omega)
    have v0 : 0 ≤ rs σ 6 c := Sm_nn (fun i hi => nn6 i (by omega))
    have T : Sm (c + 1) (fun i => (σ 4 i).toInt + (σ 5 i).toInt) = Sm c (fun i => (σ 4 i).toInt + (σ 5 i).toInt) + ((σ 4 c).toInt + (σ 5 c).toInt) := rfl
    have T6 : rs σ 6 (c + 1) = rs σ 6 c + (σ 6 c).toInt := rfl
    have w1 : (σ 4 c + σ 5 c).toInt = (σ 4 c).toInt + (σ 5 c).toInt := t_add (by omega) (by omega)
    have w2 : (y3 + (σ 4 c + σ 5 c)).toInt = y3.toInt + ((σ 4 c).toInt + (σ 5 c).toInt) := by rw [t_add (by omega) (by omega), w1]
    have w6 : (y4 + σ 6 c).toInt = y4.toInt + (σ 6 c).toInt := t_add (by omega) (by omega)
    obtain ⟨z3, z4, z, f3, f4⟩ := ih (c + 1) n (y3 + (σ 4 c + σ 5 c)) (y4 + σ 6 c) (by omega) (by omega) (by rw [w2, T, h3]) (by rw [w6, T6, h4])
    refine ⟨z3, z4, ?_, f3, f4⟩
    have nob : ¬ σ 7 c < σ 8 c := by rw [Int32.lt_iff_toInt_lt]; have := ob c hc; omega
    have z0 : (0 : Int32).toInt = 0 := rfl
    rw [sp_L_closes_11, if_neg q, a0, bt1s, a1, bt1s, sls, a2, bt1s, sls, a6, bt1s, a5, bt1s, if_neg nob, a3, bt1s]
    by_cases g : σ 2 c = 0
    · have e6 : σ 6 c = 0 := by
        have b := i2.2.2.2.1 c hc
        rw [g, show (tabH 0).toInt = 0 by decide] at b
        exact Int32.toInt_inj.mp (by rw [z0]; omega)
      rw [if_pos g, bt1s, if_pos e6, sls, ι_one]
      exact z
    · have e45' : σ 4 c + σ 5 c = 0 := by
        have q4 := (i2.2.1 c hc).2 g
        have q5 := (i2.2.2.1 c hc).2 g
        exact Int32.toInt_inj.mp (by rw [w1, z0]; omega)
      rw [if_neg g, bt1s, bt1s, if_pos e45', a4, bt1s, if_pos (de c hc g), sls, ι_one]
      exact z
theorem cl139 {nS nM hr : Nat} {B : Int} {σ δ : St} (h : Iv nS nM hr B σ δ) (y8 y9 y10 : Int32) : ∀ (j s n : Nat) (y : Int32), s + j = nS → j < n → y.toInt = rs σ 12 s →
    ∃ z : Int32, sp_L_closes_139 σ δ (ι nS) y8 y9 y10 1 n y (ι s) = sp_L_closes_168 σ δ y8 y9 y10 1 z 200 0 3 ∧ z.toInt = rs σ 12 nS := by
  obtain ⟨i2, -⟩ := h
  have tb := i2.2.2.2.2.2.2
  obtain ⟨hS, e10⟩ := i2.1.2.1
  have nn : ∀ i, i < 4 → 0 ≤ (σ 12 i).toInt := fun i hi => (i2.2.2.2.2.1 i hi).1
  have bd : rs σ 12 4 ≤ 400000 := by
    have := oil_nn i2.2
    unfold tot at tb
    unfold oil at this
    omega
  intro j
  induction j with
  | zero =>
    intro s n y h1 h2 hy
    obtain ⟨n, rfl⟩ : ∃ q, n = q + 1 := ⟨n - 1, by omega⟩
    have es : s = nS := by omega
    subst es
    exact ⟨y, by rw [sp_L_closes_139, if_pos (Int32.le_refl _)], hy⟩
  | succ j ih =>
    intro s n y h1 h2 hy
    obtain ⟨n, rfl⟩ : ∃ q, n = q + 1 := ⟨n - 1, by omega⟩
    have hs : s < 4 := by omega
    have q : ¬ ι nS ≤ ι s := by rw [ι_le (by omega) (by omega)]; omega
    have b6 := nn s hs
    have u1 : rs σ 12 (s + 1) ≤ rs σ 12 4 := Sm_up' nn (show s + 1 ≤ 4 by omega)
    have u0 : 0 ≤ rs σ 12 s := Sm_nn (fun i hi => nn i (by omega))
    have T : rs σ 12 (s + 1) = rs σ 12 s + (σ 12 s).toInt := rfl
    have w2 : (y + σ 12 s).toInt = y.toInt + (σ 12 s).toInt := t_add (by omega) (by omega)
    obtain ⟨z, z1, z2⟩ := ih (s + 1) n (y + σ 12 s) (by omega) (by omega) (by rw [w2, T, hy])
    refine ⟨z, ?_, z2⟩
    have sh : sp_X9_shipHas (ι s) σ = some (.inl (σ 12 s)) := by
      unfold sp_X9_shipHas
      rw [e10, nnY (by omega) (by omega), bxl, ix hs (by omega), ι_nat (by omega)]
    rw [sp_L_closes_139, if_neg q, sh, bt1s, sls, ι_one]
    exact z1
/-- the partial sums of what is somewhere -/
def pv (nM : Nat) (σ δ : St) : Nat → Int
  | 0 => 0
  | k + 1 => pv nM σ δ k + sv nM σ δ (k + 3)
theorem pv9 {nM : Nat} {B : Int} {σ δ : St} (q : Cq nM B (Ws δ) σ) : pv nM σ δ 9 = (σ 23 0).toInt := by
  obtain ⟨-, -, -, q4, -⟩ := q
  unfold oil bk5 at q4
  show 0 + (rs σ 4 24 + rs σ 5 24) + (σ 23 2).toInt + (σ 23 3).toInt + (σ 23 4).toInt + rs σ 6 24 + sto nM σ + (σ 23 5).toInt + (σ 23 6).toInt + Ws δ = _
  omega
theorem sv_nn {nS nM hr : Nat} {B : Int} {σ δ : St} (h : I2 nS nM hr 400000 σ) (q : Cq nM B (Ws δ) σ) : ∀ k, 0 ≤ sv nM σ δ (k + 3) := by
  obtain ⟨⟨b0, b2, b3, b4, b5, b6⟩, p1, p2, p3, -⟩ := q.bd h
  have c1 : 0 ≤ rs σ 4 24 := Sm_nn (fun i hi => (h.2.1 i hi).1)
  have c2 : 0 ≤ rs σ 5 24 := Sm_nn (fun i hi => (h.2.2.1 i hi).1)
  have c3 : 0 ≤ rs σ 6 24 := Sm_nn (fun i hi => (h.2.2.2.1 i hi).1)
  intro k
  match k with
  | 0 => show 0 ≤ rs σ 4 24 + rs σ 5 24; omega
  | 1 => exact b2
  | 2 => exact b3
  | 3 => exact b4
  | 4 => exact c3
  | 5 => exact p2
  | 6 => exact b5
  | 7 => exact b6
  | _ + 8 => exact q.2.1
theorem pv_le {nS nM hr : Nat} {B : Int} {σ δ : St} (h : I2 nS nM hr 400000 σ) (q : Cq nM B (Ws δ) σ) (k : Nat) : 0 ≤ pv nM σ δ k ∧ ∀ d, pv nM σ δ k ≤ pv nM σ δ (k + d) := by
  have s := sv_nn h q
  constructor
  · induction k with
    | zero => exact Int.le_refl 0
    | succ k ih =>
      have := s k
      show 0 ≤ pv nM σ δ k + sv nM σ δ (k + 3)
      omega
  · intro d
    induction d with
    | zero => exact Int.le_refl _
    | succ d ih =>
      have := s (k + d)
      show pv nM σ δ k ≤ pv nM σ δ (k + d) + sv nM σ δ (k + d + 3)
      omega
theorem cl168 {nS nM hr : Nat} {B : Int} {σ δ : St} (h : Iv nS nM hr B σ δ) {y14 y15 y16 y18 : Int32} (h14 : y14.toInt = B) (h15 : y15.toInt = rs σ 4 24 + rs σ 5 24) (h16 : y16.toInt = rs σ 6 24) (h18 : y18.toInt = rs σ 12 4) : ∀ (j k n : Nat) (y : Int32), k + j = 9 → j < n → y.toInt = pv nM σ δ k → sp_L_closes_168 σ δ y14 y15 y16 1 y18 n y (ι (k + 3)) = some 1 := by
  obtain ⟨i2, cq, -, -, -, wd⟩ := h
  obtain ⟨⟨b0, -⟩, p1, p2, p3, u0, -⟩ := cq.bd i2
  have e9 := pv9 cq
  intro j
  induction j with
  | zero =>
    intro k n y h1 h2 hy
    obtain ⟨n, rfl⟩ : ∃ q, n = q + 1 := ⟨n - 1, by omega⟩
    have ek : k = 9 := by omega
    subst ek
    obtain ⟨x3, s3, v3⟩ := sumV i2 cq wd (k := 3) (by omega) (by omega)
    obtain ⟨x7, s7, v7⟩ := sumV i2 cq wd (k := 7) (by omega) (by omega)
    obtain ⟨x2, s2, v2⟩ := sumV i2 cq wd (k := 2) (by omega) (by omega)
    obtain ⟨x1, s1, v1⟩ := sumV i2 cq wd (k := 1) (by omega) (by omega)
    have d3 : y15 = x3 := Int32.toInt_inj.mp (by rw [h15, v3]; rfl)
    have d7 : y16 = x7 := Int32.toInt_inj.mp (by rw [h16, v7]; rfl)
    have d2 : y18 = x2 := Int32.toInt_inj.mp (by rw [h18, v2]; rfl)
    have v1' : x1.toInt = (σ 23 0).toInt := v1
    have d1 : y = x1 := Int32.toInt_inj.mp (by rw [hy, v1', e9])
    have db : y18 + x1 = y14 := Int32.toInt_inj.mp (by
      have q5 := cq.2.2.2.2
      have q3 := cq.2.2.1
      rw [t_add (by omega) (by omega), h18, v1', h14]
      exact q5)
    rw [sp_L_closes_168, if_pos (by decide), if_neg (by decide), show (3 : Int32) = ι 3 from rfl, s3, bt1s, if_pos d3, show (7 : Int32) = ι 7 from rfl, s7, bt1s, if_pos d7, show (2 : Int32) = ι 2 from rfl, s2, bt1s, if_pos d2, show (1 : Int32) = ι 1 from rfl, s1, bt1s, if_pos db, bt1s, if_pos d1]
  | succ j ih =>
    intro k n y h1 h2 hy
    obtain ⟨n, rfl⟩ : ∃ q, n = q + 1 := ⟨n - 1, by omega⟩
    have q : ¬ (12 : Int32) ≤ ι (k + 3) := by rw [show (12 : Int32) = ι 12 from rfl, ι_le (by omega) (by omega)]; omega
    obtain ⟨x, s, v⟩ := sumV i2 cq wd (k := k + 3) (by omega) (by omega)
    have c0 := (pv_le i2 cq k).1
    have c1 := (pv_le i2 cq (k + 1)).2 (9 - (k + 1))
    rw [show k + 1 + (9 - (k + 1)) = 9 by omega, e9] at c1
    have T : pv nM σ δ (k + 1) = pv nM σ δ k + sv nM σ δ (k + 3) := rfl
    have sn := sv_nn i2 cq k
    have w : (y + x).toInt = pv nM σ δ (k + 1) := by rw [t_add (by omega) (by omega), hy, v, T]
    rw [sp_L_closes_168, if_neg q, s, bt1s, sls, ι_one]
    exact ih (k + 1) n (y + x) (by omega) (by omega) w
theorem closes9 {nS nM hr : Nat} {B : Int} {σ δ : St} (h : Iv nS nM hr B σ δ) {br : Int32} (hb : br.toInt = B) : sp_L_closes (ι nS) br σ δ = some 1 := by
  have hS := h.1.1.2.1.1
  obtain ⟨z3, z4, e1, f3, f4⟩ := cl11 h (ι nS) br 24 0 200 0 0 (by omega) (by omega) rfl rfl
  obtain ⟨z, e2, f⟩ := cl139 h br z3 z4 nS 0 200 0 (by omega) (by omega) rfl
  have e3 := cl168 h (y14 := br) (y15 := z3) (y16 := z4) (y18 := z) hb (by rw [f3, Sm_plus]; rfl) f4 (by rw [f, rs12_eq h.1.2 hS]) 9 0 200 0 (by omega) (by omega) rfl
  exact e1.trans (e2.trans e3)
