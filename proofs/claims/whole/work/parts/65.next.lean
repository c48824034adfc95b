/-! the next hour of one cell, found anew -/
theorem i0' (c : Nat) : (0 : Int32) + ι c = ι c := i0 c
theorem I1.b5 {nS nM : Nat} {K : Int} {σ : St} (h : I1 nS nM K σ) {c : Nat} (hc : c < 24) : rs σ 12 4 + (σ 4 c).toInt + (σ 5 c).toInt ≤ K := by
  obtain ⟨a1, a2, a3, a4, a5, a6⟩ := h
  have b2 : (σ 4 c).toInt ≤ rs σ 4 24 := Sm_le (f := fun i => (σ 4 i).toInt) (fun i hi => (a1 i hi).1) hc
  have b3 : (σ 5 c).toInt ≤ rs σ 5 24 := Sm_le (f := fun i => (σ 5 i).toInt) (fun i hi => (a2 i hi).1) hc
  have b4 : 0 ≤ rs σ 6 24 := Sm_nn (fun i hi => (a3 i hi).1)
  unfold tot at a6
  omega
theorem Sm_up {f : Nat → Int} {n : Nat} (h : ∀ i, 0 ≤ f i) : ∀ d, Sm n f ≤ Sm (n + d) f
  | 0 => Int.le_refl _
  | d + 1 => by
    have h1 := Sm_up (n := n) h d
    have h2 := h (n + d)
    show Sm n f ≤ Sm (n + d) f + f (n + d)
    omega
theorem Sm_up' {f : Nat → Int} {n m : Nat} (h : ∀ i, i < m → 0 ≤ f i) (hnm : n ≤ m) : Sm n f ≤ Sm m f := by
  have e : ∀ k, k ≤ m → Sm k f = Sm k (fun i => if i < m then f i else 0) := fun k hk => Sm_congr (fun i hi => by rw [if_pos (by omega)])
  rw [e n hnm, e m (Nat.le_refl _)]
  have := Sm_up (f := fun i => if i < m then f i else 0) (n := n) (fun i => by
    by_cases g : i < m
    · rw [if_pos g]; exact h i g
    · rw [if_neg g]; exact Int.le_refl 0) (m - n)
  rwa [show n + (m - n) = m by omega] at this
/-- what leaks into a cell: class and reference -/
theorem leakIn {nS nM hr : Nat} {K : Int} (hK : K ≤ 400000) {σ μ : St} (h : Jn True nS nM hr K σ μ) {d : Nat} (hd : d < 24) (hh : hr + 1 < 3001) (p3 : Int32) :
    ∀ (j s n n' : Nat) (y : Int32), s + j = nS → j < n → j < n' → 0 ≤ y.toInt → y.toInt ≤ Sm s (fun i => (σ 12 i).toInt) → ∃ z : Int32, 0 ≤ z.toInt ∧ z.toInt ≤ Sm nS (fun i => (σ 12 i).toInt) ∧ sp_X5_leaksInto_18 σ (ι d) (ι (tdN (hr + 1))) n y (ι s) = some z ∧ sp_X10_floats_12 μ (ι d) p3 n' (σ 4 d + y) (ι s) = sp_X10_floats_12 μ (ι d) p3 1 (σ 4 d + z) (ι nS) := by
  obtain ⟨r, -, i0, i1⟩ := id h
  have hS := i0.2.1.1
  have e10 := i0.2.1.2
  have m7 : μ 0 7 = ι nS := (r 10 0 rfl).symm.trans e10
  have m168 : μ 1 168 = ι hr := (r 0 4 (Or.inl rfl)).symm.trans i0.1.2
  intro j
  induction j with
  | zero =>
    intro s n n' y h1 h2 h3 y0 y1
    obtain ⟨n, rfl⟩ : ∃ q, n = q + 1 := ⟨n - 1, by omega⟩
    obtain ⟨n', rfl⟩ : ∃ q, n' = q + 1 := ⟨n' - 1, by omega⟩
    have es : s = nS := by omega
    subst es
    refine ⟨y, y0, y1, ?_, ?_⟩
    · rw [sp_X5_leaksInto_18, e10, if_pos (Int32.le_refl _)]
    · rw [sp_X10_floats_12, sp_X10_floats_12, m7, if_pos (Int32.le_refl _), if_pos (Int32.le_refl _)]
  | succ j ih =>
    intro s n n' y h1 h2 h3 y0 y1
    obtain ⟨n, rfl⟩ : ∃ q, n = q + 1 := ⟨n - 1, by omega⟩
    obtain ⟨n', rfl⟩ : ∃ q, n' = q + 1 := ⟨n' - 1, by omega⟩
    have q : ¬ ι nS ≤ ι s := by rw [ι_le (by omega) (by omega)]; omega
    have hs4 : s < 4 := by omega
    have e11 : μ 6 s = σ 11 s := (r 11 s hs4).symm
    have e12 : μ 1 (144 + s) = σ 12 s := (r 12 s hs4).symm
    have e13 : μ 7 s = σ 13 s := (r 13 s hs4).symm
    have b12 := i1.b12 hs4
    have sup : Sm (s + 1) (fun i => (σ 12 i).toInt) = Sm s (fun i => (σ 12 i).toInt) + (σ 12 s).toInt := rfl
    have sle : Sm (s + 1) (fun i => (σ 12 i).toInt) ≤ rs σ 12 4 := Sm_up' (fun i hi => (i1.2.2.2.1 i hi).1) (by omega)
    have b5 := i1.b5 hd
    have b4 := i1.b4 hd
    by_cases g : σ 11 s = ι d
    · obtain ⟨rt, hrt, ert⟩ := i0.2.2.2.2.2.2.2.1 s hs4
      obtain ⟨v0, v1⟩ := lk_v (L := σ 12 s) b12.1 (by omega) hrt (tdN_le (hr + 1))
      rw [← ert] at v0 v1
      have ea : (y + lk (σ 12 s) (σ 13 s) (ι (tdN (hr + 1)))).toInt = y.toInt + (lk (σ 12 s) (σ 13 s) (ι (tdN (hr + 1)))).toInt := t_add (by omega) (by omega)
      obtain ⟨z, z0, z1, z2, z3⟩ := ih (s + 1) n n' (y + lk (σ 12 s) (σ 13 s) (ι (tdN (hr + 1)))) (by omega) (by omega) (by omega) (by omega) (by omega)
      refine ⟨z, z0, z1, ?_, ?_⟩
      · rw [sp_X5_leaksInto_18, e10, if_neg q, ix hs4 (by omega), ι_nat (by omega), if_pos g, leakOf9 hs4, b1s, sls, ι_one, z2]
      · rw [sp_X10_floats_12, m7, if_neg q, ix hs4 (by omega), ι_nat (by omega), e11, if_pos g, n168, m168, ι_one, leak10 hs4 hh, e12, e13, b1s, sls, ι_one, Int32.add_assoc, z3]
    · obtain ⟨z, z0, z1, z2, z3⟩ := ih (s + 1) n n' y (by omega) (by omega) (by omega) y0 (by omega)
      refine ⟨z, z0, z1, ?_, ?_⟩
      · rw [sp_X5_leaksInto_18, e10, if_neg q, ix hs4 (by omega), ι_nat (by omega), if_neg g, ι_one, z2]
      · rw [sp_X10_floats_12, m7, if_neg q, ix hs4 (by omega), ι_nat (by omega), e11, if_neg g, sls, Int32.add_zero, ι_one, z3]
/-- behind leaks and weather -/
def fF (x2 : Int32) : Int32 := x2 - x2 / 20 - (x2 - x2 / 20) / 10
def fT (t x2 : Int32) : Int32 := t + (x2 - x2 / 20) / 10 - (t + (x2 - x2 / 20) / 10) / 50
theorem fFT_v {x2 t : Int32} (h0 : 0 ≤ x2.toInt) (h1 : 0 ≤ t.toInt) (h2 : x2.toInt + t.toInt ≤ 400000) : 0 ≤ (fF x2).toInt ∧ 0 ≤ (fT t x2).toInt ∧ (fF x2).toInt + (fT t x2).toInt ≤ 400000 := by
  have t20 : (20 : Int32).toInt = 20 := rfl
  have t10 : (10 : Int32).toInt = 10 := rfl
  have t50 : (50 : Int32).toInt = 50 := rfl
  have a1 : (x2 / 20).toInt = x2.toInt / 20 := by rw [t_div h0 (by decide), t20]
  have a2 : (x2 - x2 / 20).toInt = x2.toInt - x2.toInt / 20 := by rw [t_sub (by omega) (by omega), a1]
  have a3 : ((x2 - x2 / 20) / 10).toInt = (x2.toInt - x2.toInt / 20) / 10 := by rw [t_div (by omega) (by decide), a2, t10]
  have a4 : (fF x2).toInt = x2.toInt - x2.toInt / 20 - (x2.toInt - x2.toInt / 20) / 10 := by unfold fF; rw [t_sub (by omega) (by omega), a2, a3]
  have a5 : (t + (x2 - x2 / 20) / 10).toInt = t.toInt + (x2.toInt - x2.toInt / 20) / 10 := by rw [t_add (by omega) (by omega), a3]
  have a6 : ((t + (x2 - x2 / 20) / 10) / 50).toInt = (t.toInt + (x2.toInt - x2.toInt / 20) / 10) / 50 := by rw [t_div (by omega) (by decide), a5, t50]
  have a7 : (fT t x2).toInt = t.toInt + (x2.toInt - x2.toInt / 20) / 10 - (t.toInt + (x2.toInt - x2.toInt / 20) / 10) / 50 := by unfold fT; rw [t_sub (by omega) (by omega), a5, a6]
  omega
theorem floatsV {nS nM hr : Nat} {K : Int} (hK : K ≤ 400000) {σ μ : St} (h : Jn True nS nM hr K σ μ) {d : Nat} (hd : d < 24) (hh : hr + 1 < 3001) : ∃ x2 : Int32, 0 ≤ x2.toInt ∧ x2.toInt + (σ 5 d).toInt ≤ 400000 ∧ (∃ z, sp_X5_leaksInto (ι d) σ = some z ∧ σ 4 d + z = x2) ∧ sp_X10_floats (ι d) 0 μ = some (fF x2) ∧ sp_X10_floats (ι d) 1 μ = some (fT (σ 5 d) x2) := by
  obtain ⟨r, -, i0, i1⟩ := id h
  have hS := i0.2.1.1
  have e10 := i0.2.1.2
  have m7 : μ 0 7 = ι nS := (r 10 0 rfl).symm.trans e10
  have e4 : μ 1 d = σ 4 d := (r 4 d hd).symm
  have e5 : μ 1 (24 + d) = σ 5 d := (r 5 d hd).symm
  have b5 := i1.b5 hd
  have b4 := i1.b4 hd
  have sle : Sm nS (fun i => (σ 12 i).toInt) ≤ rs σ 12 4 := Sm_up' (fun i hi => (i1.2.2.2.1 i hi).1) hS
  obtain ⟨z, z0, z1, z2, z3⟩ := leakIn hK h hd hh 0 nS 0 200 200 0 (by omega) (by omega) (by omega) (Int.le_refl 0) (Int.le_refl 0)
  obtain ⟨z', -, -, z2', z3'⟩ := leakIn hK h hd hh 1 nS 0 200 200 0 (by omega) (by omega) (by omega) (Int.le_refl 0) (Int.le_refl 0)
  have ez : z' = z := Option.some.inj (z2'.symm.trans z2)
  subst ez
  have ea : (σ 4 d + z').toInt = (σ 4 d).toInt + z'.toInt := t_add (by omega) (by omega)
  rw [Int32.add_zero] at z3 z3'
  refine ⟨σ 4 d + z', by omega, by omega, ⟨z', ?_, rfl⟩, ?_, ?_⟩
  · unfold sp_X5_leaksInto
    rw [i0.1.2, ι_one, td9 _ hh, b1s]
    exact z2
  · unfold sp_X10_floats
    rw [i0', ix (show d < 174 by omega) (by omega), ι_nat (by omega), sls, e4]
    refine Eq.trans z3 ?_
    rw [sp_X10_floats_12, m7, if_pos (Int32.le_refl _), sls, i24, ix (show 24 + d < 174 by omega) (by omega), sls, if_pos rfl]
    rfl
  · unfold sp_X10_floats
    rw [i0', ix (show d < 174 by omega) (by omega), ι_nat (by omega), sls, e4]
    refine Eq.trans z3' ?_
    rw [sp_X10_floats_12, m7, if_pos (Int32.le_refl _), sls, i24, ix (show 24 + d < 174 by omega) (by omega), ι_nat (by omega), e5, sls, if_neg (by decide)]
    rfl
