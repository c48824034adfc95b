/-! due: Int64 against Int32 -/
theorem t64 {x : Int} (h1 : 0 ≤ x) (h2 : x ≤ 1000000000000000) : x.bmod (2 ^ 64) = x := Int.bmod_eq_of_le (by omega) (by omega)
theorem t64s {x : Int} (h1 : -1000000000000000 ≤ x) (h2 : x ≤ 1000000000000000) : x.bmod (2 ^ 64) = x := Int.bmod_eq_of_le (by omega) (by omega)
theorem lMin_int (x z : Int64) : (lMin x z).toInt = min x.toInt z.toInt := by
  unfold lMin
  by_cases h : z < x
  · rw [if_pos h]; rw [Int64.lt_iff_toInt_lt] at h; omega
  · rw [if_neg h]; rw [Int64.lt_iff_toInt_lt] at h; omega
theorem to32 {x : Int64} (h1 : -2147483648 ≤ x.toInt) (h2 : x.toInt ≤ 2147483647) : x.toInt32.toInt = x.toInt := by
  rw [Int64.toInt_toInt32]; exact tb h1 h2
theorem lg0 {x : Int64} : lg_cmp x 0 = 0 ↔ x = 0 := by
  unfold lg_cmp
  by_cases h : x > 0
  · rw [if_pos h]
    refine ⟨fun q => absurd q (by decide), fun q => ?_⟩
    rw [q] at h
    exact absurd h (Int64.lt_irrefl)
  · rw [if_neg h]
    by_cases h2 : x = 0
    · rw [if_pos h2]; exact ⟨fun _ => h2, fun _ => rfl⟩
    · rw [if_neg h2]; exact ⟨fun q => absurd q (by decide), fun q => absurd q h2⟩
theorem z64 : (0 : Int64).toInt = 0 := rfl
/-- a part of a whole, in Int64 -/
theorem part64 {x y z : Int64} (hx0 : 0 ≤ x.toInt) (hx : x.toInt ≤ 1000000) (hy0 : 0 ≤ y.toInt) (hyz : y.toInt ≤ z.toInt) (hz : 0 < z.toInt) (hz2 : z.toInt ≤ 20000000) : (x * y / z).toInt = x.toInt * y.toInt / z.toInt ∧ 0 ≤ x.toInt * y.toInt / z.toInt ∧ x.toInt * y.toInt / z.toInt ≤ x.toInt := by
  have m0 : 0 ≤ x.toInt * y.toInt := Int.mul_nonneg hx0 hy0
  have m1 : x.toInt * y.toInt ≤ 1000000 * 20000000 := Int.mul_le_mul hx (by omega) hy0 (by omega)
  have m2 : x.toInt * y.toInt ≤ x.toInt * z.toInt := Int.mul_le_mul_of_nonneg_left hyz hx0
  have e1 : (x * y).toInt = x.toInt * y.toInt := by rw [Int64.toInt_mul]; exact t64 m0 (by omega)
  have d0 : 0 ≤ x.toInt * y.toInt / z.toInt := Int.ediv_nonneg m0 (by omega)
  have d1 : x.toInt * y.toInt / z.toInt ≤ x.toInt := Int.ediv_le_of_le_mul hz m2
  refine ⟨?_, d0, d1⟩
  rw [Int64.toInt_div, e1, Int.tdiv_eq_ediv_of_nonneg m0]
  exact t64 d0 (by omega)
theorem dueSum {n : Nat} (hn : n ≤ 20) {μ : St} (e24 : μ 0 24 = ι n) (hc : ∀ i, i < n → 1 ≤ (μ 17 i).toInt ∧ (μ 17 i).toInt ≤ 1000000) (p w : Int32) :
    ∀ (j k m : Nat) (y : Int32), k + j = n → j < m → y.toInt = Sm k (fun i => (μ 17 i).toInt) → ∃ z : Int32, z.toInt = Sm n (fun i => (μ 17 i).toInt) ∧ sp_X10_due_42 p w m y (ι k) μ = sp_X10_due_42 p w 1 z (ι n) μ := by
  intro j
  induction j with
  | zero =>
    intro k m y h1 h2 hy
    obtain ⟨m, rfl⟩ : ∃ q, m = q + 1 := ⟨m - 1, by omega⟩
    have ek : k = n := by omega
    subst ek
    refine ⟨y, hy, ?_⟩
    rw [sp_X10_due_42, sp_X10_due_42, e24, if_pos (Int32.le_refl _), if_pos (Int32.le_refl _)]
  | succ j ih =>
    intro k m y h1 h2 hy
    obtain ⟨m, rfl⟩ : ∃ q, m = q + 1 := ⟨m - 1, by omega⟩
    have q : ¬ ι n ≤ ι k := by rw [ι_le (by omega) (by omega)]; omega
    have s0 : 0 ≤ Sm k (fun i => (μ 17 i).toInt) := Sm_nn (fun i hi => by have := (hc i (by omega)).1; omega)
    have s1 : Sm k (fun i => (μ 17 i).toInt) ≤ 1000000 * k := Sm_bd (fun i hi => (hc i (by omega)).2)
    have ck := hc k (by omega)
    have e1 : (y + μ 17 k).toInt = Sm (k + 1) (fun i => (μ 17 i).toInt) := by
      rw [t_add (by omega) (by omega), hy]; rfl
    obtain ⟨z, z1, z2⟩ := ih (k + 1) m (y + μ 17 k) (by omega) (by omega) e1
    refine ⟨z, z1, ?_⟩
    rw [sp_X10_due_42, e24, if_neg q, ix (show k < 20 by omega) (by omega), ι_nat (by omega), sls, ι_one, z2]
theorem dueV {π : St × Int64} {μ : St} (hP : RPm π μ) {n c : Nat} (hcn : c < n) (e0 : π.1 0 0 = ι n) (hn : n ≤ 20) (w : Int32) : ∃ g o : Int64, ∃ v : Int32, sp_X6_getsOf (ι c) π = some g ∧ sp_X6_ownersPartOf g π = some o ∧ (if w = 0 then o.toInt32 else (g - o).toInt32) = v ∧ sp_X10_due_42 (ι c) w 200 0 0 μ = some (v, μ) := by
  obtain ⟨n', hn', d1, d1', ⟨oa, oa1, oa2, oa3⟩, ⟨ob, ob1, ob2, ob3⟩, dc, dA⟩ := hP
  have en : n' = n := (ι_inj (by omega) (by omega)).mp (d1.symm.trans e0)
  subst en
  have hc20 : c < 20 := by omega
  obtain ⟨z, z1, z2⟩ := dueSum hn' d1' (fun i hi => (dc i hi).2) (ι c) w n' 0 200 0 (by omega) (by omega) rfl
  have s0 : 1 ≤ Sm n' (fun i => (μ 17 i).toInt) := by
    have := Sm_le (f := fun i => (μ 17 i).toInt) (i := c) (n := n') (fun i hi => by have := (dc i hi).2.1; omega) hcn
    have := (dc c hcn).2.1
    omega
  have s1 : Sm n' (fun i => (μ 17 i).toInt) ≤ 1000000 * n' := Sm_bd (fun i hi => (dc i hi).2.2)
  generalize hA : Sm n' (fun i => (μ 17 i).toInt) = A at z1 dA s0 s1
  obtain ⟨ec, c1, c2⟩ := dc c hcn
  have ta : (Int32.ofNat oa).toInt = oa := Int32.toInt_ofNat_of_lt (by omega)
  have tbb : (Int32.ofNat ob).toInt = ob := Int32.toInt_ofNat_of_lt (by omega)
  -- the pools
  have p64 : (lMin ((π.1 0 1).toInt64 + (π.1 0 2).toInt64) π.2).toInt = min ((oa : Int) + ob) A := by
    rw [lMin_int, dA, Int64.toInt_add, Int32.toInt_toInt64, Int32.toInt_toInt64, oa2, ob2, ta, tbb, t64 (by omega) (by omega)]
  have p32 : (iMin (μ 0 26 + μ 0 27) z).toInt = min ((oa : Int) + ob) A := by
    rw [iMin_int, z1, oa3, ob3, t_add (by rw [ta, tbb]; omega) (by rw [ta, tbb]; omega), ta, tbb]
  generalize hP64 : lMin ((π.1 0 1).toInt64 + (π.1 0 2).toInt64) π.2 = P64 at p64
  generalize hP32 : iMin (μ 0 26 + μ 0 27) z = P32 at p32
  have gp0 : 0 ≤ min ((oa : Int) + ob) A := by omega
  have zz : z.toInt64.toInt = A := by rw [Int32.toInt_toInt64, z1]
  have pp : P32.toInt64.toInt = min ((oa : Int) + ob) A := by rw [Int32.toInt_toInt64, p32]
  have eP : P32.toInt64 = P64 := Int64.toInt_inj.mp (pp.trans p64.symm)
  have eZ : z.toInt64 = π.2 := Int64.toInt_inj.mp (zz.trans dA.symm)
  have nz : ¬ π.2 = 0 := fun q => by have := congrArg Int64.toInt q; rw [dA, z64] at this; omega
  have nlg : ¬ lg_cmp π.2 0 = 0 := fun q => nz (lg0.mp q)
  have cc : (μ 17 c).toInt64.toInt = (μ 17 c).toInt := Int32.toInt_toInt64 _
  obtain ⟨g1, g2, g3⟩ := part64 (x := (μ 17 c).toInt64) (y := P64) (z := π.2) (by omega) (by omega) (by omega) (by omega) (by omega) (by omega)
  rw [← g1] at g2 g3
  have gets9 : sp_X6_getsOf (ι c) π = some ((μ 17 c).toInt64 * P64 / π.2) := by
    unfold sp_X6_getsOf sp_X6_allGet
    rw [if_neg nlg, ix hc20 (by omega), b1s, if_neg nz, hP64, ι_nat (by omega), ec]
  generalize hG : (μ 17 c).toInt64 * P64 / π.2 = G at g1 g2 g3 gets9
  have tG : G.toInt32.toInt = G.toInt := to32 (by omega) (by omega)
  have tG2 : G.toInt32.toInt64 = G := Int64.toInt_inj.mp (by rw [Int32.toInt_toInt64, tG])
  have fin : sp_X10_due_42 (ι c) w 200 0 0 μ = if P32 = 0 then sp_X10_due_127 w G.toInt32 0 μ else sp_X10_due_127 w G.toInt32 (G * (iMin (μ 0 26) P32).toInt64 / P64).toInt32 μ := by
    rw [show sp_X10_due_42 (ι c) w 200 0 0 μ = _ from z2, sp_X10_due_42, d1', if_pos (Int32.le_refl _), least_eq, b1s, ix hc20 (by omega), if_neg (by rw [eZ]; exact nz), ι_nat (by omega), hP32, eP, eZ, hG, sls, tG2]
    by_cases q : P32 = 0
    · rw [if_pos q, if_pos q]
    · rw [if_neg q, if_neg q, least_eq, b1s, if_neg]
      intro q2
      rw [← eP] at q2
      have := congrArg Int64.toInt q2
      rw [Int32.toInt_toInt64, z64] at this
      exact q (Int32.toInt_inj.mp this)
  by_cases q : P32 = 0
  · have q64 : P64 = 0 := by rw [← eP, q]; rfl
    refine ⟨G, 0, if w = 0 then 0 else G.toInt32, gets9, ?_, ?_, ?_⟩
    · unfold sp_X6_ownersPartOf sp_X6_allGet
      rw [b1s, hP64, if_pos (lg0.mpr q64)]
    · by_cases gw : w = 0
      · rw [if_pos gw, if_pos gw]; rfl
      · rw [if_neg gw, if_neg gw, Int64.sub_zero]
    · rw [fin, if_pos q, sp_X10_due_127]
      by_cases gw : w = 0
      · rw [if_pos gw, if_pos gw]
      · rw [if_neg gw, if_neg gw, Int32.sub_zero]
  · have q64 : ¬ P64 = 0 := by
      intro q2
      rw [← eP] at q2
      have := congrArg Int64.toInt q2
      rw [Int32.toInt_toInt64, z64] at this
      exact q (Int32.toInt_inj.mp this)
    have pz : ¬ P64.toInt = 0 := fun q2 => q64 (Int64.toInt_inj.mp (q2.trans z64.symm))
    have o1 : (lMin (π.1 0 1).toInt64 P64).toInt = min (oa : Int) P64.toInt := by rw [lMin_int, Int32.toInt_toInt64, oa2, ta]
    have o2 : (iMin (μ 0 26) P32).toInt64 = lMin (π.1 0 1).toInt64 P64 := by
      refine Int64.toInt_inj.mp ?_
      rw [Int32.toInt_toInt64, iMin_int, oa3, ta, o1, p32, p64]
    obtain ⟨h1, h2, h3⟩ := part64 (x := G) (y := lMin (π.1 0 1).toInt64 P64) (z := P64) g2 (by omega) (by omega) (by omega) (by omega) (by omega)
    rw [← h1] at h2 h3
    refine ⟨G, G * lMin (π.1 0 1).toInt64 P64 / P64, _, gets9, ?_, rfl, ?_⟩
    · unfold sp_X6_ownersPartOf sp_X6_allGet
      rw [b1s, hP64, if_neg (fun q2 => q64 (lg0.mp q2)), if_neg q64]
    · rw [fin, if_neg q, sp_X10_due_127, o2]
      by_cases gw : w = 0
      · rw [if_pos gw, if_pos gw]
      · rw [if_neg gw, if_neg gw]
        refine congrArg some (Prod.ext (Int32.toInt_inj.mp ?_) rfl)
        have e1 : (G - G * lMin (π.1 0 1).toInt64 P64 / P64).toInt = G.toInt - (G * lMin (π.1 0 1).toInt64 P64 / P64).toInt := by
          rw [Int64.toInt_sub]; exact t64s (by omega) (by omega)
        have e2 := to32 (x := G * lMin (π.1 0 1).toInt64 P64 / P64) (by omega) (by omega)
        rw [to32 (by omega) (by omega), e1]
        show (G.toInt32 - (G * lMin (π.1 0 1).toInt64 P64 / P64).toInt32).toInt = _
        rw [t_sub (by omega) (by omega), tG, e2]
