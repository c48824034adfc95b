/-! the claims and the two layers: Int64 -/
theorem t64 {x : Int} (h1 : 0 ≤ x) (h2 : x ≤ 1000000000000000) : x.bmod (2 ^ 64) = x := Int.bmod_eq_of_le (by omega) (by omega)
theorem t64s {x : Int} (h1 : -1000000000000000 ≤ x) (h2 : x ≤ 1000000000000000) : x.bmod (2 ^ 64) = x := Int.bmod_eq_of_le (by omega) (by omega)
theorem lMin_int (x z : Int64) : (lMin x z).toInt = min x.toInt z.toInt := by
  unfold lMin
  by_cases h : z < x
  · rw [if_pos h]; rw [Int64.lt_iff_toInt_lt] at h; omega
  · rw [if_neg h]; rw [Int64.lt_iff_toInt_lt] at h; omega
theorem to32 {x : Int64} (h1 : -2147483648 ≤ x.toInt) (h2 : x.toInt ≤ 2147483647) : x.toInt32.toInt = x.toInt := by
  rw [Int64.toInt_toInt32]; exact tb h1 h2
theorem lg0 {x : Int64} : lg_cmp x 0 = 0 ↔ x = 0 := by
  unfold lg_cmp
  by_cases h : x > 0
  · rw [if_pos h]
    refine ⟨fun q => absurd q (by decide), fun q => ?_⟩
    rw [q] at h
    exact absurd h (Int64.lt_irrefl)
  · rw [if_neg h]
    by_cases h2 : x = 0
    · rw [if_pos h2]; exact ⟨fun _ => h2, fun _ => rfl⟩
    · rw [if_neg h2]; exact ⟨fun q => absurd q (by decide), fun q => absurd q h2⟩
theorem z64 : (0 : Int64).toInt = 0 := rfl
/-- a part of a whole, in Int64 -/
theorem part64 {x y z : Int64} (hx0 : 0 ≤ x.toInt) (hx : x.toInt ≤ 1000000) (hy0 : 0 ≤ y.toInt) (hyz : y.toInt ≤ z.toInt) (hz : 0 < z.toInt) (hz2 : z.toInt ≤ 20000000) : (x * y / z).toInt = x.toInt * y.toInt / z.toInt ∧ 0 ≤ x.toInt * y.toInt / z.toInt ∧ x.toInt * y.toInt / z.toInt ≤ x.toInt := by
  have m0 : 0 ≤ x.toInt * y.toInt := Int.mul_nonneg hx0 hy0
  have m1 : x.toInt * y.toInt ≤ 1000000 * 20000000 := Int.mul_le_mul hx (by omega) hy0 (by omega)
  have m2 : x.toInt * y.toInt ≤ x.toInt * z.toInt := Int.mul_le_mul_of_nonneg_left hyz hx0
  have e1 : (x * y).toInt = x.toInt * y.toInt := by rw [Int64.toInt_mul]; exact t64 m0 (by omega)
  have d0 : 0 ≤ x.toInt * y.toInt / z.toInt := Int.ediv_nonneg m0 (by omega)
  have d1 : x.toInt * y.toInt / z.toInt ≤ x.toInt := Int.ediv_le_of_le_mul hz m2
  refine ⟨?_, d0, d1⟩
  rw [Int64.toInt_div, e1, Int.tdiv_eq_ediv_of_nonneg m0]
  exact t64 d0 (by omega)
theorem Sm_bd {f : Nat → Int} {B : Int} : ∀ {n : Nat}, (∀ i, i < n → f i ≤ B) → Sm n f ≤ B * n
  | 0, _ => by show (0 : Int) ≤ B * 0; omega
  | n + 1, h => by
    have h1 := Sm_bd (n := n) (fun i hi => h i (by omega))
    have h2 := h n (by omega)
    show Sm n f + f n ≤ B * ((n + 1 : Nat) : Int)
    rw [Int.natCast_add, Int.mul_add]
    show Sm n f + f n ≤ B * n + B * 1
    omega
/-- floors, added up -/
theorem fl_up {c : Nat → Int} {P A : Int} (hA : 0 < A) : ∀ n, Sm n (fun i => c i * P / A) * A ≤ Sm n c * P
  | 0 => by show (0 : Int) * A ≤ 0 * P; rw [Int.zero_mul, Int.zero_mul]; exact Int.le_refl 0
  | n + 1 => by
    have ih := fl_up (c := c) (P := P) hA n
    have h : c n * P / A * A ≤ c n * P := Int.ediv_mul_le _ (by omega)
    show (Sm n (fun i => c i * P / A) + c n * P / A) * A ≤ (Sm n c + c n) * P
    rw [Int.add_mul, Int.add_mul]
    exact Int.add_le_add ih h
theorem fl_lo {c : Nat → Int} {P A : Int} (hA : 0 < A) : ∀ n : Nat, Sm n c * P ≤ Sm n (fun i => c i * P / A) * A + (n : Int) * (A - 1)
  | 0 => by show (0 : Int) * P ≤ 0 * A + (0 : Int) * (A - 1); rw [Int.zero_mul, Int.zero_mul, Int.zero_mul]; exact Int.le_refl 0
  | n + 1 => by
    have ih := fl_lo (c := c) (P := P) hA n
    have e : c n * P % A = c n * P - A * (c n * P / A) := Int.emod_def _ _
    have l : c n * P % A < A := Int.emod_lt_of_pos _ hA
    rw [Int.mul_comm A] at e
    have cn : ((n + 1 : Nat) : Int) = (n : Int) + 1 := by omega
    show (Sm n c + c n) * P ≤ (Sm n (fun i => c i * P / A) + c n * P / A) * A + ((n + 1 : Nat) : Int) * (A - 1)
    rw [cn, Int.add_mul, Int.add_mul, Int.add_mul, Int.one_mul]
    generalize Sm n c * P = x1 at *
    generalize Sm n (fun i => c i * P / A) * A = x2 at *
    generalize (n : Int) * (A - 1) = x3 at *
    generalize c n * P / A * A = x4 at *
    generalize c n * P % A = x5 at *
    generalize c n * P = x6 at *
    omega
theorem fl_all {c : Nat → Int} {P A : Int} {n : Nat} (hn : 0 < n) (hA : 0 < A) (e : Sm n c = A) : Sm n (fun i => c i * P / A) ≤ P ∧ P - n < Sm n (fun i => c i * P / A) := by
  have h1 := fl_up (c := c) (P := P) hA n
  have h2 := fl_lo (c := c) (P := P) hA n
  rw [e] at h1 h2
  generalize Sm n (fun i => c i * P / A) = F at *
  constructor
  · rw [Int.mul_comm A P] at h1
    exact Int.le_of_mul_le_mul_right h1 hA
  · have q : A * P < A * (F + n) := by
      rw [Int.mul_add, Int.mul_comm A F, Int.mul_comm A (n : Int)]
      rw [Int.mul_sub, Int.mul_one] at h2
      generalize F * A = x1 at *
      generalize (n : Int) * A = x2 at *
      omega
    have := Int.lt_of_mul_lt_mul_left q (by omega)
    omega
/-- the claims so far -/
def cN (π : St × Int64) (i : Nat) : Int := (π.1 1 i).toInt
def RC (k : Nat) (a : Int32) (π : St × Int64) : Prop := π.1 0 0 = ι k ∧ (∀ i, i < k → 1 ≤ cN π i ∧ cN π i ≤ 900000) ∧ a.toInt = Sm k (cN π) ∧ π.2.toInt = Sm k (cN π)
theorem RC_0 : RC 0 0 πI := ⟨rfl, fun i hi => absurd hi (Nat.not_lt_zero i), rfl, rfl⟩
theorem cb9 {k : Nat} (hk : k < 5) {a : Int32} {π : St × Int64} (h : RC k a π) (i2 i4 i5 c0 : Int32) (σ τ : St) (ν : Nat → Int32) (δ : St) : ∃ a9 π9, st_cb i2 i4 i5 a (ι k) c0 σ τ ν δ π = some (a9, π9) ∧ RC (k + 1) a9 π9 := by
  obtain ⟨h1, h2, h3, h4⟩ := h
  obtain ⟨x, ex, x0, x1⟩ := lowV c0 900000 (by decide)
  rw [show (900000 : Int32).toInt = 900000 from rfl] at x1
  have w : ((1 : Int32) + x).toInt = 1 + x.toInt := t_add (by show _ ≤ (1 : Int) + _; omega) (by show (1 : Int) + _ ≤ _; omega)
  have s0 : 0 ≤ Sm k (cN π) := Sm_nn (fun i hi => by have := h2 i hi; omega)
  have s1 : Sm k (cN π) ≤ 900000 * k := Sm_bd (fun i hi => (h2 i hi).2)
  generalize hy : (1 : Int32) + x = y at w
  have e : stU π.1 1 k y 0 0 + 1 = ι (k + 1) := by rw [stU_k (by decide), h1, ι_one]
  have y64 : y.toInt64.toInt = y.toInt := Int32.toInt_toInt64 _
  have hcn : ∀ i, cN (stU (stU π.1 1 k y) 0 0 (ι (k + 1)), π.2 + y.toInt64) i = if i = k then y.toInt else cN π i := by
    intro i
    show (stU (stU π.1 1 k y) 0 0 (ι (k + 1)) 1 i).toInt = _
    rw [stU_k (by decide)]
    by_cases g : i = k
    · subst g; rw [stU_same, if_pos rfl]
    · rw [stU_i g, if_neg g]; rfl
  have sm : Sm (k + 1) (cN (stU (stU π.1 1 k y) 0 0 (ι (k + 1)), π.2 + y.toInt64)) = Sm k (cN π) + y.toInt := by
    show Sm k _ + _ = _
    rw [Sm_congr (g := cN π) (fun i hi => by rw [hcn, if_neg (by omega)]), hcn, if_pos rfl]
  refine ⟨a + y, (stU (stU π.1 1 k y) 0 0 (ι (k + 1)), π.2 + y.toInt64), ?_, stU_same (stU π.1 1 k y) 0 0 (ι (k + 1)), fun i hi => ?_, ?_, ?_⟩
  · unfold st_cb sp_X9_claim sp_X6_add
    rw [ex, b1s, hy, sls, nrY (show (1 : Int32).toInt ≤ _ by rw [w]; show (1 : Int) ≤ _; omega) (show _ ≤ (1000000 : Int32).toInt by rw [w]; show _ ≤ (1000000 : Int); omega), bxl, h1, if_pos (by rw [show (20 : Int32) = ι 20 from rfl, ι_lt (by omega) (by omega)]; omega), sls, ix (show k < 20 by omega) (by omega), sls, sls, sls, b2s, bt2s, sls, ι_nat (by omega)]
    show some (a + y, (stU (stU π.1 1 k y) 0 0 (stU π.1 1 k y 0 0 + 1), π.2 + y.toInt64)) = _
    rw [e]
  · rw [hcn]
    by_cases g : i = k
    · rw [if_pos g]; omega
    · rw [if_neg g]; exact h2 i (by omega)
  · rw [sm, t_add (by omega) (by omega), h3]
  · rw [sm]
    show (π.2 + y.toInt64).toInt = _
    rw [Int64.toInt_add, h4, y64, t64 (by omega) (by omega)]
/-- what one claim gets, and the owner's part of it -/
def gN (π : St × Int64) (P A : Int) (i : Nat) : Int := cN π i * P / A
def oN (π : St × Int64) (O P A : Int) (i : Nat) : Int := gN π P A i * min O P / P
theorem due9 {π : St × Int64} {n k : Nat} (h0 : π.1 0 0 = ι n) (hn : n ≤ 5) (hk : k < n) (hc : ∀ i, i < n → 1 ≤ cN π i ∧ cN π i ≤ 900000) {A O F P : Int} (hA : π.2.toInt = A) (A1 : 1 ≤ A) (A2 : A ≤ 10000000) (hO : (π.1 0 1).toInt = O) (hF : (π.1 0 2).toInt = F) (O0 : 0 ≤ O) (O1 : O ≤ 2000000) (F0 : 0 ≤ F) (F1 : F ≤ 2000000) (hP : P = min (O + F) A) :
    ∃ x y : Int32, sp_X9_due (ι k) 0 π = some (.inl x) ∧ sp_X9_due (ι k) 1 π = some (.inl y) ∧ x.toInt = oN π O P A k ∧ y.toInt = gN π P A k - oN π O P A k ∧ 0 ≤ oN π O P A k ∧ oN π O P A k ≤ gN π P A k ∧ gN π P A k ≤ 900000 := by
  obtain ⟨c1, c2⟩ := hc k hk
  have k20 : k < 20 := by omega
  have p64 : (lMin ((π.1 0 1).toInt64 + (π.1 0 2).toInt64) π.2).toInt = P := by
    rw [lMin_int, hA, Int64.toInt_add, Int32.toInt_toInt64, Int32.toInt_toInt64, hO, hF, t64 (by omega) (by omega), hP]
  have nz : ¬ π.2 = 0 := fun q => by have := congrArg Int64.toInt q; rw [hA, z64] at this; omega
  have nlg : ¬ lg_cmp π.2 0 = 0 := fun q => nz (lg0.mp q)
  have cc : (π.1 1 k).toInt64.toInt = cN π k := Int32.toInt_toInt64 _
  have nn : sp_X9_needNumber (ι k) (π.1 0 0) = some (.inl ()) := by rw [h0]; exact nnY hk (by omega)
  have gets9 : sp_X6_getsOf (ι k) π = some ((π.1 1 k).toInt64 * lMin ((π.1 0 1).toInt64 + (π.1 0 2).toInt64) π.2 / π.2) := by
    unfold sp_X6_getsOf sp_X6_allGet
    rw [if_neg nlg, ix k20 (by omega), b1s, if_neg nz, ι_nat (by omega)]
  have all9 : sp_X6_allGet π = some (lMin ((π.1 0 1).toInt64 + (π.1 0 2).toInt64) π.2) := rfl
  generalize lMin ((π.1 0 1).toInt64 + (π.1 0 2).toInt64) π.2 = P64 at p64 gets9 all9
  obtain ⟨g1, g2, g3⟩ := part64 (x := (π.1 1 k).toInt64) (y := P64) (z := π.2) (by omega) (by omega) (by omega) (by omega) (by omega) (by omega)
  rw [cc, p64, hA] at g1 g2 g3
  generalize (π.1 1 k).toInt64 * P64 / π.2 = G at g1 gets9
  have eG : G.toInt = gN π P A k := g1
  have gg : gN π P A k ≤ 900000 := by show cN π k * P / A ≤ _; omega
  have fin : ∀ o : Int64, sp_X6_ownersPartOf G π = some o → o.toInt = oN π O P A k → 0 ≤ o.toInt → o.toInt ≤ G.toInt → ∃ x y : Int32, sp_X9_due (ι k) 0 π = some (.inl x) ∧ sp_X9_due (ι k) 1 π = some (.inl y) ∧ x.toInt = oN π O P A k ∧ y.toInt = gN π P A k - oN π O P A k ∧ 0 ≤ oN π O P A k ∧ oN π O P A k ≤ gN π P A k ∧ gN π P A k ≤ 900000 := by
    intro o ho eo o0 o1
    have e1 : (G - o).toInt = G.toInt - o.toInt := by rw [Int64.toInt_sub]; exact t64s (by omega) (by omega)
    refine ⟨o.toInt32, (G - o).toInt32, ?_, ?_, ?_, ?_, by omega, by omega, gg⟩
    · unfold sp_X9_due
      rw [nn, bxl, show sp_X9_needRange 0 0 1 = some (.inl ()) from rfl, bxl, gets9, b1s, ho, b1s, if_pos (show (0 : Int32) = 0 from rfl)]
    · unfold sp_X9_due
      rw [nn, bxl, show sp_X9_needRange 1 0 1 = some (.inl ()) from rfl, bxl, gets9, b1s, ho, b1s, if_neg (show ¬ (1 : Int32) = 0 by decide)]
    · rw [to32 (by omega) (by omega), eo]
    · rw [to32 (by omega) (by omega), e1, eo, eG]
  by_cases q : P64 = 0
  · have pz : P = 0 := by rw [← p64, q]; rfl
    have oz : oN π O P A k = 0 := by
      unfold oN
      rw [pz, Int.ediv_zero]
    refine fin 0 ?_ (by rw [oz]; rfl) (by rw [z64]; omega) (by rw [z64]; omega)
    unfold sp_X6_ownersPartOf
    rw [all9, b1s, if_pos (lg0.mpr q)]
  · have pz : ¬ P = 0 := fun q2 => q (Int64.toInt_inj.mp (by rw [p64, q2, z64]))
    have o1 : (lMin (π.1 0 1).toInt64 P64).toInt = min O P := by rw [lMin_int, Int32.toInt_toInt64, hO, p64]
    obtain ⟨h1, h2, h3⟩ := part64 (x := G) (y := lMin (π.1 0 1).toInt64 P64) (z := P64) (by omega) (by omega) (by omega) (by omega) (by omega) (by omega)
    rw [← h1] at h2 h3
    refine fin (G * lMin (π.1 0 1).toInt64 P64 / P64) ?_ (by rw [h1, eG, o1, p64]; rfl) h2 h3
    unfold sp_X6_ownersPartOf
    rw [all9, b1s, if_neg (fun q2 => q (lg0.mp q2)), if_neg q]
theorem tail9 {z : Z8} {k : Nat} (h : RA k z) : TailOk z.1 z.2.2.1 z.2.2.2.1 z.2.2.2.2.1 z.2.2.2.2.2.1 z.2.2.2.2.2.2.1 z.2.2.2.2.2.2.2 := by
  obtain ⟨nS, nM, hr, B, e1, e2, hb, hB, hh, hI, eπ⟩ := h
  rw [e1, eπ]
  intro c66
  obtain ⟨m, hm, em⟩ := lowN c66 (n := 5) (by omega) (by omega)
  have em' : sp_L_low c66 (5 : Int32) = some (ι m) := em
  refine ⟨m + 1, by omega, ?_, RC, RC_0, fun k c0 a π hk hR => cb9 (by omega) hR _ _ _ _ _ _ _ _, ?_⟩
  · unfold st_cl
    rw [em', b1s, sls, Int32.add_comm, ι_one]
    rfl
  intro a π hR c72
  obtain ⟨r1, r2, r3, r4⟩ := hR
  obtain ⟨ow, eo, o0, o1⟩ := lowV c72 2000000 (by decide)
  rw [show (2000000 : Int32).toInt = 2000000 from rfl] at o1
  refine ⟨ow, by unfold st_ow; rw [eo, b1s], fun c73 => ?_⟩
  obtain ⟨fu, ef, f0, f1⟩ := lowV c73 2000000 (by decide)
  rw [show (2000000 : Int32).toInt = 2000000 from rfl] at f1
  have s1 : Sm (m + 1) (cN π) ≤ 900000 * ((m + 1 : Nat) : Int) := Sm_bd (fun i hi => (r2 i hi).2)
  have s0 : 1 ≤ Sm (m + 1) (cN π) := by
    have := Sm_le (f := cN π) (i := 0) (n := m + 1) (fun i hi => by have := r2 i hi; omega) (by omega)
    have := r2 0 (by omega)
    omega
  generalize hA : Sm (m + 1) (cN π) = A at r3 r4 s0 s1
  generalize hP : min (ow.toInt + fu.toInt) A = P
  have P0 : 0 ≤ P := by omega
  let π9 : St × Int64 := (stU (stU π.1 0 1 ow) 0 2 fu, π.2)
  have q0 : π9.1 0 0 = ι (m + 1) := by
    show stU (stU π.1 0 1 ow) 0 2 fu 0 0 = _
    rw [stU_i (by decide), stU_i (by decide)]; exact r1
  have q1 : (π9.1 0 1).toInt = ow.toInt := by
    show (stU (stU π.1 0 1 ow) 0 2 fu 0 1).toInt = _
    rw [stU_i (by decide), stU_same]
  have q2 : (π9.1 0 2).toInt = fu.toInt := by
    show (stU (stU π.1 0 1 ow) 0 2 fu 0 2).toInt = _
    rw [stU_same]
  have qc : cN π9 = cN π := by
    funext i
    show (stU (stU π.1 0 1 ow) 0 2 fu 1 i).toInt = _
    rw [stU_k (by decide), stU_k (by decide)]; rfl
  have rc : ∀ i, i < m + 1 → 1 ≤ cN π9 i ∧ cN π9 i ≤ 900000 := by rw [qc]; exact r2
  have D : ∀ k, k < m + 1 → ∃ x y : Int32, sp_X9_due (ι k) 0 π9 = some (.inl x) ∧ sp_X9_due (ι k) 1 π9 = some (.inl y) ∧ x.toInt = oN π9 ow.toInt P A k ∧ y.toInt = gN π9 P A k - oN π9 ow.toInt P A k ∧ 0 ≤ oN π9 ow.toInt P A k ∧ oN π9 ow.toInt P A k ≤ gN π9 P A k ∧ gN π9 P A k ≤ 900000 := fun k hk => due9 q0 (by omega) hk rc (show π9.2.toInt = A from r4) s0 (by omega) q1 q2 o0 (by omega) f0 (by omega) hP.symm
  have bo : ∀ k, k ≤ m + 1 → 0 ≤ Sm k (oN π9 ow.toInt P A) ∧ Sm k (oN π9 ow.toInt P A) ≤ Sm k (gN π9 P A) ∧ Sm k (gN π9 P A) ≤ 900000 * k := by
    intro k
    induction k with
    | zero => intro _; exact ⟨Int.le_refl 0, Int.le_refl 0, by show (0 : Int) ≤ 900000 * 0; omega⟩
    | succ k ih =>
      intro hk
      obtain ⟨i1, i2, i3⟩ := ih (by omega)
      obtain ⟨-, -, -, -, -, -, d1, d2, d3⟩ := D k (by omega)
      show 0 ≤ Sm k _ + _ ∧ Sm k _ + _ ≤ Sm k _ + _ ∧ Sm k _ + _ ≤ _
      omega
  refine ⟨fu, π9, ?_, fun k p f => p.toInt = Sm k (gN π9 P A) ∧ f.toInt = Sm k (oN π9 ow.toInt P A), ⟨rfl, rfl⟩, ?_, ?_⟩
  · unfold st_fu sp_X9_layers
    rw [ef, b1s, nrY (show (0 : Int32).toInt ≤ _ from o0) (show _ ≤ (10000000 : Int32).toInt by show _ ≤ (10000000 : Int); omega), bxl, nrY (show (0 : Int32).toInt ≤ _ from f0) (show _ ≤ (10000000 : Int32).toInt by show _ ≤ (10000000 : Int); omega), bxl, sls, sls, sls, bt2s]
  · intro k p f hk hR
    obtain ⟨t1, t2⟩ := hR
    obtain ⟨x, y, d1, d2, d3, d4, d5, d6, d7⟩ := D k hk
    obtain ⟨b1', b2', b3'⟩ := bo k (by omega)
    have d1' : sp_X9_due (Int32.ofNat k) 0 π9 = some (.inl x) := d1
    have d2' : sp_X9_due (Int32.ofNat k) 1 π9 = some (.inl y) := d2
    have e3 : (x + y).toInt = gN π9 P A k := by rw [t_add (by omega) (by omega)]; omega
    refine ⟨p + (x + y), f + x, ?_, ?_, ?_⟩
    · unfold st_db
      rw [d1', bt1s, sls, bt1s, d2', bt1s, sls]
    · rw [t_add (by omega) (by omega), e3, t1]; rfl
    · rw [t_add (by omega) (by omega), d3, t2]; rfl
  · intro p f hR
    obtain ⟨t1, t2⟩ := hR
    obtain ⟨g1, g2⟩ := fl_all (c := cN π9) (P := P) (A := A) (n := m + 1) (by omega) (by omega) (by rw [qc]; exact hA)
    have g1' : Sm (m + 1) (gN π9 P A) ≤ P := g1
    have g2' : P - ((m + 1 : Nat) : Int) < Sm (m + 1) (gN π9 P A) := g2
    obtain ⟨b1', b2', b3'⟩ := bo (m + 1) (Nat.le_refl _)
    have ho : Sm (m + 1) (oN π9 ow.toInt P A) ≤ ow.toInt := by
      by_cases pz : P = 0
      · omega
      · have u := fl_up (c := gN π9 P A) (P := min ow.toInt P) (A := P) (by omega) (m + 1)
        have u' : Sm (m + 1) (oN π9 ow.toInt P A) * P ≤ Sm (m + 1) (gN π9 P A) * min ow.toInt P := u
        have v : Sm (m + 1) (gN π9 P A) * min ow.toInt P ≤ P * min ow.toInt P := Int.mul_le_mul_of_nonneg_right g1' (by omega)
        rw [Int.mul_comm P] at v
        have := Int.le_of_mul_le_mul_right (Int.le_trans u' v) (by omega)
        omega
    have tN : (Int32.ofNat (m + 1)).toInt = ((m + 1 : Nat) : Int) := ι_toInt (c := m + 1) (by omega)
    have wf : (ow + fu).toInt = ow.toInt + fu.toInt := t_add (by omega) (by omega)
    have fin : ∀ y7 : Int32, y7.toInt = P → sg_en_1140 (ι nS) z.2.2.1 (Int32.ofNat (m + 1)) ow p f y7 z.2.2.2.1 z.2.2.2.2.1 z.2.2.2.2.2.1 z.2.2.2.2.2.2.1 π9 = some () := by
      intro y7 h7
      unfold sg_en_1140
      rw [if_neg (by rw [Int32.lt_iff_toInt_lt]; omega), if_neg (by rw [Int32.le_iff_toInt_le, t_sub (by omega) (by omega), tN]; omega), if_neg (by rw [Int32.lt_iff_toInt_lt]; omega), closes9 hI hb, b1s, if_neg (show ¬ (1 : Int32) = 0 by decide)]
    unfold st_en
    by_cases ga : a ≤ ow + fu
    · rw [if_pos ga]
      rw [Int32.le_iff_toInt_le] at ga
      exact fin a (by omega)
    · rw [if_neg ga]
      rw [Int32.le_iff_toInt_le] at ga
      exact fin _ (by omega)
