def S32 : Nat → (Nat → Int32) → Int32
  | 0, _ => 0
  | n + 1, f => S32 n f + f n
theorem S32_congr {f g : Nat → Int32} : ∀ {n : Nat}, (∀ i, i < n → f i = g i) → S32 n f = S32 n g
  | 0, _ => rfl
  | n + 1, h => by
    show S32 n f + f n = S32 n g + g n
    rw [S32_congr (fun i hi => h i (by omega)), h n (by omega)]
theorem S32_add (f g : Nat → Int32) : ∀ n, S32 n (fun i => f i + g i) = S32 n f + S32 n g
  | 0 => rfl
  | n + 1 => by
    show S32 n (fun i => f i + g i) + (f n + g n) = (S32 n f + f n) + (S32 n g + g n)
    rw [S32_add f g n, Int32.add_assoc, Int32.add_assoc]
    congr 1
    rw [← Int32.add_assoc, ← Int32.add_assoc, Int32.add_comm (S32 n g)]
theorem S32_app (f : Nat → Int32) (m : Nat) : ∀ n, S32 (m + n) f = S32 m f + S32 n (fun i => f (m + i))
  | 0 => by
    show S32 m f = S32 m f + 0
    rw [Int32.add_zero]
  | n + 1 => by
    show S32 (m + n) f + f (m + n) = S32 m f + (S32 n (fun i => f (m + i)) + f (m + n))
    rw [S32_app f m n, Int32.add_assoc]
theorem S32_zero {f : Nat → Int32} {n : Nat} : ∀ d, (∀ i, n ≤ i → i < n + d → f i = 0) → S32 (n + d) f = S32 n f
  | 0, _ => rfl
  | d + 1, h => by
    show S32 (n + d) f + f (n + d) = S32 n f
    rw [h (n + d) (by omega) (by omega), Int32.add_zero]
    exact S32_zero d (fun i h1 h2 => h i h1 (by omega))
theorem over10' {μ : St} (a m : Nat) (ham : a + m ≤ 174) : ∀ (j k n : Nat), k + j = m → j < n → sp_X10_over_5 μ (ι a) (ι m) n (S32 k (fun i => μ 1 (a + i))) (ι (a + k)) = some (S32 m (fun i => μ 1 (a + i))) := by
  intro j
  induction j with
  | zero =>
    intro k n h1 h2
    obtain ⟨n, rfl⟩ : ∃ q, n = q + 1 := ⟨n - 1, by omega⟩
    have ek : k = m := by omega
    subst ek
    rw [sp_X10_over_5, ι_add, if_pos (Int32.le_refl _)]
  | succ j ih =>
    intro k n h1 h2
    obtain ⟨n, rfl⟩ : ∃ q, n = q + 1 := ⟨n - 1, by omega⟩
    rw [sp_X10_over_5, ι_add, if_neg (by rw [ι_le (by omega) (by omega)]; omega), ix (show a + k < 174 by omega) (by omega), ι_nat (by omega), sls, ι_one]
    exact ih (k + 1) n (by omega) (by omega)
theorem over10 {μ : St} (a m : Nat) (ham : a + m ≤ 174) : sp_X10_over_5 μ (ι a) (ι m) 200 0 (ι a) = some (S32 m (fun i => μ 1 (a + i))) := over10' a m ham m 0 200 (by omega) (by omega)
theorem allF' {σ : St} : ∀ (j k n : Nat), k + j = 24 → j < n → sp_X2_allFloating_4 σ n (S32 k (fun i => σ 4 i + σ 5 i)) (ι k) = some (S32 24 (fun i => σ 4 i + σ 5 i)) := by
  intro j
  induction j with
  | zero =>
    intro k n h1 h2
    obtain ⟨n, rfl⟩ : ∃ q, n = q + 1 := ⟨n - 1, by omega⟩
    have ek : k = 24 := by omega
    subst ek
    rw [sp_X2_allFloating_4, if_pos (by decide)]
  | succ j ih =>
    intro k n h1 h2
    obtain ⟨n, rfl⟩ : ∃ q, n = q + 1 := ⟨n - 1, by omega⟩
    rw [sp_X2_allFloating_4, if_neg (by rw [show (24 : Int32) = ι 24 from rfl, ι_le (by omega) (by omega)]; omega), ix (show k < 24 by omega) (by omega), ix (show k < 24 by omega) (by omega), ι_nat (by omega), sls, ι_one]
    exact ih (k + 1) n (by omega) (by omega)
theorem allF {σ : St} : sp_X2_allFloating_4 σ 200 0 0 = some (S32 24 (fun i => σ 4 i + σ 5 i)) := allF' 24 0 200 (by omega) (by omega)
theorem allS' {σ : St} : ∀ (j k n : Nat), k + j = 24 → j < n → sp_X2_allStranded_4 σ n (S32 k (σ 6)) (ι k) = some (S32 24 (σ 6)) := by
  intro j
  induction j with
  | zero =>
    intro k n h1 h2
    obtain ⟨n, rfl⟩ : ∃ q, n = q + 1 := ⟨n - 1, by omega⟩
    have ek : k = 24 := by omega
    subst ek
    rw [sp_X2_allStranded_4, if_pos (by decide)]
  | succ j ih =>
    intro k n h1 h2
    obtain ⟨n, rfl⟩ : ∃ q, n = q + 1 := ⟨n - 1, by omega⟩
    rw [sp_X2_allStranded_4, if_neg (by rw [show (24 : Int32) = ι 24 from rfl, ι_le (by omega) (by omega)]; omega), ix (show k < 24 by omega) (by omega), ι_nat (by omega), sls, ι_one]
    exact ih (k + 1) n (by omega) (by omega)
theorem allS {σ : St} : sp_X2_allStranded_4 σ 200 0 0 = some (S32 24 (σ 6)) := allS' 24 0 200 (by omega) (by omega)
theorem allL' {σ : St} {nS : Nat} (hS : nS ≤ 4) (e10 : σ 10 0 = ι nS) : ∀ (j k n : Nat), k + j = nS → j < n → sp_X8_allLitres_4 σ n (S32 k (σ 12)) (ι k) = some (S32 nS (σ 12)) := by
  intro j
  induction j with
  | zero =>
    intro k n h1 h2
    obtain ⟨n, rfl⟩ : ∃ q, n = q + 1 := ⟨n - 1, by omega⟩
    have ek : k = nS := by omega
    subst ek
    rw [sp_X8_allLitres_4, e10, if_pos (Int32.le_refl _)]
  | succ j ih =>
    intro k n h1 h2
    obtain ⟨n, rfl⟩ : ∃ q, n = q + 1 := ⟨n - 1, by omega⟩
    rw [sp_X8_allLitres_4, e10, if_neg (by rw [ι_le (by omega) (by omega)]; omega), ix (show k < 4 by omega) (by omega), ι_nat (by omega), sls, ι_one]
    exact ih (k + 1) n (by omega) (by omega)
theorem allL {nS nM hr : Nat} {σ δ μ : St} {π : St × Int64} (h : RR nS nM hr σ δ π μ) : sp_X8_allLitres_4 σ 200 0 0 = some (S32 4 (fun i => μ 1 (144 + i))) := by
  have hS := h.1.2.2.1.2.1.1
  have e : S32 4 (fun i => μ 1 (144 + i)) = S32 nS (σ 12) := by
    rw [S32_congr (f := fun i => μ 1 (144 + i)) (g := σ 12) (fun i hi => (h.1.1 12 i hi).symm)]
    have := S32_zero (f := σ 12) (n := nS) (4 - nS) (fun i h1 h2 => Int32.toInt_inj.mp ((h.1.2.2.2.2.2.2.1 i (by omega)).2 h1))
    rwa [show nS + (4 - nS) = 4 by omega] at this
  rw [e]
  exact allL' hS h.1.2.2.1.2.1.2 nS 0 200 (by omega) (by omega)
theorem over48 {nS nM hr : Nat} {σ δ μ : St} {π : St × Int64} (h : RR nS nM hr σ δ π μ) : S32 48 (fun i => μ 1 (0 + i)) = S32 24 (fun i => σ 4 i + σ 5 i) := by
  have a := S32_app (fun i => μ 1 (0 + i)) 24 24
  have b : S32 24 (fun i => μ 1 (0 + i)) = S32 24 (σ 4) := S32_congr (fun i hi => by rw [Nat.zero_add]; exact (h.1.1 4 i hi).symm)
  have c : S32 24 (fun i => (fun i => μ 1 (0 + i)) (24 + i)) = S32 24 (σ 5) := S32_congr (fun i hi => by dsimp only; rw [Nat.zero_add]; exact (h.1.1 5 i hi).symm)
  rw [b, c, ← S32_add] at a
  exact a
theorem sum145 {w : Int32} {μ : St} (hw : ¬ w = 8) : sp_X10_sum_145 w 200 0 0 μ = sp_X10_sum_192 w 0 μ := by
  rw [show (200 : Nat) = 199 + 1 from rfl, sp_X10_sum_145]
  by_cases g : μ 0 10 ≤ 0
  · rw [if_pos g]
  · rw [if_neg g, if_neg hw]
theorem allI' {nS nM hr : Nat} {σ δ μ : St} {π : St × Int64} (h : RR nS nM hr σ δ π μ) : ∀ (j k n n' : Nat) (y : Int32), k + j = nM → j < n → j < n' → ∃ z, sp_X4_allInStores_4 σ n y (ι k) = some z ∧ sp_X10_sum_145 8 n' y (ι k) μ = sp_X10_sum_192 8 z μ := by
  have hM := h.1.2.2.1.2.2.1.1
  have e14 := h.1.2.2.1.2.2.1.2
  have m10 : μ 0 10 = ι nM := (h.1.1 14 0 rfl).symm.trans e14
  intro j
  induction j with
  | zero =>
    intro k n n' y h1 h2 h3
    obtain ⟨n, rfl⟩ : ∃ q, n = q + 1 := ⟨n - 1, by omega⟩
    obtain ⟨n', rfl⟩ : ∃ q, n' = q + 1 := ⟨n' - 1, by omega⟩
    have ek : k = nM := by omega
    subst ek
    exact ⟨y, by rw [sp_X4_allInStores_4, e14, if_pos (Int32.le_refl _)], by rw [sp_X10_sum_145, m10, if_pos (Int32.le_refl _)]⟩
  | succ j ih =>
    intro k n n' y h1 h2 h3
    obtain ⟨n, rfl⟩ : ∃ q, n = q + 1 := ⟨n - 1, by omega⟩
    obtain ⟨n', rfl⟩ : ∃ q, n' = q + 1 := ⟨n' - 1, by omega⟩
    have q : ¬ ι nM ≤ ι k := by rw [ι_le (by omega) (by omega)]; omega
    have e15 : μ 8 k = σ 15 k := (h.1.1 15 k (show k < 20 by omega)).symm
    have e20 : μ 1 (148 + k) = σ 20 k := (h.1.1 20 k (show k < 20 by omega)).symm
    by_cases g : σ 15 k = 1
    · obtain ⟨z, z1, z2⟩ := ih (k + 1) n n' (y + σ 20 k) (by omega) (by omega) (by omega)
      refine ⟨z, ?_, ?_⟩
      · rw [sp_X4_allInStores_4, e14, if_neg q, ix (show k < 20 by omega) (by omega), ι_nat (by omega), if_pos g, ix2 (show k < 20 by omega) (by omega), sls, ι_one, z1]
      · rw [sp_X10_sum_145, m10, if_neg q, if_pos rfl, ix (show k < 20 by omega) (by omega), ι_nat (show k < 100000 by omega), e15, if_pos g, i148, ix (show 148 + k < 174 by omega) (by omega), ι_nat (by omega), e20, sls, ι_one, z2]
    · obtain ⟨z, z1, z2⟩ := ih (k + 1) n n' y (by omega) (by omega) (by omega)
      refine ⟨z, ?_, ?_⟩
      · rw [sp_X4_allInStores_4, e14, if_neg q, ix (show k < 20 by omega) (by omega), ι_nat (by omega), if_neg g, ι_one, z1]
      · rw [sp_X10_sum_145, m10, if_neg q, if_pos rfl, ix (show k < 20 by omega) (by omega), ι_nat (show k < 100000 by omega), e15, if_neg g, sls, Int32.add_zero, ι_one, z2]
theorem allI {nS nM hr : Nat} {σ δ μ : St} {π : St × Int64} (h : RR nS nM hr σ δ π μ) : ∃ z, sp_X4_allInStores_4 σ 200 0 0 = some z ∧ sp_X10_sum_145 8 200 0 0 μ = sp_X10_sum_192 8 z μ := allI' h nM 0 200 200 0 (by omega) (by have := h.1.2.2.1.2.2.1.1; omega) (by have := h.1.2.2.1.2.2.1.1; omega)
theorem c_sum {nS nM hr : Nat} {σ δ μ : St} {π : St × Int64} (h : RR nS nM hr σ δ π μ) (p1 : Int32) (τ : St) (ν : Nat → Int32) (ω : Nat → Int64) : ∃ z9, st_30 p1 σ τ ν δ π ω μ = some z9 ∧ Rel z9 := by
  have hR := h.1.1
  have hnS : nS ≤ 4 := h.1.2.2.1.2.1.1
  have hnM : nM ≤ 20 := h.1.2.2.1.2.2.1.1
  have e10 : σ 10 0 = ι nS := h.1.2.2.1.2.1.2
  have e14 : σ 14 0 = ι nM := h.1.2.2.1.2.2.1.2
  have m7 : μ 0 7 = ι nS := (hR 10 0 rfl).symm.trans e10
  have m10 : μ 0 10 = ι nM := (hR 14 0 rfl).symm.trans e14
  rcases nrg p1 0 11 with ⟨l1, u1, a1, b1⟩ | ⟨a1, b1⟩
  rotate_left
  · have _ := a1
    refine ⟨_, e2_ex (fun w m => (σ, τ, ν, δ, π, w, m)) (k := 2) (c := 1) (v := 0) (μ' := th μ 1) ?_ rfl ?_ rfl (by decide), nS, nM, hr, h.th⟩
    · simp only [sp_X9_sum, sp_X2_allFloating, sp_X2_allStranded, sp_X8_allLitres, sp_X4_allInStores, sp_X3_allWaste, sp_X9_needWater, sp_X9_needShore, sp_X9_needSort, sp_X9_needRoomForMeans, e10, e14, m7, m10, a1, b1, or_true, true_or, or_false, false_or, b1s, b2s, sls, bxl, bxr, i10, i00, i11, i01, ite_T, ite_F, fl1, fl0, th_th, th_k1, th_k2, th_k3, th_k4, th_k5, th_k6, th_k7, th_k8, th_k9, th_k10, th_k11, th_k12, th_k13, th_k14, th_k15, th_k16, th_k17, th_0_5, th_0_6, th_0_7, th_0_10, th_0_18, th_0_19, th_0_21, th_0_22, th_0_24, th_0_26, th_0_27]
    · simp only [sp_X10_sum, sp_X10_sum_192, sp_X10_over, sp_X10_isShip, sp_X10_isMean, e10, e14, m7, m10, a1, b1, or_true, true_or, or_false, false_or, b1s, b2s, sls, bxl, bxr, i10, i00, i11, i01, ite_T, ite_F, fl1, fl0, th_th, th_k1, th_k2, th_k3, th_k4, th_k5, th_k6, th_k7, th_k8, th_k9, th_k10, th_k11, th_k12, th_k13, th_k14, th_k15, th_k16, th_k17, th_0_5, th_0_6, th_0_7, th_0_10, th_0_18, th_0_19, th_0_21, th_0_22, th_0_24, th_0_26, th_0_27]
  replace l1 : (0 : Int) ≤ p1.toInt := l1
  replace u1 : p1.toInt ≤ (11 : Int) := u1
  obtain ⟨w, hw, rfl⟩ := nat_of l1 u1
  obtain ⟨d1, d2, d3, d4⟩ := h.2.2.2.2.2.2.2.2.2.1
  have h' := h.th (x := 0)
  rcases (show w = 0 ∨ w = 1 ∨ w = 2 ∨ w = 3 ∨ w = 4 ∨ w = 5 ∨ w = 6 ∨ w = 7 ∨ w = 8 ∨ w = 9 ∨ w = 10 ∨ w = 11 by omega) with rfl | rfl | rfl | rfl | rfl | rfl | rfl | rfl | rfl | rfl | rfl | rfl
  · rw [show ι 0 = (0 : Int32) from rfl] at a1 b1 ⊢
    have q : μ 1 168 = σ 0 4 := (hR 0 4 (Or.inl rfl)).symm
    refine ⟨_, e2_ok (fun w m => (σ, τ, ν, δ, π, w, m)) (v := σ 0 4) (μ' := th μ 0) ?_ ?_ rfl, nS, nM, hr, ?_⟩
    · simp only [sp_X9_sum, sp_X2_allFloating, sp_X2_allStranded, sp_X8_allLitres, sp_X4_allInStores, sp_X3_allWaste, sp_X9_needWater, sp_X9_needShore, sp_X9_needSort, sp_X9_needRoomForMeans, a1, b1, n168, show (171 : Int32).toNatClampNeg = 171 from rfl, show (172 : Int32).toNatClampNeg = 172 from rfl, show (173 : Int32).toNatClampNeg = 173 from rfl, show (169 : Int32).toNatClampNeg = 169 from rfl, eq_false (by decide : ¬ (0 : Int32) = 2), eq_false (by decide : ¬ (0 : Int32) = 3), eq_false (by decide : ¬ (0 : Int32) = 4), eq_false (by decide : ¬ (0 : Int32) = 5), eq_false (by decide : ¬ (0 : Int32) = 6), eq_false (by decide : ¬ (0 : Int32) = 7), eq_false (by decide : ¬ (0 : Int32) = 8), eq_false (by decide : ¬ (0 : Int32) = 9), eq_false (by decide : ¬ (0 : Int32) = 10), eq_false (by decide : ¬ (0 : Int32) = 11), eq_false (by decide : ¬ (4 : Int32) ≤ 0), eq_false (by decide : ¬ (8 : Int32) ≤ 0), q, or_true, true_or, or_false, false_or, b1s, b2s, sls, bxl, bxr, i10, i00, i11, i01, ite_T, ite_F, fl1, fl0, th_th, th_k1, th_k2, th_k3, th_k4, th_k5, th_k6, th_k7, th_k8, th_k9, th_k10, th_k11, th_k12, th_k13, th_k14, th_k15, th_k16, th_k17, th_0_5, th_0_6, th_0_7, th_0_10, th_0_18, th_0_19, th_0_21, th_0_22, th_0_24, th_0_26, th_0_27]
    · simp only [sp_X10_sum, sp_X10_sum_192, sp_X10_over, sp_X10_isShip, sp_X10_isMean, a1, b1, n168, show (171 : Int32).toNatClampNeg = 171 from rfl, show (172 : Int32).toNatClampNeg = 172 from rfl, show (173 : Int32).toNatClampNeg = 173 from rfl, show (169 : Int32).toNatClampNeg = 169 from rfl, eq_false (by decide : ¬ (0 : Int32) = 2), eq_false (by decide : ¬ (0 : Int32) = 3), eq_false (by decide : ¬ (0 : Int32) = 4), eq_false (by decide : ¬ (0 : Int32) = 5), eq_false (by decide : ¬ (0 : Int32) = 6), eq_false (by decide : ¬ (0 : Int32) = 7), eq_false (by decide : ¬ (0 : Int32) = 8), eq_false (by decide : ¬ (0 : Int32) = 9), eq_false (by decide : ¬ (0 : Int32) = 10), eq_false (by decide : ¬ (0 : Int32) = 11), eq_false (by decide : ¬ (4 : Int32) ≤ 0), eq_false (by decide : ¬ (8 : Int32) ≤ 0), q, or_true, true_or, or_false, false_or, b1s, b2s, sls, bxl, bxr, i10, i00, i11, i01, ite_T, ite_F, fl1, fl0, th_th, th_k1, th_k2, th_k3, th_k4, th_k5, th_k6, th_k7, th_k8, th_k9, th_k10, th_k11, th_k12, th_k13, th_k14, th_k15, th_k16, th_k17, th_0_5, th_0_6, th_0_7, th_0_10, th_0_18, th_0_19, th_0_21, th_0_22, th_0_24, th_0_26, th_0_27]
    · exact h.th
  · rw [show ι 1 = (1 : Int32) from rfl] at a1 b1 ⊢
    have q : μ 1 169 = σ 23 0 := (hR 23 0 ⟨trivial, by decide⟩).symm
    refine ⟨_, e2_ok (fun w m => (σ, τ, ν, δ, π, w, m)) (v := σ 23 0) (μ' := th μ 0) ?_ ?_ rfl, nS, nM, hr, ?_⟩
    · simp only [sp_X9_sum, sp_X2_allFloating, sp_X2_allStranded, sp_X8_allLitres, sp_X4_allInStores, sp_X3_allWaste, sp_X9_needWater, sp_X9_needShore, sp_X9_needSort, sp_X9_needRoomForMeans, a1, b1, n168, show (171 : Int32).toNatClampNeg = 171 from rfl, show (172 : Int32).toNatClampNeg = 172 from rfl, show (173 : Int32).toNatClampNeg = 173 from rfl, show (169 : Int32).toNatClampNeg = 169 from rfl, eq_false (by decide : ¬ (1 : Int32) = 2), eq_false (by decide : ¬ (1 : Int32) = 3), eq_false (by decide : ¬ (1 : Int32) = 4), eq_false (by decide : ¬ (1 : Int32) = 5), eq_false (by decide : ¬ (1 : Int32) = 6), eq_false (by decide : ¬ (1 : Int32) = 7), eq_false (by decide : ¬ (1 : Int32) = 8), eq_false (by decide : ¬ (1 : Int32) = 9), eq_false (by decide : ¬ (1 : Int32) = 10), eq_false (by decide : ¬ (1 : Int32) = 11), eq_false (by decide : ¬ (4 : Int32) ≤ 1), eq_false (by decide : ¬ (8 : Int32) ≤ 1), q, or_true, true_or, or_false, false_or, b1s, b2s, sls, bxl, bxr, i10, i00, i11, i01, ite_T, ite_F, fl1, fl0, th_th, th_k1, th_k2, th_k3, th_k4, th_k5, th_k6, th_k7, th_k8, th_k9, th_k10, th_k11, th_k12, th_k13, th_k14, th_k15, th_k16, th_k17, th_0_5, th_0_6, th_0_7, th_0_10, th_0_18, th_0_19, th_0_21, th_0_22, th_0_24, th_0_26, th_0_27]
    · simp only [sp_X10_sum, sp_X10_sum_192, sp_X10_over, sp_X10_isShip, sp_X10_isMean, a1, b1, n168, show (171 : Int32).toNatClampNeg = 171 from rfl, show (172 : Int32).toNatClampNeg = 172 from rfl, show (173 : Int32).toNatClampNeg = 173 from rfl, show (169 : Int32).toNatClampNeg = 169 from rfl, eq_false (by decide : ¬ (1 : Int32) = 2), eq_false (by decide : ¬ (1 : Int32) = 3), eq_false (by decide : ¬ (1 : Int32) = 4), eq_false (by decide : ¬ (1 : Int32) = 5), eq_false (by decide : ¬ (1 : Int32) = 6), eq_false (by decide : ¬ (1 : Int32) = 7), eq_false (by decide : ¬ (1 : Int32) = 8), eq_false (by decide : ¬ (1 : Int32) = 9), eq_false (by decide : ¬ (1 : Int32) = 10), eq_false (by decide : ¬ (1 : Int32) = 11), eq_false (by decide : ¬ (4 : Int32) ≤ 1), eq_false (by decide : ¬ (8 : Int32) ≤ 1), q, or_true, true_or, or_false, false_or, b1s, b2s, sls, bxl, bxr, i10, i00, i11, i01, ite_T, ite_F, fl1, fl0, th_th, th_k1, th_k2, th_k3, th_k4, th_k5, th_k6, th_k7, th_k8, th_k9, th_k10, th_k11, th_k12, th_k13, th_k14, th_k15, th_k16, th_k17, th_0_5, th_0_6, th_0_7, th_0_10, th_0_18, th_0_19, th_0_21, th_0_22, th_0_24, th_0_26, th_0_27]
    · exact h.th
  · rw [show ι 2 = (2 : Int32) from rfl] at a1 b1 ⊢
    have q9 : sp_X8_allLitres_4 σ 200 0 0 = some (S32 4 (fun i => μ 1 (144 + i))) := allL h
    have q10 : sp_X10_over_5 (th μ 0) 144 4 200 0 144 = some (S32 4 (fun i => μ 1 (144 + i))) := over10 (μ := th μ 0) 144 4 (by omega)
    refine ⟨_, e2_ok (fun w m => (σ, τ, ν, δ, π, w, m)) (v := S32 4 (fun i => μ 1 (144 + i))) (μ' := th μ 0) ?_ ?_ rfl, nS, nM, hr, ?_⟩
    · simp only [sp_X9_sum, sp_X2_allFloating, sp_X2_allStranded, sp_X8_allLitres, sp_X4_allInStores, sp_X3_allWaste, sp_X9_needWater, sp_X9_needShore, sp_X9_needSort, sp_X9_needRoomForMeans, a1, b1, n168, show (171 : Int32).toNatClampNeg = 171 from rfl, show (172 : Int32).toNatClampNeg = 172 from rfl, show (173 : Int32).toNatClampNeg = 173 from rfl, show (169 : Int32).toNatClampNeg = 169 from rfl, eq_false (by decide : ¬ (2 : Int32) = 0), eq_false (by decide : ¬ (2 : Int32) = 1), eq_true (by decide : (2 : Int32) = 2), eq_false (by decide : ¬ (2 : Int32) = 3), eq_false (by decide : ¬ (2 : Int32) = 4), eq_false (by decide : ¬ (2 : Int32) = 5), eq_false (by decide : ¬ (2 : Int32) = 6), eq_false (by decide : ¬ (2 : Int32) = 7), eq_false (by decide : ¬ (2 : Int32) = 8), eq_false (by decide : ¬ (2 : Int32) = 9), eq_false (by decide : ¬ (2 : Int32) = 10), eq_false (by decide : ¬ (2 : Int32) = 11), eq_false (by decide : ¬ (4 : Int32) ≤ 2), eq_false (by decide : ¬ (8 : Int32) ≤ 2), q9, q10, or_true, true_or, or_false, false_or, b1s, b2s, sls, bxl, bxr, i10, i00, i11, i01, ite_T, ite_F, fl1, fl0, th_th, th_k1, th_k2, th_k3, th_k4, th_k5, th_k6, th_k7, th_k8, th_k9, th_k10, th_k11, th_k12, th_k13, th_k14, th_k15, th_k16, th_k17, th_0_5, th_0_6, th_0_7, th_0_10, th_0_18, th_0_19, th_0_21, th_0_22, th_0_24, th_0_26, th_0_27]
    · simp only [sp_X10_sum, sp_X10_sum_192, sp_X10_over, sp_X10_isShip, sp_X10_isMean, a1, b1, n168, show (171 : Int32).toNatClampNeg = 171 from rfl, show (172 : Int32).toNatClampNeg = 172 from rfl, show (173 : Int32).toNatClampNeg = 173 from rfl, show (169 : Int32).toNatClampNeg = 169 from rfl, eq_false (by decide : ¬ (2 : Int32) = 0), eq_false (by decide : ¬ (2 : Int32) = 1), eq_true (by decide : (2 : Int32) = 2), eq_false (by decide : ¬ (2 : Int32) = 3), eq_false (by decide : ¬ (2 : Int32) = 4), eq_false (by decide : ¬ (2 : Int32) = 5), eq_false (by decide : ¬ (2 : Int32) = 6), eq_false (by decide : ¬ (2 : Int32) = 7), eq_false (by decide : ¬ (2 : Int32) = 8), eq_false (by decide : ¬ (2 : Int32) = 9), eq_false (by decide : ¬ (2 : Int32) = 10), eq_false (by decide : ¬ (2 : Int32) = 11), eq_false (by decide : ¬ (4 : Int32) ≤ 2), eq_false (by decide : ¬ (8 : Int32) ≤ 2), q9, q10, or_true, true_or, or_false, false_or, b1s, b2s, sls, bxl, bxr, i10, i00, i11, i01, ite_T, ite_F, fl1, fl0, th_th, th_k1, th_k2, th_k3, th_k4, th_k5, th_k6, th_k7, th_k8, th_k9, th_k10, th_k11, th_k12, th_k13, th_k14, th_k15, th_k16, th_k17, th_0_5, th_0_6, th_0_7, th_0_10, th_0_18, th_0_19, th_0_21, th_0_22, th_0_24, th_0_26, th_0_27]
    · exact h.th
  · rw [show ι 3 = (3 : Int32) from rfl] at a1 b1 ⊢
    have q9 : sp_X2_allFloating_4 σ 200 0 0 = some (S32 24 (fun i => σ 4 i + σ 5 i)) := allF
    have q10 : sp_X10_over_5 (th μ 0) 0 48 200 0 0 = some (S32 24 (fun i => σ 4 i + σ 5 i)) := (over10 (μ := th μ 0) 0 48 (by omega)).trans (congrArg some (over48 h'))
    refine ⟨_, e2_ok (fun w m => (σ, τ, ν, δ, π, w, m)) (v := S32 24 (fun i => σ 4 i + σ 5 i)) (μ' := th μ 0) ?_ ?_ rfl, nS, nM, hr, ?_⟩
    · simp only [sp_X9_sum, sp_X2_allFloating, sp_X2_allStranded, sp_X8_allLitres, sp_X4_allInStores, sp_X3_allWaste, sp_X9_needWater, sp_X9_needShore, sp_X9_needSort, sp_X9_needRoomForMeans, a1, b1, n168, show (171 : Int32).toNatClampNeg = 171 from rfl, show (172 : Int32).toNatClampNeg = 172 from rfl, show (173 : Int32).toNatClampNeg = 173 from rfl, show (169 : Int32).toNatClampNeg = 169 from rfl, eq_false (by decide : ¬ (3 : Int32) = 0), eq_false (by decide : ¬ (3 : Int32) = 1), eq_false (by decide : ¬ (3 : Int32) = 2), eq_true (by decide : (3 : Int32) = 3), eq_false (by decide : ¬ (3 : Int32) = 4), eq_false (by decide : ¬ (3 : Int32) = 5), eq_false (by decide : ¬ (3 : Int32) = 6), eq_false (by decide : ¬ (3 : Int32) = 7), eq_false (by decide : ¬ (3 : Int32) = 8), eq_false (by decide : ¬ (3 : Int32) = 9), eq_false (by decide : ¬ (3 : Int32) = 10), eq_false (by decide : ¬ (3 : Int32) = 11), eq_false (by decide : ¬ (4 : Int32) ≤ 3), eq_false (by decide : ¬ (8 : Int32) ≤ 3), q9, q10, or_true, true_or, or_false, false_or, b1s, b2s, sls, bxl, bxr, i10, i00, i11, i01, ite_T, ite_F, fl1, fl0, th_th, th_k1, th_k2, th_k3, th_k4, th_k5, th_k6, th_k7, th_k8, th_k9, th_k10, th_k11, th_k12, th_k13, th_k14, th_k15, th_k16, th_k17, th_0_5, th_0_6, th_0_7, th_0_10, th_0_18, th_0_19, th_0_21, th_0_22, th_0_24, th_0_26, th_0_27]
    · simp only [sp_X10_sum, sp_X10_sum_192, sp_X10_over, sp_X10_isShip, sp_X10_isMean, a1, b1, n168, show (171 : Int32).toNatClampNeg = 171 from rfl, show (172 : Int32).toNatClampNeg = 172 from rfl, show (173 : Int32).toNatClampNeg = 173 from rfl, show (169 : Int32).toNatClampNeg = 169 from rfl, eq_false (by decide : ¬ (3 : Int32) = 0), eq_false (by decide : ¬ (3 : Int32) = 1), eq_false (by decide : ¬ (3 : Int32) = 2), eq_true (by decide : (3 : Int32) = 3), eq_false (by decide : ¬ (3 : Int32) = 4), eq_false (by decide : ¬ (3 : Int32) = 5), eq_false (by decide : ¬ (3 : Int32) = 6), eq_false (by decide : ¬ (3 : Int32) = 7), eq_false (by decide : ¬ (3 : Int32) = 8), eq_false (by decide : ¬ (3 : Int32) = 9), eq_false (by decide : ¬ (3 : Int32) = 10), eq_false (by decide : ¬ (3 : Int32) = 11), eq_false (by decide : ¬ (4 : Int32) ≤ 3), eq_false (by decide : ¬ (8 : Int32) ≤ 3), q9, q10, or_true, true_or, or_false, false_or, b1s, b2s, sls, bxl, bxr, i10, i00, i11, i01, ite_T, ite_F, fl1, fl0, th_th, th_k1, th_k2, th_k3, th_k4, th_k5, th_k6, th_k7, th_k8, th_k9, th_k10, th_k11, th_k12, th_k13, th_k14, th_k15, th_k16, th_k17, th_0_5, th_0_6, th_0_7, th_0_10, th_0_18, th_0_19, th_0_21, th_0_22, th_0_24, th_0_26, th_0_27]
    · exact h.th
  · rw [show ι 4 = (4 : Int32) from rfl] at a1 b1 ⊢
    have q : μ 1 171 = σ 23 2 := (hR 23 2 ⟨trivial, by decide⟩).symm
    refine ⟨_, e2_ok (fun w m => (σ, τ, ν, δ, π, w, m)) (v := σ 23 2) (μ' := th μ 0) ?_ ?_ rfl, nS, nM, hr, ?_⟩
    · simp only [sp_X9_sum, sp_X2_allFloating, sp_X2_allStranded, sp_X8_allLitres, sp_X4_allInStores, sp_X3_allWaste, sp_X9_needWater, sp_X9_needShore, sp_X9_needSort, sp_X9_needRoomForMeans, a1, b1, n168, show (171 : Int32).toNatClampNeg = 171 from rfl, show (172 : Int32).toNatClampNeg = 172 from rfl, show (173 : Int32).toNatClampNeg = 173 from rfl, show (169 : Int32).toNatClampNeg = 169 from rfl, eq_false (by decide : ¬ (4 : Int32) = 0), eq_false (by decide : ¬ (4 : Int32) = 1), eq_false (by decide : ¬ (4 : Int32) = 2), eq_false (by decide : ¬ (4 : Int32) = 3), eq_true (by decide : (4 : Int32) = 4), eq_false (by decide : ¬ (4 : Int32) = 5), eq_false (by decide : ¬ (4 : Int32) = 6), eq_false (by decide : ¬ (4 : Int32) = 7), eq_false (by decide : ¬ (4 : Int32) = 8), eq_false (by decide : ¬ (4 : Int32) = 9), eq_false (by decide : ¬ (4 : Int32) = 10), eq_false (by decide : ¬ (4 : Int32) = 11), eq_true (by decide : (4 : Int32) ≤ 4), eq_false (by decide : ¬ (8 : Int32) ≤ 4), q, or_true, true_or, or_false, false_or, b1s, b2s, sls, bxl, bxr, i10, i00, i11, i01, ite_T, ite_F, fl1, fl0, th_th, th_k1, th_k2, th_k3, th_k4, th_k5, th_k6, th_k7, th_k8, th_k9, th_k10, th_k11, th_k12, th_k13, th_k14, th_k15, th_k16, th_k17, th_0_5, th_0_6, th_0_7, th_0_10, th_0_18, th_0_19, th_0_21, th_0_22, th_0_24, th_0_26, th_0_27]
    · simp only [sp_X10_sum, sp_X10_sum_192, sp_X10_over, sp_X10_isShip, sp_X10_isMean, a1, b1, n168, show (171 : Int32).toNatClampNeg = 171 from rfl, show (172 : Int32).toNatClampNeg = 172 from rfl, show (173 : Int32).toNatClampNeg = 173 from rfl, show (169 : Int32).toNatClampNeg = 169 from rfl, eq_false (by decide : ¬ (4 : Int32) = 0), eq_false (by decide : ¬ (4 : Int32) = 1), eq_false (by decide : ¬ (4 : Int32) = 2), eq_false (by decide : ¬ (4 : Int32) = 3), eq_true (by decide : (4 : Int32) = 4), eq_false (by decide : ¬ (4 : Int32) = 5), eq_false (by decide : ¬ (4 : Int32) = 6), eq_false (by decide : ¬ (4 : Int32) = 7), eq_false (by decide : ¬ (4 : Int32) = 8), eq_false (by decide : ¬ (4 : Int32) = 9), eq_false (by decide : ¬ (4 : Int32) = 10), eq_false (by decide : ¬ (4 : Int32) = 11), eq_true (by decide : (4 : Int32) ≤ 4), eq_false (by decide : ¬ (8 : Int32) ≤ 4), q, or_true, true_or, or_false, false_or, b1s, b2s, sls, bxl, bxr, i10, i00, i11, i01, ite_T, ite_F, fl1, fl0, th_th, th_k1, th_k2, th_k3, th_k4, th_k5, th_k6, th_k7, th_k8, th_k9, th_k10, th_k11, th_k12, th_k13, th_k14, th_k15, th_k16, th_k17, th_0_5, th_0_6, th_0_7, th_0_10, th_0_18, th_0_19, th_0_21, th_0_22, th_0_24, th_0_26, th_0_27]
    · exact h.th
  · rw [show ι 5 = (5 : Int32) from rfl] at a1 b1 ⊢
    have q : μ 1 172 = σ 23 3 := (hR 23 3 ⟨trivial, by decide⟩).symm
    refine ⟨_, e2_ok (fun w m => (σ, τ, ν, δ, π, w, m)) (v := σ 23 3) (μ' := th μ 0) ?_ ?_ rfl, nS, nM, hr, ?_⟩
    · simp only [sp_X9_sum, sp_X2_allFloating, sp_X2_allStranded, sp_X8_allLitres, sp_X4_allInStores, sp_X3_allWaste, sp_X9_needWater, sp_X9_needShore, sp_X9_needSort, sp_X9_needRoomForMeans, a1, b1, n168, show (171 : Int32).toNatClampNeg = 171 from rfl, show (172 : Int32).toNatClampNeg = 172 from rfl, show (173 : Int32).toNatClampNeg = 173 from rfl, show (169 : Int32).toNatClampNeg = 169 from rfl, eq_false (by decide : ¬ (5 : Int32) = 0), eq_false (by decide : ¬ (5 : Int32) = 1), eq_false (by decide : ¬ (5 : Int32) = 2), eq_false (by decide : ¬ (5 : Int32) = 3), eq_false (by decide : ¬ (5 : Int32) = 4), eq_true (by decide : (5 : Int32) = 5), eq_false (by decide : ¬ (5 : Int32) = 6), eq_false (by decide : ¬ (5 : Int32) = 7), eq_false (by decide : ¬ (5 : Int32) = 8), eq_false (by decide : ¬ (5 : Int32) = 9), eq_false (by decide : ¬ (5 : Int32) = 10), eq_false (by decide : ¬ (5 : Int32) = 11), eq_true (by decide : (4 : Int32) ≤ 5), eq_false (by decide : ¬ (8 : Int32) ≤ 5), q, or_true, true_or, or_false, false_or, b1s, b2s, sls, bxl, bxr, i10, i00, i11, i01, ite_T, ite_F, fl1, fl0, th_th, th_k1, th_k2, th_k3, th_k4, th_k5, th_k6, th_k7, th_k8, th_k9, th_k10, th_k11, th_k12, th_k13, th_k14, th_k15, th_k16, th_k17, th_0_5, th_0_6, th_0_7, th_0_10, th_0_18, th_0_19, th_0_21, th_0_22, th_0_24, th_0_26, th_0_27]
    · simp only [sp_X10_sum, sp_X10_sum_192, sp_X10_over, sp_X10_isShip, sp_X10_isMean, a1, b1, n168, show (171 : Int32).toNatClampNeg = 171 from rfl, show (172 : Int32).toNatClampNeg = 172 from rfl, show (173 : Int32).toNatClampNeg = 173 from rfl, show (169 : Int32).toNatClampNeg = 169 from rfl, eq_false (by decide : ¬ (5 : Int32) = 0), eq_false (by decide : ¬ (5 : Int32) = 1), eq_false (by decide : ¬ (5 : Int32) = 2), eq_false (by decide : ¬ (5 : Int32) = 3), eq_false (by decide : ¬ (5 : Int32) = 4), eq_true (by decide : (5 : Int32) = 5), eq_false (by decide : ¬ (5 : Int32) = 6), eq_false (by decide : ¬ (5 : Int32) = 7), eq_false (by decide : ¬ (5 : Int32) = 8), eq_false (by decide : ¬ (5 : Int32) = 9), eq_false (by decide : ¬ (5 : Int32) = 10), eq_false (by decide : ¬ (5 : Int32) = 11), eq_true (by decide : (4 : Int32) ≤ 5), eq_false (by decide : ¬ (8 : Int32) ≤ 5), q, or_true, true_or, or_false, false_or, b1s, b2s, sls, bxl, bxr, i10, i00, i11, i01, ite_T, ite_F, fl1, fl0, th_th, th_k1, th_k2, th_k3, th_k4, th_k5, th_k6, th_k7, th_k8, th_k9, th_k10, th_k11, th_k12, th_k13, th_k14, th_k15, th_k16, th_k17, th_0_5, th_0_6, th_0_7, th_0_10, th_0_18, th_0_19, th_0_21, th_0_22, th_0_24, th_0_26, th_0_27]
    · exact h.th
  · rw [show ι 6 = (6 : Int32) from rfl] at a1 b1 ⊢
    have q : μ 1 173 = σ 23 4 := (hR 23 4 ⟨trivial, by decide⟩).symm
    refine ⟨_, e2_ok (fun w m => (σ, τ, ν, δ, π, w, m)) (v := σ 23 4) (μ' := th μ 0) ?_ ?_ rfl, nS, nM, hr, ?_⟩
    · simp only [sp_X9_sum, sp_X2_allFloating, sp_X2_allStranded, sp_X8_allLitres, sp_X4_allInStores, sp_X3_allWaste, sp_X9_needWater, sp_X9_needShore, sp_X9_needSort, sp_X9_needRoomForMeans, a1, b1, n168, show (171 : Int32).toNatClampNeg = 171 from rfl, show (172 : Int32).toNatClampNeg = 172 from rfl, show (173 : Int32).toNatClampNeg = 173 from rfl, show (169 : Int32).toNatClampNeg = 169 from rfl, eq_false (by decide : ¬ (6 : Int32) = 0), eq_false (by decide : ¬ (6 : Int32) = 1), eq_false (by decide : ¬ (6 : Int32) = 2), eq_false (by decide : ¬ (6 : Int32) = 3), eq_false (by decide : ¬ (6 : Int32) = 4), eq_false (by decide : ¬ (6 : Int32) = 5), eq_true (by decide : (6 : Int32) = 6), eq_false (by decide : ¬ (6 : Int32) = 7), eq_false (by decide : ¬ (6 : Int32) = 8), eq_false (by decide : ¬ (6 : Int32) = 9), eq_false (by decide : ¬ (6 : Int32) = 10), eq_false (by decide : ¬ (6 : Int32) = 11), eq_true (by decide : (4 : Int32) ≤ 6), eq_false (by decide : ¬ (8 : Int32) ≤ 6), q, or_true, true_or, or_false, false_or, b1s, b2s, sls, bxl, bxr, i10, i00, i11, i01, ite_T, ite_F, fl1, fl0, th_th, th_k1, th_k2, th_k3, th_k4, th_k5, th_k6, th_k7, th_k8, th_k9, th_k10, th_k11, th_k12, th_k13, th_k14, th_k15, th_k16, th_k17, th_0_5, th_0_6, th_0_7, th_0_10, th_0_18, th_0_19, th_0_21, th_0_22, th_0_24, th_0_26, th_0_27]
    · simp only [sp_X10_sum, sp_X10_sum_192, sp_X10_over, sp_X10_isShip, sp_X10_isMean, a1, b1, n168, show (171 : Int32).toNatClampNeg = 171 from rfl, show (172 : Int32).toNatClampNeg = 172 from rfl, show (173 : Int32).toNatClampNeg = 173 from rfl, show (169 : Int32).toNatClampNeg = 169 from rfl, eq_false (by decide : ¬ (6 : Int32) = 0), eq_false (by decide : ¬ (6 : Int32) = 1), eq_false (by decide : ¬ (6 : Int32) = 2), eq_false (by decide : ¬ (6 : Int32) = 3), eq_false (by decide : ¬ (6 : Int32) = 4), eq_false (by decide : ¬ (6 : Int32) = 5), eq_true (by decide : (6 : Int32) = 6), eq_false (by decide : ¬ (6 : Int32) = 7), eq_false (by decide : ¬ (6 : Int32) = 8), eq_false (by decide : ¬ (6 : Int32) = 9), eq_false (by decide : ¬ (6 : Int32) = 10), eq_false (by decide : ¬ (6 : Int32) = 11), eq_true (by decide : (4 : Int32) ≤ 6), eq_false (by decide : ¬ (8 : Int32) ≤ 6), q, or_true, true_or, or_false, false_or, b1s, b2s, sls, bxl, bxr, i10, i00, i11, i01, ite_T, ite_F, fl1, fl0, th_th, th_k1, th_k2, th_k3, th_k4, th_k5, th_k6, th_k7, th_k8, th_k9, th_k10, th_k11, th_k12, th_k13, th_k14, th_k15, th_k16, th_k17, th_0_5, th_0_6, th_0_7, th_0_10, th_0_18, th_0_19, th_0_21, th_0_22, th_0_24, th_0_26, th_0_27]
    · exact h.th
  · rw [show ι 7 = (7 : Int32) from rfl] at a1 b1 ⊢
    have q9 : sp_X2_allStranded_4 σ 200 0 0 = some (S32 24 (σ 6)) := allS
    have q10 : sp_X10_over_5 (th μ 0) 48 24 200 0 48 = some (S32 24 (σ 6)) := (over10 (μ := th μ 0) 48 24 (by omega)).trans (congrArg some (S32_congr (fun i hi => (hR 6 i hi).symm)))
    refine ⟨_, e2_ok (fun w m => (σ, τ, ν, δ, π, w, m)) (v := S32 24 (σ 6)) (μ' := th μ 0) ?_ ?_ rfl, nS, nM, hr, ?_⟩
    · simp only [sp_X9_sum, sp_X2_allFloating, sp_X2_allStranded, sp_X8_allLitres, sp_X4_allInStores, sp_X3_allWaste, sp_X9_needWater, sp_X9_needShore, sp_X9_needSort, sp_X9_needRoomForMeans, a1, b1, n168, show (171 : Int32).toNatClampNeg = 171 from rfl, show (172 : Int32).toNatClampNeg = 172 from rfl, show (173 : Int32).toNatClampNeg = 173 from rfl, show (169 : Int32).toNatClampNeg = 169 from rfl, eq_false (by decide : ¬ (7 : Int32) = 0), eq_false (by decide : ¬ (7 : Int32) = 1), eq_false (by decide : ¬ (7 : Int32) = 2), eq_false (by decide : ¬ (7 : Int32) = 3), eq_false (by decide : ¬ (7 : Int32) = 4), eq_false (by decide : ¬ (7 : Int32) = 5), eq_false (by decide : ¬ (7 : Int32) = 6), eq_true (by decide : (7 : Int32) = 7), eq_false (by decide : ¬ (7 : Int32) = 8), eq_false (by decide : ¬ (7 : Int32) = 9), eq_false (by decide : ¬ (7 : Int32) = 10), eq_false (by decide : ¬ (7 : Int32) = 11), eq_true (by decide : (4 : Int32) ≤ 7), eq_false (by decide : ¬ (8 : Int32) ≤ 7), q9, q10, or_true, true_or, or_false, false_or, b1s, b2s, sls, bxl, bxr, i10, i00, i11, i01, ite_T, ite_F, fl1, fl0, th_th, th_k1, th_k2, th_k3, th_k4, th_k5, th_k6, th_k7, th_k8, th_k9, th_k10, th_k11, th_k12, th_k13, th_k14, th_k15, th_k16, th_k17, th_0_5, th_0_6, th_0_7, th_0_10, th_0_18, th_0_19, th_0_21, th_0_22, th_0_24, th_0_26, th_0_27]
    · simp only [sp_X10_sum, sp_X10_sum_192, sp_X10_over, sp_X10_isShip, sp_X10_isMean, a1, b1, n168, show (171 : Int32).toNatClampNeg = 171 from rfl, show (172 : Int32).toNatClampNeg = 172 from rfl, show (173 : Int32).toNatClampNeg = 173 from rfl, show (169 : Int32).toNatClampNeg = 169 from rfl, eq_false (by decide : ¬ (7 : Int32) = 0), eq_false (by decide : ¬ (7 : Int32) = 1), eq_false (by decide : ¬ (7 : Int32) = 2), eq_false (by decide : ¬ (7 : Int32) = 3), eq_false (by decide : ¬ (7 : Int32) = 4), eq_false (by decide : ¬ (7 : Int32) = 5), eq_false (by decide : ¬ (7 : Int32) = 6), eq_true (by decide : (7 : Int32) = 7), eq_false (by decide : ¬ (7 : Int32) = 8), eq_false (by decide : ¬ (7 : Int32) = 9), eq_false (by decide : ¬ (7 : Int32) = 10), eq_false (by decide : ¬ (7 : Int32) = 11), eq_true (by decide : (4 : Int32) ≤ 7), eq_false (by decide : ¬ (8 : Int32) ≤ 7), q9, q10, or_true, true_or, or_false, false_or, b1s, b2s, sls, bxl, bxr, i10, i00, i11, i01, ite_T, ite_F, fl1, fl0, th_th, th_k1, th_k2, th_k3, th_k4, th_k5, th_k6, th_k7, th_k8, th_k9, th_k10, th_k11, th_k12, th_k13, th_k14, th_k15, th_k16, th_k17, th_0_5, th_0_6, th_0_7, th_0_10, th_0_18, th_0_19, th_0_21, th_0_22, th_0_24, th_0_26, th_0_27]
    · exact h.th
  · rw [show ι 8 = (8 : Int32) from rfl] at a1 b1 ⊢
    obtain ⟨z, q9, q10⟩ := allI h'
    refine ⟨_, e2_ok (fun w m => (σ, τ, ν, δ, π, w, m)) (v := z) (μ' := th μ 0) ?_ ?_ rfl, nS, nM, hr, ?_⟩
    · simp only [sp_X9_sum, sp_X2_allFloating, sp_X2_allStranded, sp_X8_allLitres, sp_X4_allInStores, sp_X3_allWaste, sp_X9_needWater, sp_X9_needShore, sp_X9_needSort, sp_X9_needRoomForMeans, a1, b1, n168, show (171 : Int32).toNatClampNeg = 171 from rfl, show (172 : Int32).toNatClampNeg = 172 from rfl, show (173 : Int32).toNatClampNeg = 173 from rfl, show (169 : Int32).toNatClampNeg = 169 from rfl, eq_false (by decide : ¬ (8 : Int32) = 0), eq_false (by decide : ¬ (8 : Int32) = 1), eq_false (by decide : ¬ (8 : Int32) = 2), eq_false (by decide : ¬ (8 : Int32) = 3), eq_false (by decide : ¬ (8 : Int32) = 4), eq_false (by decide : ¬ (8 : Int32) = 5), eq_false (by decide : ¬ (8 : Int32) = 6), eq_false (by decide : ¬ (8 : Int32) = 7), eq_true (by decide : (8 : Int32) = 8), eq_false (by decide : ¬ (8 : Int32) = 9), eq_false (by decide : ¬ (8 : Int32) = 10), eq_false (by decide : ¬ (8 : Int32) = 11), eq_true (by decide : (4 : Int32) ≤ 8), eq_true (by decide : (8 : Int32) ≤ 8), q9, q10, or_true, true_or, or_false, false_or, b1s, b2s, sls, bxl, bxr, i10, i00, i11, i01, ite_T, ite_F, fl1, fl0, th_th, th_k1, th_k2, th_k3, th_k4, th_k5, th_k6, th_k7, th_k8, th_k9, th_k10, th_k11, th_k12, th_k13, th_k14, th_k15, th_k16, th_k17, th_0_5, th_0_6, th_0_7, th_0_10, th_0_18, th_0_19, th_0_21, th_0_22, th_0_24, th_0_26, th_0_27]
    · simp only [sp_X10_sum, sp_X10_sum_192, sp_X10_over, sp_X10_isShip, sp_X10_isMean, a1, b1, n168, show (171 : Int32).toNatClampNeg = 171 from rfl, show (172 : Int32).toNatClampNeg = 172 from rfl, show (173 : Int32).toNatClampNeg = 173 from rfl, show (169 : Int32).toNatClampNeg = 169 from rfl, eq_false (by decide : ¬ (8 : Int32) = 0), eq_false (by decide : ¬ (8 : Int32) = 1), eq_false (by decide : ¬ (8 : Int32) = 2), eq_false (by decide : ¬ (8 : Int32) = 3), eq_false (by decide : ¬ (8 : Int32) = 4), eq_false (by decide : ¬ (8 : Int32) = 5), eq_false (by decide : ¬ (8 : Int32) = 6), eq_false (by decide : ¬ (8 : Int32) = 7), eq_true (by decide : (8 : Int32) = 8), eq_false (by decide : ¬ (8 : Int32) = 9), eq_false (by decide : ¬ (8 : Int32) = 10), eq_false (by decide : ¬ (8 : Int32) = 11), eq_true (by decide : (4 : Int32) ≤ 8), eq_true (by decide : (8 : Int32) ≤ 8), q9, q10, or_true, true_or, or_false, false_or, b1s, b2s, sls, bxl, bxr, i10, i00, i11, i01, ite_T, ite_F, fl1, fl0, th_th, th_k1, th_k2, th_k3, th_k4, th_k5, th_k6, th_k7, th_k8, th_k9, th_k10, th_k11, th_k12, th_k13, th_k14, th_k15, th_k16, th_k17, th_0_5, th_0_6, th_0_7, th_0_10, th_0_18, th_0_19, th_0_21, th_0_22, th_0_24, th_0_26, th_0_27]
    · exact h.th
  · rw [show ι 9 = (9 : Int32) from rfl] at a1 b1 ⊢
    have q : μ 0 18 = σ 23 5 := (hR 23 5 ⟨trivial, by decide⟩).symm
    have q10 : sp_X10_sum_145 9 200 0 0 (th μ 0) = sp_X10_sum_192 9 0 (th μ 0) := sum145 (by decide)
    refine ⟨_, e2_ok (fun w m => (σ, τ, ν, δ, π, w, m)) (v := σ 23 5) (μ' := th μ 0) ?_ ?_ rfl, nS, nM, hr, ?_⟩
    · simp only [sp_X9_sum, sp_X2_allFloating, sp_X2_allStranded, sp_X8_allLitres, sp_X4_allInStores, sp_X3_allWaste, sp_X9_needWater, sp_X9_needShore, sp_X9_needSort, sp_X9_needRoomForMeans, a1, b1, n168, show (171 : Int32).toNatClampNeg = 171 from rfl, show (172 : Int32).toNatClampNeg = 172 from rfl, show (173 : Int32).toNatClampNeg = 173 from rfl, show (169 : Int32).toNatClampNeg = 169 from rfl, eq_false (by decide : ¬ (9 : Int32) = 0), eq_false (by decide : ¬ (9 : Int32) = 1), eq_false (by decide : ¬ (9 : Int32) = 2), eq_false (by decide : ¬ (9 : Int32) = 3), eq_false (by decide : ¬ (9 : Int32) = 4), eq_false (by decide : ¬ (9 : Int32) = 5), eq_false (by decide : ¬ (9 : Int32) = 6), eq_false (by decide : ¬ (9 : Int32) = 7), eq_false (by decide : ¬ (9 : Int32) = 8), eq_true (by decide : (9 : Int32) = 9), eq_false (by decide : ¬ (9 : Int32) = 10), eq_false (by decide : ¬ (9 : Int32) = 11), eq_true (by decide : (4 : Int32) ≤ 9), eq_true (by decide : (8 : Int32) ≤ 9), q, q10, or_true, true_or, or_false, false_or, b1s, b2s, sls, bxl, bxr, i10, i00, i11, i01, ite_T, ite_F, fl1, fl0, th_th, th_k1, th_k2, th_k3, th_k4, th_k5, th_k6, th_k7, th_k8, th_k9, th_k10, th_k11, th_k12, th_k13, th_k14, th_k15, th_k16, th_k17, th_0_5, th_0_6, th_0_7, th_0_10, th_0_18, th_0_19, th_0_21, th_0_22, th_0_24, th_0_26, th_0_27]
    · simp only [sp_X10_sum, sp_X10_sum_192, sp_X10_over, sp_X10_isShip, sp_X10_isMean, a1, b1, n168, show (171 : Int32).toNatClampNeg = 171 from rfl, show (172 : Int32).toNatClampNeg = 172 from rfl, show (173 : Int32).toNatClampNeg = 173 from rfl, show (169 : Int32).toNatClampNeg = 169 from rfl, eq_false (by decide : ¬ (9 : Int32) = 0), eq_false (by decide : ¬ (9 : Int32) = 1), eq_false (by decide : ¬ (9 : Int32) = 2), eq_false (by decide : ¬ (9 : Int32) = 3), eq_false (by decide : ¬ (9 : Int32) = 4), eq_false (by decide : ¬ (9 : Int32) = 5), eq_false (by decide : ¬ (9 : Int32) = 6), eq_false (by decide : ¬ (9 : Int32) = 7), eq_false (by decide : ¬ (9 : Int32) = 8), eq_true (by decide : (9 : Int32) = 9), eq_false (by decide : ¬ (9 : Int32) = 10), eq_false (by decide : ¬ (9 : Int32) = 11), eq_true (by decide : (4 : Int32) ≤ 9), eq_true (by decide : (8 : Int32) ≤ 9), q, q10, or_true, true_or, or_false, false_or, b1s, b2s, sls, bxl, bxr, i10, i00, i11, i01, ite_T, ite_F, fl1, fl0, th_th, th_k1, th_k2, th_k3, th_k4, th_k5, th_k6, th_k7, th_k8, th_k9, th_k10, th_k11, th_k12, th_k13, th_k14, th_k15, th_k16, th_k17, th_0_5, th_0_6, th_0_7, th_0_10, th_0_18, th_0_19, th_0_21, th_0_22, th_0_24, th_0_26, th_0_27]
    · exact h.th
  · rw [show ι 10 = (10 : Int32) from rfl] at a1 b1 ⊢
    have q : μ 0 19 = σ 23 6 := (hR 23 6 ⟨trivial, by decide⟩).symm
    have q10 : sp_X10_sum_145 10 200 0 0 (th μ 0) = sp_X10_sum_192 10 0 (th μ 0) := sum145 (by decide)
    refine ⟨_, e2_ok (fun w m => (σ, τ, ν, δ, π, w, m)) (v := σ 23 6) (μ' := th μ 0) ?_ ?_ rfl, nS, nM, hr, ?_⟩
    · simp only [sp_X9_sum, sp_X2_allFloating, sp_X2_allStranded, sp_X8_allLitres, sp_X4_allInStores, sp_X3_allWaste, sp_X9_needWater, sp_X9_needShore, sp_X9_needSort, sp_X9_needRoomForMeans, a1, b1, n168, show (171 : Int32).toNatClampNeg = 171 from rfl, show (172 : Int32).toNatClampNeg = 172 from rfl, show (173 : Int32).toNatClampNeg = 173 from rfl, show (169 : Int32).toNatClampNeg = 169 from rfl, eq_false (by decide : ¬ (10 : Int32) = 0), eq_false (by decide : ¬ (10 : Int32) = 1), eq_false (by decide : ¬ (10 : Int32) = 2), eq_false (by decide : ¬ (10 : Int32) = 3), eq_false (by decide : ¬ (10 : Int32) = 4), eq_false (by decide : ¬ (10 : Int32) = 5), eq_false (by decide : ¬ (10 : Int32) = 6), eq_false (by decide : ¬ (10 : Int32) = 7), eq_false (by decide : ¬ (10 : Int32) = 8), eq_false (by decide : ¬ (10 : Int32) = 9), eq_true (by decide : (10 : Int32) = 10), eq_false (by decide : ¬ (10 : Int32) = 11), eq_true (by decide : (4 : Int32) ≤ 10), eq_true (by decide : (8 : Int32) ≤ 10), q, q10, or_true, true_or, or_false, false_or, b1s, b2s, sls, bxl, bxr, i10, i00, i11, i01, ite_T, ite_F, fl1, fl0, th_th, th_k1, th_k2, th_k3, th_k4, th_k5, th_k6, th_k7, th_k8, th_k9, th_k10, th_k11, th_k12, th_k13, th_k14, th_k15, th_k16, th_k17, th_0_5, th_0_6, th_0_7, th_0_10, th_0_18, th_0_19, th_0_21, th_0_22, th_0_24, th_0_26, th_0_27]
    · simp only [sp_X10_sum, sp_X10_sum_192, sp_X10_over, sp_X10_isShip, sp_X10_isMean, a1, b1, n168, show (171 : Int32).toNatClampNeg = 171 from rfl, show (172 : Int32).toNatClampNeg = 172 from rfl, show (173 : Int32).toNatClampNeg = 173 from rfl, show (169 : Int32).toNatClampNeg = 169 from rfl, eq_false (by decide : ¬ (10 : Int32) = 0), eq_false (by decide : ¬ (10 : Int32) = 1), eq_false (by decide : ¬ (10 : Int32) = 2), eq_false (by decide : ¬ (10 : Int32) = 3), eq_false (by decide : ¬ (10 : Int32) = 4), eq_false (by decide : ¬ (10 : Int32) = 5), eq_false (by decide : ¬ (10 : Int32) = 6), eq_false (by decide : ¬ (10 : Int32) = 7), eq_false (by decide : ¬ (10 : Int32) = 8), eq_false (by decide : ¬ (10 : Int32) = 9), eq_true (by decide : (10 : Int32) = 10), eq_false (by decide : ¬ (10 : Int32) = 11), eq_true (by decide : (4 : Int32) ≤ 10), eq_true (by decide : (8 : Int32) ≤ 10), q, q10, or_true, true_or, or_false, false_or, b1s, b2s, sls, bxl, bxr, i10, i00, i11, i01, ite_T, ite_F, fl1, fl0, th_th, th_k1, th_k2, th_k3, th_k4, th_k5, th_k6, th_k7, th_k8, th_k9, th_k10, th_k11, th_k12, th_k13, th_k14, th_k15, th_k16, th_k17, th_0_5, th_0_6, th_0_7, th_0_10, th_0_18, th_0_19, th_0_21, th_0_22, th_0_24, th_0_26, th_0_27]
    · exact h.th
  · rw [show ι 11 = (11 : Int32) from rfl] at a1 b1 ⊢
    have q : μ 15 0 = δ 1 0 := (d3 0 (by decide)).symm
    have q2 : μ 15 1 = δ 1 1 := (d3 1 (by decide)).symm
    have q3 : μ 0 21 = δ 0 3 := d2.symm
    have q10 : sp_X10_sum_145 11 200 0 0 (th μ 0) = sp_X10_sum_192 11 0 (th μ 0) := sum145 (by decide)
    refine ⟨_, e2_ok (fun w m => (σ, τ, ν, δ, π, w, m)) (v := δ 1 0 + δ 1 1 + δ 0 3) (μ' := th μ 0) ?_ ?_ rfl, nS, nM, hr, ?_⟩
    · simp only [sp_X9_sum, sp_X2_allFloating, sp_X2_allStranded, sp_X8_allLitres, sp_X4_allInStores, sp_X3_allWaste, sp_X9_needWater, sp_X9_needShore, sp_X9_needSort, sp_X9_needRoomForMeans, a1, b1, n168, show (171 : Int32).toNatClampNeg = 171 from rfl, show (172 : Int32).toNatClampNeg = 172 from rfl, show (173 : Int32).toNatClampNeg = 173 from rfl, show (169 : Int32).toNatClampNeg = 169 from rfl, eq_false (by decide : ¬ (11 : Int32) = 0), eq_false (by decide : ¬ (11 : Int32) = 1), eq_false (by decide : ¬ (11 : Int32) = 2), eq_false (by decide : ¬ (11 : Int32) = 3), eq_false (by decide : ¬ (11 : Int32) = 4), eq_false (by decide : ¬ (11 : Int32) = 5), eq_false (by decide : ¬ (11 : Int32) = 6), eq_false (by decide : ¬ (11 : Int32) = 7), eq_false (by decide : ¬ (11 : Int32) = 8), eq_false (by decide : ¬ (11 : Int32) = 9), eq_false (by decide : ¬ (11 : Int32) = 10), eq_true (by decide : (11 : Int32) = 11), eq_true (by decide : (4 : Int32) ≤ 11), eq_true (by decide : (8 : Int32) ≤ 11), q, q2, q3, q10, show (0 : Int32).toNatClampNeg = 0 from rfl, show (1 : Int32).toNatClampNeg = 1 from rfl, or_true, true_or, or_false, false_or, b1s, b2s, sls, bxl, bxr, i10, i00, i11, i01, ite_T, ite_F, fl1, fl0, th_th, th_k1, th_k2, th_k3, th_k4, th_k5, th_k6, th_k7, th_k8, th_k9, th_k10, th_k11, th_k12, th_k13, th_k14, th_k15, th_k16, th_k17, th_0_5, th_0_6, th_0_7, th_0_10, th_0_18, th_0_19, th_0_21, th_0_22, th_0_24, th_0_26, th_0_27]
    · simp only [sp_X10_sum, sp_X10_sum_192, sp_X10_over, sp_X10_isShip, sp_X10_isMean, a1, b1, n168, show (171 : Int32).toNatClampNeg = 171 from rfl, show (172 : Int32).toNatClampNeg = 172 from rfl, show (173 : Int32).toNatClampNeg = 173 from rfl, show (169 : Int32).toNatClampNeg = 169 from rfl, eq_false (by decide : ¬ (11 : Int32) = 0), eq_false (by decide : ¬ (11 : Int32) = 1), eq_false (by decide : ¬ (11 : Int32) = 2), eq_false (by decide : ¬ (11 : Int32) = 3), eq_false (by decide : ¬ (11 : Int32) = 4), eq_false (by decide : ¬ (11 : Int32) = 5), eq_false (by decide : ¬ (11 : Int32) = 6), eq_false (by decide : ¬ (11 : Int32) = 7), eq_false (by decide : ¬ (11 : Int32) = 8), eq_false (by decide : ¬ (11 : Int32) = 9), eq_false (by decide : ¬ (11 : Int32) = 10), eq_true (by decide : (11 : Int32) = 11), eq_true (by decide : (4 : Int32) ≤ 11), eq_true (by decide : (8 : Int32) ≤ 11), q, q2, q3, q10, show (0 : Int32).toNatClampNeg = 0 from rfl, show (1 : Int32).toNatClampNeg = 1 from rfl, or_true, true_or, or_false, false_or, b1s, b2s, sls, bxl, bxr, i10, i00, i11, i01, ite_T, ite_F, fl1, fl0, th_th, th_k1, th_k2, th_k3, th_k4, th_k5, th_k6, th_k7, th_k8, th_k9, th_k10, th_k11, th_k12, th_k13, th_k14, th_k15, th_k16, th_k17, th_0_5, th_0_6, th_0_7, th_0_10, th_0_18, th_0_19, th_0_21, th_0_22, th_0_24, th_0_26, th_0_27]
    · exact h.th
