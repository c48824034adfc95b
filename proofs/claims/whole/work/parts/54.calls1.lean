theorem ite_T {α : Sort _} (a b : α) : (if True then a else b) = a := if_pos trivial
theorem ite_F {α : Sort _} (a b : α) : (if False then a else b) = b := if_neg id
theorem nat_of {p : Int32} {B : Int} (h0 : 0 ≤ p.toInt) (h1 : p.toInt ≤ B) : ∃ x : Nat, (x : Int) ≤ B ∧ p = ι x := by
  refine ⟨p.toInt.toNat, by omega, ?_⟩
  have := Int32.toInt_le p
  rw [← Int32.toInt_inj]
  unfold ι
  rw [Int32.toInt_ofNat_of_lt (by have q : Int32.maxValue.toInt = 2147483647 := rfl; omega)]
  omega
theorem c_depth {nS nM hr : Nat} {σ δ μ : St} {π : St × Int64} (h : RR nS nM hr σ δ π μ) (p1 p2 : Int32) (τ : St) (ν : Nat → Int32) (ω : Nat → Int64) : ∃ z9, st_1 p1 p2 σ τ ν δ π ω μ = some z9 ∧ Rel z9 := by
  have hR := h.1.1
  have hnS : nS ≤ 4 := h.1.2.2.1.2.1.1
  have hnM : nM ≤ 20 := h.1.2.2.1.2.2.1.1
  have e10 : σ 10 0 = ι nS := h.1.2.2.1.2.1.2
  have e14 : σ 14 0 = ι nM := h.1.2.2.1.2.2.1.2
  have m7 : μ 0 7 = ι nS := (hR 10 0 rfl).symm.trans e10
  have m10 : μ 0 10 = ι nM := (hR 14 0 rfl).symm.trans e14
  rcases nn24 p1 with ⟨c, hc, rfl⟩ | ⟨a1, b1⟩
  rotate_left
  · have _ := a1
    refine ⟨_, e3_ex (fun s w m => (s, τ, ν, δ, π, w, m)) (k := 1) (c := 1) (v := 0) (μ' := th μ 1) ?_ rfl ?_ rfl (by decide), nS, nM, hr, h.th⟩
    · simp only [sp_X9_depth, sp_X9_needWater, sp_X9_needShore, sp_X9_needSort, sp_X9_needRoomForMeans, e10, e14, m7, m10, a1, b1, or_true, true_or, or_false, false_or, b1s, b2s, sls, bxl, bxr, i10, i00, i11, i01, ite_T, ite_F, fl1, fl0, th_th, th_k1, th_k2, th_k3, th_k4, th_k5, th_k6, th_k7, th_k8, th_k9, th_k10, th_k11, th_k12, th_k13, th_k14, th_k15, th_k16, th_k17, th_0_5, th_0_6, th_0_7, th_0_10, th_0_18, th_0_19, th_0_21, th_0_22, th_0_24, th_0_26, th_0_27]
    · simp only [sp_X10_depth, sp_X10_depth_46, sp_X10_isShip, sp_X10_isMean, e10, e14, m7, m10, a1, b1, or_true, true_or, or_false, false_or, b1s, b2s, sls, bxl, bxr, i10, i00, i11, i01, ite_T, ite_F, fl1, fl0, th_th, th_k1, th_k2, th_k3, th_k4, th_k5, th_k6, th_k7, th_k8, th_k9, th_k10, th_k11, th_k12, th_k13, th_k14, th_k15, th_k16, th_k17, th_0_5, th_0_6, th_0_7, th_0_10, th_0_18, th_0_19, th_0_21, th_0_22, th_0_24, th_0_26, th_0_27]
  have k_c : μ 3 c = σ 2 c := (hR 2 c hc).symm
  rcases nrg p2 1 99 with ⟨l2, u2, a2, b2⟩ | ⟨a2, b2⟩
  rotate_left
  · have _ := a2
    refine ⟨_, e3_ex (fun s w m => (s, τ, ν, δ, π, w, m)) (k := 2) (c := 2) (v := 0) (μ' := th μ 2) ?_ rfl ?_ rfl (by decide), nS, nM, hr, h.th⟩
    · simp only [sp_X9_depth, sp_X9_needWater, sp_X9_needShore, sp_X9_needSort, sp_X9_needRoomForMeans, e10, e14, m7, m10, nc9 c hc, nc10 c hc, isWater9 hc, ι_nat (show c < 100000 by omega), ix2 hc (show 24 < 100000 by omega), k_c, a2, b2, or_true, true_or, or_false, false_or, b1s, b2s, sls, bxl, bxr, i10, i00, i11, i01, ite_T, ite_F, fl1, fl0, th_th, th_k1, th_k2, th_k3, th_k4, th_k5, th_k6, th_k7, th_k8, th_k9, th_k10, th_k11, th_k12, th_k13, th_k14, th_k15, th_k16, th_k17, th_0_5, th_0_6, th_0_7, th_0_10, th_0_18, th_0_19, th_0_21, th_0_22, th_0_24, th_0_26, th_0_27]
    · simp only [sp_X10_depth, sp_X10_depth_46, sp_X10_isShip, sp_X10_isMean, e10, e14, m7, m10, nc9 c hc, nc10 c hc, isWater9 hc, ι_nat (show c < 100000 by omega), ix2 hc (show 24 < 100000 by omega), k_c, a2, b2, or_true, true_or, or_false, false_or, b1s, b2s, sls, bxl, bxr, i10, i00, i11, i01, ite_T, ite_F, fl1, fl0, th_th, th_k1, th_k2, th_k3, th_k4, th_k5, th_k6, th_k7, th_k8, th_k9, th_k10, th_k11, th_k12, th_k13, th_k14, th_k15, th_k16, th_k17, th_0_5, th_0_6, th_0_7, th_0_10, th_0_18, th_0_19, th_0_21, th_0_22, th_0_24, th_0_26, th_0_27]
  replace l2 : (1 : Int) ≤ p2.toInt := l2
  replace u2 : p2.toInt ≤ (99 : Int) := u2
  by_cases g3 : σ 2 c = 0
  rotate_left
  · have _ := 0
    refine ⟨_, e3_ex (fun s w m => (s, τ, ν, δ, π, w, m)) (k := 3) (c := 3) (v := 0) (μ' := th μ 3) ?_ rfl ?_ rfl (by decide), nS, nM, hr, h.th⟩
    · simp only [sp_X9_depth, sp_X9_needWater, sp_X9_needShore, sp_X9_needSort, sp_X9_needRoomForMeans, e10, e14, m7, m10, nc9 c hc, nc10 c hc, isWater9 hc, ι_nat (show c < 100000 by omega), ix2 hc (show 24 < 100000 by omega), k_c, a2, b2, g3, or_true, true_or, or_false, false_or, b1s, b2s, sls, bxl, bxr, i10, i00, i11, i01, ite_T, ite_F, fl1, fl0, th_th, th_k1, th_k2, th_k3, th_k4, th_k5, th_k6, th_k7, th_k8, th_k9, th_k10, th_k11, th_k12, th_k13, th_k14, th_k15, th_k16, th_k17, th_0_5, th_0_6, th_0_7, th_0_10, th_0_18, th_0_19, th_0_21, th_0_22, th_0_24, th_0_26, th_0_27]
    · simp only [sp_X10_depth, sp_X10_depth_46, sp_X10_isShip, sp_X10_isMean, e10, e14, m7, m10, nc9 c hc, nc10 c hc, isWater9 hc, ι_nat (show c < 100000 by omega), ix2 hc (show 24 < 100000 by omega), k_c, a2, b2, g3, or_true, true_or, or_false, false_or, b1s, b2s, sls, bxl, bxr, i10, i00, i11, i01, ite_T, ite_F, fl1, fl0, th_th, th_k1, th_k2, th_k3, th_k4, th_k5, th_k6, th_k7, th_k8, th_k9, th_k10, th_k11, th_k12, th_k13, th_k14, th_k15, th_k16, th_k17, th_0_5, th_0_6, th_0_7, th_0_10, th_0_18, th_0_19, th_0_21, th_0_22, th_0_24, th_0_26, th_0_27]
  have e3 : μ 4 c = σ 3 c := by have := h.2.2.2.2.1 c hc; rw [if_pos g3] at this; exact this.symm
  refine ⟨_, e3_ok (fun s w m => (s, τ, ν, δ, π, w, m)) (v := σ 3 c) (a' := stU σ 3 c p2) (μ' := stU (th μ 0) 4 c p2) ?_ ?_ rfl, nS, nM, hr, ?_⟩
  · simp only [sp_X9_depth, sp_X9_needWater, sp_X9_needShore, sp_X9_needSort, sp_X9_needRoomForMeans, e10, e14, m7, m10, nc9 c hc, nc10 c hc, isWater9 hc, ι_nat (show c < 100000 by omega), ix2 hc (show 24 < 100000 by omega), k_c, a2, b2, g3, e3, or_true, true_or, or_false, false_or, b1s, b2s, sls, bxl, bxr, i10, i00, i11, i01, ite_T, ite_F, fl1, fl0, th_th, th_k1, th_k2, th_k3, th_k4, th_k5, th_k6, th_k7, th_k8, th_k9, th_k10, th_k11, th_k12, th_k13, th_k14, th_k15, th_k16, th_k17, th_0_5, th_0_6, th_0_7, th_0_10, th_0_18, th_0_19, th_0_21, th_0_22, th_0_24, th_0_26, th_0_27]
  · simp only [sp_X10_depth, sp_X10_depth_46, sp_X10_isShip, sp_X10_isMean, e10, e14, m7, m10, nc9 c hc, nc10 c hc, isWater9 hc, ι_nat (show c < 100000 by omega), ix2 hc (show 24 < 100000 by omega), k_c, a2, b2, g3, e3, or_true, true_or, or_false, false_or, b1s, b2s, sls, bxl, bxr, i10, i00, i11, i01, ite_T, ite_F, fl1, fl0, th_th, th_k1, th_k2, th_k3, th_k4, th_k5, th_k6, th_k7, th_k8, th_k9, th_k10, th_k11, th_k12, th_k13, th_k14, th_k15, th_k16, th_k17, th_0_5, th_0_6, th_0_7, th_0_10, th_0_18, th_0_19, th_0_21, th_0_22, th_0_24, th_0_26, th_0_27]
  · exact u_depth h.th hc g3
theorem c_wind {nS nM hr : Nat} {σ δ μ : St} {π : St × Int64} (h : RR nS nM hr σ δ π μ) (p1 p2 : Int32) (τ : St) (ν : Nat → Int32) (ω : Nat → Int64) : ∃ z9, st_2 p1 p2 σ τ ν δ π ω μ = some z9 ∧ Rel z9 := by
  have hR := h.1.1
  have hnS : nS ≤ 4 := h.1.2.2.1.2.1.1
  have hnM : nM ≤ 20 := h.1.2.2.1.2.2.1.1
  have e10 : σ 10 0 = ι nS := h.1.2.2.1.2.1.2
  have e14 : σ 14 0 = ι nM := h.1.2.2.1.2.2.1.2
  have m7 : μ 0 7 = ι nS := (hR 10 0 rfl).symm.trans e10
  have m10 : μ 0 10 = ι nM := (hR 14 0 rfl).symm.trans e14
  rcases nrg p1 0 3 with ⟨l1, u1, a1, b1⟩ | ⟨a1, b1⟩
  rotate_left
  · have _ := a1
    refine ⟨_, e3_ex (fun s w m => (s, τ, ν, δ, π, w, m)) (k := 2) (c := 1) (v := 0) (μ' := th μ 1) ?_ rfl ?_ rfl (by decide), nS, nM, hr, h.th⟩
    · simp only [sp_X9_wind, sp_X9_needWater, sp_X9_needShore, sp_X9_needSort, sp_X9_needRoomForMeans, e10, e14, m7, m10, a1, b1, or_true, true_or, or_false, false_or, b1s, b2s, sls, bxl, bxr, i10, i00, i11, i01, ite_T, ite_F, fl1, fl0, th_th, th_k1, th_k2, th_k3, th_k4, th_k5, th_k6, th_k7, th_k8, th_k9, th_k10, th_k11, th_k12, th_k13, th_k14, th_k15, th_k16, th_k17, th_0_5, th_0_6, th_0_7, th_0_10, th_0_18, th_0_19, th_0_21, th_0_22, th_0_24, th_0_26, th_0_27]
    · simp only [sp_X10_wind, sp_X10_wind_24, sp_X10_wind_25, sp_X10_isShip, sp_X10_isMean, e10, e14, m7, m10, a1, b1, or_true, true_or, or_false, false_or, b1s, b2s, sls, bxl, bxr, i10, i00, i11, i01, ite_T, ite_F, fl1, fl0, th_th, th_k1, th_k2, th_k3, th_k4, th_k5, th_k6, th_k7, th_k8, th_k9, th_k10, th_k11, th_k12, th_k13, th_k14, th_k15, th_k16, th_k17, th_0_5, th_0_6, th_0_7, th_0_10, th_0_18, th_0_19, th_0_21, th_0_22, th_0_24, th_0_26, th_0_27]
  replace l1 : (0 : Int) ≤ p1.toInt := l1
  replace u1 : p1.toInt ≤ (3 : Int) := u1
  rcases nrg p2 0 9 with ⟨l2, u2, a2, b2⟩ | ⟨a2, b2⟩
  rotate_left
  · have _ := a2
    refine ⟨_, e3_ex (fun s w m => (s, τ, ν, δ, π, w, m)) (k := 2) (c := 1) (v := 0) (μ' := th μ 1) ?_ rfl ?_ rfl (by decide), nS, nM, hr, h.th⟩
    · simp only [sp_X9_wind, sp_X9_needWater, sp_X9_needShore, sp_X9_needSort, sp_X9_needRoomForMeans, e10, e14, m7, m10, a1, b1, a2, b2, or_true, true_or, or_false, false_or, b1s, b2s, sls, bxl, bxr, i10, i00, i11, i01, ite_T, ite_F, fl1, fl0, th_th, th_k1, th_k2, th_k3, th_k4, th_k5, th_k6, th_k7, th_k8, th_k9, th_k10, th_k11, th_k12, th_k13, th_k14, th_k15, th_k16, th_k17, th_0_5, th_0_6, th_0_7, th_0_10, th_0_18, th_0_19, th_0_21, th_0_22, th_0_24, th_0_26, th_0_27]
    · simp only [sp_X10_wind, sp_X10_wind_24, sp_X10_wind_25, sp_X10_isShip, sp_X10_isMean, e10, e14, m7, m10, a1, b1, a2, b2, or_true, true_or, or_false, false_or, b1s, b2s, sls, bxl, bxr, i10, i00, i11, i01, ite_T, ite_F, fl1, fl0, th_th, th_k1, th_k2, th_k3, th_k4, th_k5, th_k6, th_k7, th_k8, th_k9, th_k10, th_k11, th_k12, th_k13, th_k14, th_k15, th_k16, th_k17, th_0_5, th_0_6, th_0_7, th_0_10, th_0_18, th_0_19, th_0_21, th_0_22, th_0_24, th_0_26, th_0_27]
  replace l2 : (0 : Int) ≤ p2.toInt := l2
  replace u2 : p2.toInt ≤ (9 : Int) := u2
  have e5 : μ 0 5 = σ 0 5 := (hR 0 5 (Or.inr (Or.inl rfl))).symm
  have e6 : μ 0 6 = σ 0 6 := (hR 0 6 (Or.inr (Or.inr rfl))).symm
  refine ⟨_, e3_ok (fun s w m => (s, τ, ν, δ, π, w, m)) (v := 10 * σ 0 5 + σ 0 6) (a' := stU (stU σ 0 5 p1) 0 6 p2) (μ' := stU (stU (th μ 0) 0 5 p1) 0 6 p2) ?_ ?_ rfl, nS, nM, hr, ?_⟩
  · simp only [sp_X9_wind, sp_X9_needWater, sp_X9_needShore, sp_X9_needSort, sp_X9_needRoomForMeans, e10, e14, m7, m10, a1, b1, a2, b2, e5, e6, or_true, true_or, or_false, false_or, b1s, b2s, sls, bxl, bxr, i10, i00, i11, i01, ite_T, ite_F, fl1, fl0, th_th, th_k1, th_k2, th_k3, th_k4, th_k5, th_k6, th_k7, th_k8, th_k9, th_k10, th_k11, th_k12, th_k13, th_k14, th_k15, th_k16, th_k17, th_0_5, th_0_6, th_0_7, th_0_10, th_0_18, th_0_19, th_0_21, th_0_22, th_0_24, th_0_26, th_0_27]
  · simp only [sp_X10_wind, sp_X10_wind_24, sp_X10_wind_25, sp_X10_isShip, sp_X10_isMean, e10, e14, m7, m10, a1, b1, a2, b2, e5, e6, or_true, true_or, or_false, false_or, b1s, b2s, sls, bxl, bxr, i10, i00, i11, i01, ite_T, ite_F, fl1, fl0, th_th, th_k1, th_k2, th_k3, th_k4, th_k5, th_k6, th_k7, th_k8, th_k9, th_k10, th_k11, th_k12, th_k13, th_k14, th_k15, th_k16, th_k17, th_0_5, th_0_6, th_0_7, th_0_10, th_0_18, th_0_19, th_0_21, th_0_22, th_0_24, th_0_26, th_0_27]
  · exact by obtain ⟨x, hx, rfl⟩ := nat_of l1 u1; obtain ⟨y, hy, rfl⟩ := nat_of l2 u2; exact u_wind h.th (by omega) (by omega)
theorem c_ship {nS nM hr : Nat} {σ δ μ : St} {π : St × Int64} (h : RR nS nM hr σ δ π μ) (p1 p2 : Int32) (τ : St) (ν : Nat → Int32) (ω : Nat → Int64) : ∃ z9, st_3 p1 p2 σ τ ν δ π ω μ = some z9 ∧ Rel z9 := by
  have hR := h.1.1
  have hnS : nS ≤ 4 := h.1.2.2.1.2.1.1
  have hnM : nM ≤ 20 := h.1.2.2.1.2.2.1.1
  have e10 : σ 10 0 = ι nS := h.1.2.2.1.2.1.2
  have e14 : σ 14 0 = ι nM := h.1.2.2.1.2.2.1.2
  have m7 : μ 0 7 = ι nS := (hR 10 0 rfl).symm.trans e10
  have m10 : μ 0 10 = ι nM := (hR 14 0 rfl).symm.trans e14
  rcases nn24 p1 with ⟨c, hc, rfl⟩ | ⟨a1, b1⟩
  rotate_left
  · have _ := a1
    refine ⟨_, e3_ex (fun s w m => (s, τ, ν, δ, π, w, m)) (k := 1) (c := 1) (v := 0) (μ' := th μ 1) ?_ rfl ?_ rfl (by decide), nS, nM, hr, h.th⟩
    · simp only [sp_X9_ship, sp_X8_add, sp_X9_needWater, sp_X9_needShore, sp_X9_needSort, sp_X9_needRoomForMeans, e10, e14, m7, m10, a1, b1, or_true, true_or, or_false, false_or, b1s, b2s, sls, bxl, bxr, i10, i00, i11, i01, ite_T, ite_F, fl1, fl0, th_th, th_k1, th_k2, th_k3, th_k4, th_k5, th_k6, th_k7, th_k8, th_k9, th_k10, th_k11, th_k12, th_k13, th_k14, th_k15, th_k16, th_k17, th_0_5, th_0_6, th_0_7, th_0_10, th_0_18, th_0_19, th_0_21, th_0_22, th_0_24, th_0_26, th_0_27]
    · simp only [sp_X10_ship, sp_X10_ship_53, sp_X10_ship_54, sp_X10_isShip, sp_X10_isMean, e10, e14, m7, m10, a1, b1, or_true, true_or, or_false, false_or, b1s, b2s, sls, bxl, bxr, i10, i00, i11, i01, ite_T, ite_F, fl1, fl0, th_th, th_k1, th_k2, th_k3, th_k4, th_k5, th_k6, th_k7, th_k8, th_k9, th_k10, th_k11, th_k12, th_k13, th_k14, th_k15, th_k16, th_k17, th_0_5, th_0_6, th_0_7, th_0_10, th_0_18, th_0_19, th_0_21, th_0_22, th_0_24, th_0_26, th_0_27]
  have k_c : μ 3 c = σ 2 c := (hR 2 c hc).symm
  rcases nrg p2 0 100000 with ⟨l2, u2, a2, b2⟩ | ⟨a2, b2⟩
  rotate_left
  · have _ := a2
    refine ⟨_, e3_ex (fun s w m => (s, τ, ν, δ, π, w, m)) (k := 2) (c := 2) (v := 0) (μ' := th μ 2) ?_ rfl ?_ rfl (by decide), nS, nM, hr, h.th⟩
    · simp only [sp_X9_ship, sp_X8_add, sp_X9_needWater, sp_X9_needShore, sp_X9_needSort, sp_X9_needRoomForMeans, e10, e14, m7, m10, nc9 c hc, nc10 c hc, isWater9 hc, ι_nat (show c < 100000 by omega), ix2 hc (show 24 < 100000 by omega), k_c, a2, b2, or_true, true_or, or_false, false_or, b1s, b2s, sls, bxl, bxr, i10, i00, i11, i01, ite_T, ite_F, fl1, fl0, th_th, th_k1, th_k2, th_k3, th_k4, th_k5, th_k6, th_k7, th_k8, th_k9, th_k10, th_k11, th_k12, th_k13, th_k14, th_k15, th_k16, th_k17, th_0_5, th_0_6, th_0_7, th_0_10, th_0_18, th_0_19, th_0_21, th_0_22, th_0_24, th_0_26, th_0_27]
    · simp only [sp_X10_ship, sp_X10_ship_53, sp_X10_ship_54, sp_X10_isShip, sp_X10_isMean, e10, e14, m7, m10, nc9 c hc, nc10 c hc, isWater9 hc, ι_nat (show c < 100000 by omega), ix2 hc (show 24 < 100000 by omega), k_c, a2, b2, or_true, true_or, or_false, false_or, b1s, b2s, sls, bxl, bxr, i10, i00, i11, i01, ite_T, ite_F, fl1, fl0, th_th, th_k1, th_k2, th_k3, th_k4, th_k5, th_k6, th_k7, th_k8, th_k9, th_k10, th_k11, th_k12, th_k13, th_k14, th_k15, th_k16, th_k17, th_0_5, th_0_6, th_0_7, th_0_10, th_0_18, th_0_19, th_0_21, th_0_22, th_0_24, th_0_26, th_0_27]
  replace l2 : (0 : Int) ≤ p2.toInt := l2
  replace u2 : p2.toInt ≤ (100000 : Int) := u2
  by_cases g3 : σ 2 c = 0
  rotate_left
  · have _ := 0
    refine ⟨_, e3_ex (fun s w m => (s, τ, ν, δ, π, w, m)) (k := 3) (c := 3) (v := 0) (μ' := th μ 3) ?_ rfl ?_ rfl (by decide), nS, nM, hr, h.th⟩
    · simp only [sp_X9_ship, sp_X8_add, sp_X9_needWater, sp_X9_needShore, sp_X9_needSort, sp_X9_needRoomForMeans, e10, e14, m7, m10, nc9 c hc, nc10 c hc, isWater9 hc, ι_nat (show c < 100000 by omega), ix2 hc (show 24 < 100000 by omega), k_c, a2, b2, g3, or_true, true_or, or_false, false_or, b1s, b2s, sls, bxl, bxr, i10, i00, i11, i01, ite_T, ite_F, fl1, fl0, th_th, th_k1, th_k2, th_k3, th_k4, th_k5, th_k6, th_k7, th_k8, th_k9, th_k10, th_k11, th_k12, th_k13, th_k14, th_k15, th_k16, th_k17, th_0_5, th_0_6, th_0_7, th_0_10, th_0_18, th_0_19, th_0_21, th_0_22, th_0_24, th_0_26, th_0_27]
    · simp only [sp_X10_ship, sp_X10_ship_53, sp_X10_ship_54, sp_X10_isShip, sp_X10_isMean, e10, e14, m7, m10, nc9 c hc, nc10 c hc, isWater9 hc, ι_nat (show c < 100000 by omega), ix2 hc (show 24 < 100000 by omega), k_c, a2, b2, g3, or_true, true_or, or_false, false_or, b1s, b2s, sls, bxl, bxr, i10, i00, i11, i01, ite_T, ite_F, fl1, fl0, th_th, th_k1, th_k2, th_k3, th_k4, th_k5, th_k6, th_k7, th_k8, th_k9, th_k10, th_k11, th_k12, th_k13, th_k14, th_k15, th_k16, th_k17, th_0_5, th_0_6, th_0_7, th_0_10, th_0_18, th_0_19, th_0_21, th_0_22, th_0_24, th_0_26, th_0_27]
  by_cases g4 : ι nS < 4
  rotate_left
  · have _ := 0
    have y4 : 4 ≤ ι nS := by rw [Int32.lt_iff_toInt_lt] at g4; rw [Int32.le_iff_toInt_le]; omega
    refine ⟨_, e3_ex (fun s w m => (s, τ, ν, δ, π, w, m)) (k := 3) (c := 3) (v := 0) (μ' := th μ 3) ?_ rfl ?_ rfl (by decide), nS, nM, hr, h.th⟩
    · simp only [sp_X9_ship, sp_X8_add, sp_X9_needWater, sp_X9_needShore, sp_X9_needSort, sp_X9_needRoomForMeans, e10, e14, m7, m10, nc9 c hc, nc10 c hc, isWater9 hc, ι_nat (show c < 100000 by omega), ix2 hc (show 24 < 100000 by omega), k_c, a2, b2, g3, g4, y4, or_true, true_or, or_false, false_or, b1s, b2s, sls, bxl, bxr, i10, i00, i11, i01, ite_T, ite_F, fl1, fl0, th_th, th_k1, th_k2, th_k3, th_k4, th_k5, th_k6, th_k7, th_k8, th_k9, th_k10, th_k11, th_k12, th_k13, th_k14, th_k15, th_k16, th_k17, th_0_5, th_0_6, th_0_7, th_0_10, th_0_18, th_0_19, th_0_21, th_0_22, th_0_24, th_0_26, th_0_27]
    · simp only [sp_X10_ship, sp_X10_ship_53, sp_X10_ship_54, sp_X10_isShip, sp_X10_isMean, e10, e14, m7, m10, nc9 c hc, nc10 c hc, isWater9 hc, ι_nat (show c < 100000 by omega), ix2 hc (show 24 < 100000 by omega), k_c, a2, b2, g3, g4, y4, or_true, true_or, or_false, false_or, b1s, b2s, sls, bxl, bxr, i10, i00, i11, i01, ite_T, ite_F, fl1, fl0, th_th, th_k1, th_k2, th_k3, th_k4, th_k5, th_k6, th_k7, th_k8, th_k9, th_k10, th_k11, th_k12, th_k13, th_k14, th_k15, th_k16, th_k17, th_0_5, th_0_6, th_0_7, th_0_10, th_0_18, th_0_19, th_0_21, th_0_22, th_0_24, th_0_26, th_0_27]
  have y4 : ¬ 4 ≤ ι nS := by rw [Int32.lt_iff_toInt_lt] at g4; rw [Int32.le_iff_toInt_le]; omega
  have n4 : nS < 4 := by rw [Int32.lt_iff_toInt_lt, ι_toInt (by omega)] at g4; have z : (4 : Int32).toInt = 4 := rfl; omega
  have s1 : ι nS + 1 = ι (nS + 1) := ι_one nS
  have s2 : ι (nS + 1) - 1 = ι nS := by rw [← ι_one]; exact Int32.add_sub_cancel _ _
  refine ⟨_, e3_ok (fun s w m => (s, τ, ν, δ, π, w, m)) (v := ι nS) (a' := stU (stU (stU σ 11 nS (ι c)) 12 nS p2) 10 0 (ι (nS + 1))) (μ' := stU (stU (stU (th μ 0) 6 nS (ι c)) 1 (144 + nS) p2) 0 7 (ι (nS + 1))) ?_ ?_ rfl, nS + 1, nM, hr, ?_⟩
  · simp only [sp_X9_ship, sp_X8_add, sp_X9_needWater, sp_X9_needShore, sp_X9_needSort, sp_X9_needRoomForMeans, e10, e14, m7, m10, nc9 c hc, nc10 c hc, isWater9 hc, ι_nat (show c < 100000 by omega), ix2 hc (show 24 < 100000 by omega), k_c, a2, b2, g3, y4, g4, s1, s2, ι_nat (show nS < 100000 by omega), ix2 n4 (show 4 < 100000 by omega), stU_k (k := 11) (k2 := 10) (by decide), stU_k (k := 12) (k2 := 10) (by decide), stU_k (k := 6) (k2 := 0) (by decide), stU_k (k := 1) (k2 := 0) (by decide), stU_same, show (144 : Int32) + ι nS = ι (144 + nS) from ι_add 144 nS, ι_nat (show 144 + nS < 100000 by omega), ix2 (show 144 + nS < 174 by omega) (show 174 < 100000 by omega), or_true, true_or, or_false, false_or, b1s, b2s, sls, bxl, bxr, i10, i00, i11, i01, ite_T, ite_F, fl1, fl0, th_th, th_k1, th_k2, th_k3, th_k4, th_k5, th_k6, th_k7, th_k8, th_k9, th_k10, th_k11, th_k12, th_k13, th_k14, th_k15, th_k16, th_k17, th_0_5, th_0_6, th_0_7, th_0_10, th_0_18, th_0_19, th_0_21, th_0_22, th_0_24, th_0_26, th_0_27]
  · simp only [sp_X10_ship, sp_X10_ship_53, sp_X10_ship_54, sp_X10_isShip, sp_X10_isMean, e10, e14, m7, m10, nc9 c hc, nc10 c hc, isWater9 hc, ι_nat (show c < 100000 by omega), ix2 hc (show 24 < 100000 by omega), k_c, a2, b2, g3, y4, g4, s1, s2, ι_nat (show nS < 100000 by omega), ix2 n4 (show 4 < 100000 by omega), stU_k (k := 11) (k2 := 10) (by decide), stU_k (k := 12) (k2 := 10) (by decide), stU_k (k := 6) (k2 := 0) (by decide), stU_k (k := 1) (k2 := 0) (by decide), stU_same, show (144 : Int32) + ι nS = ι (144 + nS) from ι_add 144 nS, ι_nat (show 144 + nS < 100000 by omega), ix2 (show 144 + nS < 174 by omega) (show 174 < 100000 by omega), or_true, true_or, or_false, false_or, b1s, b2s, sls, bxl, bxr, i10, i00, i11, i01, ite_T, ite_F, fl1, fl0, th_th, th_k1, th_k2, th_k3, th_k4, th_k5, th_k6, th_k7, th_k8, th_k9, th_k10, th_k11, th_k12, th_k13, th_k14, th_k15, th_k16, th_k17, th_0_5, th_0_6, th_0_7, th_0_10, th_0_18, th_0_19, th_0_21, th_0_22, th_0_24, th_0_26, th_0_27]
  · exact u_ship h.th n4 hc g3 l2 u2
theorem c_hole {nS nM hr : Nat} {σ δ μ : St} {π : St × Int64} (h : RR nS nM hr σ δ π μ) (p1 p2 : Int32) (τ : St) (ν : Nat → Int32) (ω : Nat → Int64) : ∃ z9, st_4 p1 p2 σ τ ν δ π ω μ = some z9 ∧ Rel z9 := by
  have hR := h.1.1
  have hnS : nS ≤ 4 := h.1.2.2.1.2.1.1
  have hnM : nM ≤ 20 := h.1.2.2.1.2.2.1.1
  have e10 : σ 10 0 = ι nS := h.1.2.2.1.2.1.2
  have e14 : σ 14 0 = ι nM := h.1.2.2.1.2.2.1.2
  have m7 : μ 0 7 = ι nS := (hR 10 0 rfl).symm.trans e10
  have m10 : μ 0 10 = ι nM := (hR 14 0 rfl).symm.trans e14
  rcases nnN p1 (n := nS) (by omega) with ⟨s, hs, rfl, a1, b1⟩ | ⟨a1, b1⟩
  rotate_left
  · have _ := a1
    refine ⟨_, e3_ex (fun s w m => (s, τ, ν, δ, π, w, m)) (k := 1) (c := 1) (v := 0) (μ' := th μ 1) ?_ rfl ?_ rfl (by decide), nS, nM, hr, h.th⟩
    · simp only [sp_X9_hole, sp_X9_needWater, sp_X9_needShore, sp_X9_needSort, sp_X9_needRoomForMeans, e10, e14, m7, m10, a1, b1, or_true, true_or, or_false, false_or, b1s, b2s, sls, bxl, bxr, i10, i00, i11, i01, ite_T, ite_F, fl1, fl0, th_th, th_k1, th_k2, th_k3, th_k4, th_k5, th_k6, th_k7, th_k8, th_k9, th_k10, th_k11, th_k12, th_k13, th_k14, th_k15, th_k16, th_k17, th_0_5, th_0_6, th_0_7, th_0_10, th_0_18, th_0_19, th_0_21, th_0_22, th_0_24, th_0_26, th_0_27]
    · simp only [sp_X10_hole, sp_X10_isShip, sp_X10_isMean, e10, e14, m7, m10, a1, b1, or_true, true_or, or_false, false_or, b1s, b2s, sls, bxl, bxr, i10, i00, i11, i01, ite_T, ite_F, fl1, fl0, th_th, th_k1, th_k2, th_k3, th_k4, th_k5, th_k6, th_k7, th_k8, th_k9, th_k10, th_k11, th_k12, th_k13, th_k14, th_k15, th_k16, th_k17, th_0_5, th_0_6, th_0_7, th_0_10, th_0_18, th_0_19, th_0_21, th_0_22, th_0_24, th_0_26, th_0_27]
  rcases nrg p2 0 99 with ⟨l2, u2, a2, b2⟩ | ⟨a2, b2⟩
  rotate_left
  · have _ := a2
    refine ⟨_, e3_ex (fun s w m => (s, τ, ν, δ, π, w, m)) (k := 2) (c := 2) (v := 0) (μ' := th μ 2) ?_ rfl ?_ rfl (by decide), nS, nM, hr, h.th⟩
    · simp only [sp_X9_hole, sp_X9_needWater, sp_X9_needShore, sp_X9_needSort, sp_X9_needRoomForMeans, e10, e14, m7, m10, a1, b1, ι_nat (show s < 100000 by omega), ix2 (show s < 4 by omega) (show 4 < 100000 by omega), a2, b2, or_true, true_or, or_false, false_or, b1s, b2s, sls, bxl, bxr, i10, i00, i11, i01, ite_T, ite_F, fl1, fl0, th_th, th_k1, th_k2, th_k3, th_k4, th_k5, th_k6, th_k7, th_k8, th_k9, th_k10, th_k11, th_k12, th_k13, th_k14, th_k15, th_k16, th_k17, th_0_5, th_0_6, th_0_7, th_0_10, th_0_18, th_0_19, th_0_21, th_0_22, th_0_24, th_0_26, th_0_27]
    · simp only [sp_X10_hole, sp_X10_isShip, sp_X10_isMean, e10, e14, m7, m10, a1, b1, ι_nat (show s < 100000 by omega), ix2 (show s < 4 by omega) (show 4 < 100000 by omega), a2, b2, or_true, true_or, or_false, false_or, b1s, b2s, sls, bxl, bxr, i10, i00, i11, i01, ite_T, ite_F, fl1, fl0, th_th, th_k1, th_k2, th_k3, th_k4, th_k5, th_k6, th_k7, th_k8, th_k9, th_k10, th_k11, th_k12, th_k13, th_k14, th_k15, th_k16, th_k17, th_0_5, th_0_6, th_0_7, th_0_10, th_0_18, th_0_19, th_0_21, th_0_22, th_0_24, th_0_26, th_0_27]
  replace l2 : (0 : Int) ≤ p2.toInt := l2
  replace u2 : p2.toInt ≤ (99 : Int) := u2
  have e13 : μ 7 s = σ 13 s := (hR 13 s (show s < 4 by omega)).symm
  refine ⟨_, e3_ok (fun s w m => (s, τ, ν, δ, π, w, m)) (v := σ 13 s) (a' := stU σ 13 s p2) (μ' := stU (th μ 0) 7 s p2) ?_ ?_ rfl, nS, nM, hr, ?_⟩
  · simp only [sp_X9_hole, sp_X9_needWater, sp_X9_needShore, sp_X9_needSort, sp_X9_needRoomForMeans, e10, e14, m7, m10, a1, b1, ι_nat (show s < 100000 by omega), ix2 (show s < 4 by omega) (show 4 < 100000 by omega), a2, b2, e13, or_true, true_or, or_false, false_or, b1s, b2s, sls, bxl, bxr, i10, i00, i11, i01, ite_T, ite_F, fl1, fl0, th_th, th_k1, th_k2, th_k3, th_k4, th_k5, th_k6, th_k7, th_k8, th_k9, th_k10, th_k11, th_k12, th_k13, th_k14, th_k15, th_k16, th_k17, th_0_5, th_0_6, th_0_7, th_0_10, th_0_18, th_0_19, th_0_21, th_0_22, th_0_24, th_0_26, th_0_27]
  · simp only [sp_X10_hole, sp_X10_isShip, sp_X10_isMean, e10, e14, m7, m10, a1, b1, ι_nat (show s < 100000 by omega), ix2 (show s < 4 by omega) (show 4 < 100000 by omega), a2, b2, e13, or_true, true_or, or_false, false_or, b1s, b2s, sls, bxl, bxr, i10, i00, i11, i01, ite_T, ite_F, fl1, fl0, th_th, th_k1, th_k2, th_k3, th_k4, th_k5, th_k6, th_k7, th_k8, th_k9, th_k10, th_k11, th_k12, th_k13, th_k14, th_k15, th_k16, th_k17, th_0_5, th_0_6, th_0_7, th_0_10, th_0_18, th_0_19, th_0_21, th_0_22, th_0_24, th_0_26, th_0_27]
  · exact by obtain ⟨x, hx, rfl⟩ := nat_of l2 u2; exact u_hole h.th (by omega) (by omega)
theorem c_pump {nS nM hr : Nat} {σ δ μ : St} {π : St × Int64} (h : RR nS nM hr σ δ π μ) (p1 p2 p3 : Int32) (τ : St) (ν : Nat → Int32) (ω : Nat → Int64) : ∃ z9, st_5 p1 p2 p3 σ τ ν δ π ω μ = some z9 ∧ Rel z9 := by
  have hR := h.1.1
  have hnS : nS ≤ 4 := h.1.2.2.1.2.1.1
  have hnM : nM ≤ 20 := h.1.2.2.1.2.2.1.1
  have e10 : σ 10 0 = ι nS := h.1.2.2.1.2.1.2
  have e14 : σ 14 0 = ι nM := h.1.2.2.1.2.2.1.2
  have m7 : μ 0 7 = ι nS := (hR 10 0 rfl).symm.trans e10
  have m10 : μ 0 10 = ι nM := (hR 14 0 rfl).symm.trans e14
  rcases nnN p1 (n := nS) (by omega) with ⟨s, hs, rfl, a1, b1⟩ | ⟨a1, b1⟩
  rotate_left
  · have _ := a1
    refine ⟨_, e3_ex (fun s w m => (s, τ, ν, δ, π, w, m)) (k := 1) (c := 1) (v := 0) (μ' := th μ 1) ?_ rfl ?_ rfl (by decide), nS, nM, hr, h.th⟩
    · simp only [sp_X9_pump, sp_X9_pump_81, sp_X9_needWater, sp_X9_needShore, sp_X9_needSort, sp_X9_needRoomForMeans, e10, e14, m7, m10, a1, b1, or_true, true_or, or_false, false_or, b1s, b2s, sls, bxl, bxr, i10, i00, i11, i01, ite_T, ite_F, fl1, fl0, th_th, th_k1, th_k2, th_k3, th_k4, th_k5, th_k6, th_k7, th_k8, th_k9, th_k10, th_k11, th_k12, th_k13, th_k14, th_k15, th_k16, th_k17, th_0_5, th_0_6, th_0_7, th_0_10, th_0_18, th_0_19, th_0_21, th_0_22, th_0_24, th_0_26, th_0_27]
    · simp only [sp_X10_pump, sp_X10_pump_21, sp_X10_pump_22, sp_X10_pump_51, sp_X10_pump_52, sp_X10_pump_97, sp_X10_pump_98, sp_X10_isShip, sp_X10_isMean, e10, e14, m7, m10, a1, b1, or_true, true_or, or_false, false_or, b1s, b2s, sls, bxl, bxr, i10, i00, i11, i01, ite_T, ite_F, fl1, fl0, th_th, th_k1, th_k2, th_k3, th_k4, th_k5, th_k6, th_k7, th_k8, th_k9, th_k10, th_k11, th_k12, th_k13, th_k14, th_k15, th_k16, th_k17, th_0_5, th_0_6, th_0_7, th_0_10, th_0_18, th_0_19, th_0_21, th_0_22, th_0_24, th_0_26, th_0_27]
  rcases nnN p2 (n := nS) (by omega) with ⟨t, ht, rfl, a2, b2⟩ | ⟨a2, b2⟩
  rotate_left
  · have _ := a2
    refine ⟨_, e3_ex (fun s w m => (s, τ, ν, δ, π, w, m)) (k := 1) (c := 1) (v := 0) (μ' := th μ 1) ?_ rfl ?_ rfl (by decide), nS, nM, hr, h.th⟩
    · simp only [sp_X9_pump, sp_X9_pump_81, sp_X9_needWater, sp_X9_needShore, sp_X9_needSort, sp_X9_needRoomForMeans, e10, e14, m7, m10, a1, b1, ι_nat (show s < 100000 by omega), ix2 (show s < 4 by omega) (show 4 < 100000 by omega), a2, b2, or_true, true_or, or_false, false_or, b1s, b2s, sls, bxl, bxr, i10, i00, i11, i01, ite_T, ite_F, fl1, fl0, th_th, th_k1, th_k2, th_k3, th_k4, th_k5, th_k6, th_k7, th_k8, th_k9, th_k10, th_k11, th_k12, th_k13, th_k14, th_k15, th_k16, th_k17, th_0_5, th_0_6, th_0_7, th_0_10, th_0_18, th_0_19, th_0_21, th_0_22, th_0_24, th_0_26, th_0_27]
    · simp only [sp_X10_pump, sp_X10_pump_21, sp_X10_pump_22, sp_X10_pump_51, sp_X10_pump_52, sp_X10_pump_97, sp_X10_pump_98, sp_X10_isShip, sp_X10_isMean, e10, e14, m7, m10, a1, b1, ι_nat (show s < 100000 by omega), ix2 (show s < 4 by omega) (show 4 < 100000 by omega), a2, b2, or_true, true_or, or_false, false_or, b1s, b2s, sls, bxl, bxr, i10, i00, i11, i01, ite_T, ite_F, fl1, fl0, th_th, th_k1, th_k2, th_k3, th_k4, th_k5, th_k6, th_k7, th_k8, th_k9, th_k10, th_k11, th_k12, th_k13, th_k14, th_k15, th_k16, th_k17, th_0_5, th_0_6, th_0_7, th_0_10, th_0_18, th_0_19, th_0_21, th_0_22, th_0_24, th_0_26, th_0_27]
  by_cases g3 : ι s = ι t
  · have _ := 0
    refine ⟨_, e3_ex (fun s w m => (s, τ, ν, δ, π, w, m)) (k := 2) (c := 2) (v := 0) (μ' := th μ 2) ?_ rfl ?_ rfl (by decide), nS, nM, hr, h.th⟩
    · simp only [sp_X9_pump, sp_X9_pump_81, sp_X9_needWater, sp_X9_needShore, sp_X9_needSort, sp_X9_needRoomForMeans, e10, e14, m7, m10, a1, b1, ι_nat (show s < 100000 by omega), ix2 (show s < 4 by omega) (show 4 < 100000 by omega), a2, b2, ι_nat (show t < 100000 by omega), ix2 (show t < 4 by omega) (show 4 < 100000 by omega), g3, or_true, true_or, or_false, false_or, b1s, b2s, sls, bxl, bxr, i10, i00, i11, i01, ite_T, ite_F, fl1, fl0, th_th, th_k1, th_k2, th_k3, th_k4, th_k5, th_k6, th_k7, th_k8, th_k9, th_k10, th_k11, th_k12, th_k13, th_k14, th_k15, th_k16, th_k17, th_0_5, th_0_6, th_0_7, th_0_10, th_0_18, th_0_19, th_0_21, th_0_22, th_0_24, th_0_26, th_0_27]
    · simp only [sp_X10_pump, sp_X10_pump_21, sp_X10_pump_22, sp_X10_pump_51, sp_X10_pump_52, sp_X10_pump_97, sp_X10_pump_98, sp_X10_isShip, sp_X10_isMean, e10, e14, m7, m10, a1, b1, ι_nat (show s < 100000 by omega), ix2 (show s < 4 by omega) (show 4 < 100000 by omega), a2, b2, ι_nat (show t < 100000 by omega), ix2 (show t < 4 by omega) (show 4 < 100000 by omega), g3, or_true, true_or, or_false, false_or, b1s, b2s, sls, bxl, bxr, i10, i00, i11, i01, ite_T, ite_F, fl1, fl0, th_th, th_k1, th_k2, th_k3, th_k4, th_k5, th_k6, th_k7, th_k8, th_k9, th_k10, th_k11, th_k12, th_k13, th_k14, th_k15, th_k16, th_k17, th_0_5, th_0_6, th_0_7, th_0_10, th_0_18, th_0_19, th_0_21, th_0_22, th_0_24, th_0_26, th_0_27]
  rcases nrg p3 1 100000 with ⟨l4, u4, a4, b4⟩ | ⟨a4, b4⟩
  rotate_left
  · have _ := a4
    refine ⟨_, e3_ex (fun s w m => (s, τ, ν, δ, π, w, m)) (k := 2) (c := 2) (v := 0) (μ' := th μ 2) ?_ rfl ?_ rfl (by decide), nS, nM, hr, h.th⟩
    · simp only [sp_X9_pump, sp_X9_pump_81, sp_X9_needWater, sp_X9_needShore, sp_X9_needSort, sp_X9_needRoomForMeans, e10, e14, m7, m10, a1, b1, ι_nat (show s < 100000 by omega), ix2 (show s < 4 by omega) (show 4 < 100000 by omega), a2, b2, ι_nat (show t < 100000 by omega), ix2 (show t < 4 by omega) (show 4 < 100000 by omega), g3, a4, b4, or_true, true_or, or_false, false_or, b1s, b2s, sls, bxl, bxr, i10, i00, i11, i01, ite_T, ite_F, fl1, fl0, th_th, th_k1, th_k2, th_k3, th_k4, th_k5, th_k6, th_k7, th_k8, th_k9, th_k10, th_k11, th_k12, th_k13, th_k14, th_k15, th_k16, th_k17, th_0_5, th_0_6, th_0_7, th_0_10, th_0_18, th_0_19, th_0_21, th_0_22, th_0_24, th_0_26, th_0_27]
    · simp only [sp_X10_pump, sp_X10_pump_21, sp_X10_pump_22, sp_X10_pump_51, sp_X10_pump_52, sp_X10_pump_97, sp_X10_pump_98, sp_X10_isShip, sp_X10_isMean, e10, e14, m7, m10, a1, b1, ι_nat (show s < 100000 by omega), ix2 (show s < 4 by omega) (show 4 < 100000 by omega), a2, b2, ι_nat (show t < 100000 by omega), ix2 (show t < 4 by omega) (show 4 < 100000 by omega), g3, a4, b4, or_true, true_or, or_false, false_or, b1s, b2s, sls, bxl, bxr, i10, i00, i11, i01, ite_T, ite_F, fl1, fl0, th_th, th_k1, th_k2, th_k3, th_k4, th_k5, th_k6, th_k7, th_k8, th_k9, th_k10, th_k11, th_k12, th_k13, th_k14, th_k15, th_k16, th_k17, th_0_5, th_0_6, th_0_7, th_0_10, th_0_18, th_0_19, th_0_21, th_0_22, th_0_24, th_0_26, th_0_27]
  replace l4 : (1 : Int) ≤ p3.toInt := l4
  replace u4 : p3.toInt ≤ (100000 : Int) := u4
  have es : μ 1 (144 + s) = σ 12 s := (hR 12 s (show s < 4 by omega)).symm
  have et : μ 1 (144 + t) = σ 12 t := (hR 12 t (show t < 4 by omega)).symm
  by_cases g5 : σ 12 s < p3
  · have _ := 0
    refine ⟨_, e3_ex (fun s w m => (s, τ, ν, δ, π, w, m)) (k := 3) (c := 3) (v := 0) (μ' := th μ 3) ?_ rfl ?_ rfl (by decide), nS, nM, hr, h.th⟩
    · simp only [sp_X9_pump, sp_X9_pump_81, sp_X9_needWater, sp_X9_needShore, sp_X9_needSort, sp_X9_needRoomForMeans, e10, e14, m7, m10, a1, b1, ι_nat (show s < 100000 by omega), ix2 (show s < 4 by omega) (show 4 < 100000 by omega), a2, b2, ι_nat (show t < 100000 by omega), ix2 (show t < 4 by omega) (show 4 < 100000 by omega), g3, a4, b4, es, et, show (144 : Int32) + ι s = ι (144 + s) from ι_add 144 s, ι_nat (show 144 + s < 100000 by omega), ix2 (show 144 + s < 174 by omega) (show 174 < 100000 by omega), show (144 : Int32) + ι t = ι (144 + t) from ι_add 144 t, ι_nat (show 144 + t < 100000 by omega), ix2 (show 144 + t < 174 by omega) (show 174 < 100000 by omega), g5, or_true, true_or, or_false, false_or, b1s, b2s, sls, bxl, bxr, i10, i00, i11, i01, ite_T, ite_F, fl1, fl0, th_th, th_k1, th_k2, th_k3, th_k4, th_k5, th_k6, th_k7, th_k8, th_k9, th_k10, th_k11, th_k12, th_k13, th_k14, th_k15, th_k16, th_k17, th_0_5, th_0_6, th_0_7, th_0_10, th_0_18, th_0_19, th_0_21, th_0_22, th_0_24, th_0_26, th_0_27]
    · simp only [sp_X10_pump, sp_X10_pump_21, sp_X10_pump_22, sp_X10_pump_51, sp_X10_pump_52, sp_X10_pump_97, sp_X10_pump_98, sp_X10_isShip, sp_X10_isMean, e10, e14, m7, m10, a1, b1, ι_nat (show s < 100000 by omega), ix2 (show s < 4 by omega) (show 4 < 100000 by omega), a2, b2, ι_nat (show t < 100000 by omega), ix2 (show t < 4 by omega) (show 4 < 100000 by omega), g3, a4, b4, es, et, show (144 : Int32) + ι s = ι (144 + s) from ι_add 144 s, ι_nat (show 144 + s < 100000 by omega), ix2 (show 144 + s < 174 by omega) (show 174 < 100000 by omega), show (144 : Int32) + ι t = ι (144 + t) from ι_add 144 t, ι_nat (show 144 + t < 100000 by omega), ix2 (show 144 + t < 174 by omega) (show 174 < 100000 by omega), g5, or_true, true_or, or_false, false_or, b1s, b2s, sls, bxl, bxr, i10, i00, i11, i01, ite_T, ite_F, fl1, fl0, th_th, th_k1, th_k2, th_k3, th_k4, th_k5, th_k6, th_k7, th_k8, th_k9, th_k10, th_k11, th_k12, th_k13, th_k14, th_k15, th_k16, th_k17, th_0_5, th_0_6, th_0_7, th_0_10, th_0_18, th_0_19, th_0_21, th_0_22, th_0_24, th_0_26, th_0_27]
  by_cases g6 : σ 12 t + p3 ≤ 100000
  rotate_left
  · have _ := 0
    have y6 : 100000 < σ 12 t + p3 := by rw [Int32.le_iff_toInt_le] at g6; rw [Int32.lt_iff_toInt_lt]; omega
    refine ⟨_, e3_ex (fun s w m => (s, τ, ν, δ, π, w, m)) (k := 3) (c := 3) (v := 0) (μ' := th μ 3) ?_ rfl ?_ rfl (by decide), nS, nM, hr, h.th⟩
    · simp only [sp_X9_pump, sp_X9_pump_81, sp_X9_needWater, sp_X9_needShore, sp_X9_needSort, sp_X9_needRoomForMeans, e10, e14, m7, m10, a1, b1, ι_nat (show s < 100000 by omega), ix2 (show s < 4 by omega) (show 4 < 100000 by omega), a2, b2, ι_nat (show t < 100000 by omega), ix2 (show t < 4 by omega) (show 4 < 100000 by omega), g3, a4, b4, es, et, show (144 : Int32) + ι s = ι (144 + s) from ι_add 144 s, ι_nat (show 144 + s < 100000 by omega), ix2 (show 144 + s < 174 by omega) (show 174 < 100000 by omega), show (144 : Int32) + ι t = ι (144 + t) from ι_add 144 t, ι_nat (show 144 + t < 100000 by omega), ix2 (show 144 + t < 174 by omega) (show 174 < 100000 by omega), g5, g6, y6, or_true, true_or, or_false, false_or, b1s, b2s, sls, bxl, bxr, i10, i00, i11, i01, ite_T, ite_F, fl1, fl0, th_th, th_k1, th_k2, th_k3, th_k4, th_k5, th_k6, th_k7, th_k8, th_k9, th_k10, th_k11, th_k12, th_k13, th_k14, th_k15, th_k16, th_k17, th_0_5, th_0_6, th_0_7, th_0_10, th_0_18, th_0_19, th_0_21, th_0_22, th_0_24, th_0_26, th_0_27]
    · simp only [sp_X10_pump, sp_X10_pump_21, sp_X10_pump_22, sp_X10_pump_51, sp_X10_pump_52, sp_X10_pump_97, sp_X10_pump_98, sp_X10_isShip, sp_X10_isMean, e10, e14, m7, m10, a1, b1, ι_nat (show s < 100000 by omega), ix2 (show s < 4 by omega) (show 4 < 100000 by omega), a2, b2, ι_nat (show t < 100000 by omega), ix2 (show t < 4 by omega) (show 4 < 100000 by omega), g3, a4, b4, es, et, show (144 : Int32) + ι s = ι (144 + s) from ι_add 144 s, ι_nat (show 144 + s < 100000 by omega), ix2 (show 144 + s < 174 by omega) (show 174 < 100000 by omega), show (144 : Int32) + ι t = ι (144 + t) from ι_add 144 t, ι_nat (show 144 + t < 100000 by omega), ix2 (show 144 + t < 174 by omega) (show 174 < 100000 by omega), g5, g6, y6, or_true, true_or, or_false, false_or, b1s, b2s, sls, bxl, bxr, i10, i00, i11, i01, ite_T, ite_F, fl1, fl0, th_th, th_k1, th_k2, th_k3, th_k4, th_k5, th_k6, th_k7, th_k8, th_k9, th_k10, th_k11, th_k12, th_k13, th_k14, th_k15, th_k16, th_k17, th_0_5, th_0_6, th_0_7, th_0_10, th_0_18, th_0_19, th_0_21, th_0_22, th_0_24, th_0_26, th_0_27]
  have y6 : ¬ 100000 < σ 12 t + p3 := by rw [Int32.le_iff_toInt_le] at g6; rw [Int32.lt_iff_toInt_lt]; omega
  have hst : s ≠ t := fun q => g3 (by rw [q])
  have o9 : (stU σ 12 s (σ 12 s - p3)) 12 t = σ 12 t := stU_i (Ne.symm hst)
  have o10 : (stU (th μ 0) 1 (144 + s) (σ 12 s - p3)) 1 (144 + t) = σ 12 t := (stU_i (by omega)).trans et
  have b12 := h.1.2.2.2.b12 (s := t) (by omega)
  have x2 : (σ 12 t).toInt + p3.toInt ≤ 100000 := by rw [Int32.le_iff_toInt_le, t_add (by omega) (by omega)] at g6; exact g6
  have x1 : p3.toInt ≤ (σ 12 s).toInt := by rw [Int32.lt_iff_toInt_lt] at g5; omega
  refine ⟨_, e3_ok (fun s w m => (s, τ, ν, δ, π, w, m)) (v := σ 12 t + p3) (a' := stU (stU σ 12 s (σ 12 s - p3)) 12 t (σ 12 t + p3)) (μ' := stU (stU (th μ 0) 1 (144 + s) (σ 12 s - p3)) 1 (144 + t) (σ 12 t + p3)) ?_ ?_ rfl, nS, nM, hr, ?_⟩
  · simp only [sp_X9_pump, sp_X9_pump_81, sp_X9_needWater, sp_X9_needShore, sp_X9_needSort, sp_X9_needRoomForMeans, e10, e14, m7, m10, a1, b1, ι_nat (show s < 100000 by omega), ix2 (show s < 4 by omega) (show 4 < 100000 by omega), a2, b2, ι_nat (show t < 100000 by omega), ix2 (show t < 4 by omega) (show 4 < 100000 by omega), g3, a4, b4, es, et, show (144 : Int32) + ι s = ι (144 + s) from ι_add 144 s, ι_nat (show 144 + s < 100000 by omega), ix2 (show 144 + s < 174 by omega) (show 174 < 100000 by omega), show (144 : Int32) + ι t = ι (144 + t) from ι_add 144 t, ι_nat (show 144 + t < 100000 by omega), ix2 (show 144 + t < 174 by omega) (show 174 < 100000 by omega), g5, y6, g6, o9, o10, stU_same, or_true, true_or, or_false, false_or, b1s, b2s, sls, bxl, bxr, i10, i00, i11, i01, ite_T, ite_F, fl1, fl0, th_th, th_k1, th_k2, th_k3, th_k4, th_k5, th_k6, th_k7, th_k8, th_k9, th_k10, th_k11, th_k12, th_k13, th_k14, th_k15, th_k16, th_k17, th_0_5, th_0_6, th_0_7, th_0_10, th_0_18, th_0_19, th_0_21, th_0_22, th_0_24, th_0_26, th_0_27]
  · simp only [sp_X10_pump, sp_X10_pump_21, sp_X10_pump_22, sp_X10_pump_51, sp_X10_pump_52, sp_X10_pump_97, sp_X10_pump_98, sp_X10_isShip, sp_X10_isMean, e10, e14, m7, m10, a1, b1, ι_nat (show s < 100000 by omega), ix2 (show s < 4 by omega) (show 4 < 100000 by omega), a2, b2, ι_nat (show t < 100000 by omega), ix2 (show t < 4 by omega) (show 4 < 100000 by omega), g3, a4, b4, es, et, show (144 : Int32) + ι s = ι (144 + s) from ι_add 144 s, ι_nat (show 144 + s < 100000 by omega), ix2 (show 144 + s < 174 by omega) (show 174 < 100000 by omega), show (144 : Int32) + ι t = ι (144 + t) from ι_add 144 t, ι_nat (show 144 + t < 100000 by omega), ix2 (show 144 + t < 174 by omega) (show 174 < 100000 by omega), g5, y6, g6, o9, o10, stU_same, or_true, true_or, or_false, false_or, b1s, b2s, sls, bxl, bxr, i10, i00, i11, i01, ite_T, ite_F, fl1, fl0, th_th, th_k1, th_k2, th_k3, th_k4, th_k5, th_k6, th_k7, th_k8, th_k9, th_k10, th_k11, th_k12, th_k13, th_k14, th_k15, th_k16, th_k17, th_0_5, th_0_6, th_0_7, th_0_10, th_0_18, th_0_19, th_0_21, th_0_22, th_0_24, th_0_26, th_0_27]
  · exact by have := u_pump (h.th (x := 0)) hs ht hst l4 x1 x2; rw [show (th μ 0) 1 (144 + s) = σ 12 s from es, show (th μ 0) 1 (144 + t) = σ 12 t from et] at this; exact this
theorem c_shipHas {nS nM hr : Nat} {σ δ μ : St} {π : St × Int64} (h : RR nS nM hr σ δ π μ) (p1 : Int32) (τ : St) (ν : Nat → Int32) (ω : Nat → Int64) : ∃ z9, st_6 p1 σ τ ν δ π ω μ = some z9 ∧ Rel z9 := by
  have hR := h.1.1
  have hnS : nS ≤ 4 := h.1.2.2.1.2.1.1
  have hnM : nM ≤ 20 := h.1.2.2.1.2.2.1.1
  have e10 : σ 10 0 = ι nS := h.1.2.2.1.2.1.2
  have e14 : σ 14 0 = ι nM := h.1.2.2.1.2.2.1.2
  have m7 : μ 0 7 = ι nS := (hR 10 0 rfl).symm.trans e10
  have m10 : μ 0 10 = ι nM := (hR 14 0 rfl).symm.trans e14
  rcases nnN p1 (n := nS) (by omega) with ⟨s, hs, rfl, a1, b1⟩ | ⟨a1, b1⟩
  rotate_left
  · have _ := a1
    refine ⟨_, e2_ex (fun w m => (σ, τ, ν, δ, π, w, m)) (k := 1) (c := 1) (v := 0) (μ' := th μ 1) ?_ rfl ?_ rfl (by decide), nS, nM, hr, h.th⟩
    · simp only [sp_X9_shipHas, sp_X9_needWater, sp_X9_needShore, sp_X9_needSort, sp_X9_needRoomForMeans, e10, e14, m7, m10, a1, b1, or_true, true_or, or_false, false_or, b1s, b2s, sls, bxl, bxr, i10, i00, i11, i01, ite_T, ite_F, fl1, fl0, th_th, th_k1, th_k2, th_k3, th_k4, th_k5, th_k6, th_k7, th_k8, th_k9, th_k10, th_k11, th_k12, th_k13, th_k14, th_k15, th_k16, th_k17, th_0_5, th_0_6, th_0_7, th_0_10, th_0_18, th_0_19, th_0_21, th_0_22, th_0_24, th_0_26, th_0_27]
    · simp only [sp_X10_shipHas, sp_X10_isShip, sp_X10_isMean, e10, e14, m7, m10, a1, b1, or_true, true_or, or_false, false_or, b1s, b2s, sls, bxl, bxr, i10, i00, i11, i01, ite_T, ite_F, fl1, fl0, th_th, th_k1, th_k2, th_k3, th_k4, th_k5, th_k6, th_k7, th_k8, th_k9, th_k10, th_k11, th_k12, th_k13, th_k14, th_k15, th_k16, th_k17, th_0_5, th_0_6, th_0_7, th_0_10, th_0_18, th_0_19, th_0_21, th_0_22, th_0_24, th_0_26, th_0_27]
  have es : μ 1 (144 + s) = σ 12 s := (hR 12 s (show s < 4 by omega)).symm
  refine ⟨_, e2_ok (fun w m => (σ, τ, ν, δ, π, w, m)) (v := σ 12 s) (μ' := th μ 0) ?_ ?_ rfl, nS, nM, hr, ?_⟩
  · simp only [sp_X9_shipHas, sp_X9_needWater, sp_X9_needShore, sp_X9_needSort, sp_X9_needRoomForMeans, e10, e14, m7, m10, a1, b1, ι_nat (show s < 100000 by omega), ix2 (show s < 4 by omega) (show 4 < 100000 by omega), es, show (144 : Int32) + ι s = ι (144 + s) from ι_add 144 s, ι_nat (show 144 + s < 100000 by omega), ix2 (show 144 + s < 174 by omega) (show 174 < 100000 by omega), or_true, true_or, or_false, false_or, b1s, b2s, sls, bxl, bxr, i10, i00, i11, i01, ite_T, ite_F, fl1, fl0, th_th, th_k1, th_k2, th_k3, th_k4, th_k5, th_k6, th_k7, th_k8, th_k9, th_k10, th_k11, th_k12, th_k13, th_k14, th_k15, th_k16, th_k17, th_0_5, th_0_6, th_0_7, th_0_10, th_0_18, th_0_19, th_0_21, th_0_22, th_0_24, th_0_26, th_0_27]
  · simp only [sp_X10_shipHas, sp_X10_isShip, sp_X10_isMean, e10, e14, m7, m10, a1, b1, ι_nat (show s < 100000 by omega), ix2 (show s < 4 by omega) (show 4 < 100000 by omega), es, show (144 : Int32) + ι s = ι (144 + s) from ι_add 144 s, ι_nat (show 144 + s < 100000 by omega), ix2 (show 144 + s < 174 by omega) (show 174 < 100000 by omega), or_true, true_or, or_false, false_or, b1s, b2s, sls, bxl, bxr, i10, i00, i11, i01, ite_T, ite_F, fl1, fl0, th_th, th_k1, th_k2, th_k3, th_k4, th_k5, th_k6, th_k7, th_k8, th_k9, th_k10, th_k11, th_k12, th_k13, th_k14, th_k15, th_k16, th_k17, th_0_5, th_0_6, th_0_7, th_0_10, th_0_18, th_0_19, th_0_21, th_0_22, th_0_24, th_0_26, th_0_27]
  · exact h.th
