theorem c_birds {nS nM hr : Nat} {σ δ μ : St} {π : St × Int64} (h : RR nS nM hr σ δ π μ) (p1 p2 : Int32) (τ : St) (ν : Nat → Int32) (ω : Nat → Int64) : ∃ z9, st_19 p1 p2 σ τ ν δ π ω μ = some z9 ∧ Rel z9 := by
  have hR := h.1.1
  have hnS : nS ≤ 4 := h.1.2.2.1.2.1.1
  have hnM : nM ≤ 20 := h.1.2.2.1.2.2.1.1
  have e10 : σ 10 0 = ι nS := h.1.2.2.1.2.1.2
  have e14 : σ 14 0 = ι nM := h.1.2.2.1.2.2.1.2
  have m7 : μ 0 7 = ι nS := (hR 10 0 rfl).symm.trans e10
  have m10 : μ 0 10 = ι nM := (hR 14 0 rfl).symm.trans e14
  rcases nn24 p1 with ⟨c, hc, rfl⟩ | ⟨a1, b1⟩
  rotate_left
  · have _ := a1
    refine ⟨_, e3_ex (fun s w m => (s, τ, ν, δ, π, w, m)) (k := 1) (c := 1) (v := 0) (μ' := th μ 1) ?_ rfl ?_ rfl (by decide), nS, nM, hr, h.th⟩
    · simp only [sp_X9_birds, sp_X9_needWater, sp_X9_needShore, sp_X9_needSort, sp_X9_needRoomForMeans, e10, e14, m7, m10, a1, b1, or_true, true_or, or_false, false_or, b1s, b2s, sls, bxl, bxr, i10, i00, i11, i01, ite_T, ite_F, fl1, fl0, th_th, th_k1, th_k2, th_k3, th_k4, th_k5, th_k6, th_k7, th_k8, th_k9, th_k10, th_k11, th_k12, th_k13, th_k14, th_k15, th_k16, th_k17, th_0_5, th_0_6, th_0_7, th_0_10, th_0_18, th_0_19, th_0_21, th_0_22, th_0_24, th_0_26, th_0_27]
    · simp only [sp_X10_birds, sp_X10_birds_62, sp_X10_birds_63, sp_X10_isShip, sp_X10_isMean, e10, e14, m7, m10, a1, b1, or_true, true_or, or_false, false_or, b1s, b2s, sls, bxl, bxr, i10, i00, i11, i01, ite_T, ite_F, fl1, fl0, th_th, th_k1, th_k2, th_k3, th_k4, th_k5, th_k6, th_k7, th_k8, th_k9, th_k10, th_k11, th_k12, th_k13, th_k14, th_k15, th_k16, th_k17, th_0_5, th_0_6, th_0_7, th_0_10, th_0_18, th_0_19, th_0_21, th_0_22, th_0_24, th_0_26, th_0_27]
  have k_c : μ 3 c = σ 2 c := (hR 2 c hc).symm
  rcases nrg p2 1 100 with ⟨l2, u2, a2, b2⟩ | ⟨a2, b2⟩
  rotate_left
  · have _ := a2
    refine ⟨_, e3_ex (fun s w m => (s, τ, ν, δ, π, w, m)) (k := 2) (c := 2) (v := 0) (μ' := th μ 2) ?_ rfl ?_ rfl (by decide), nS, nM, hr, h.th⟩
    · simp only [sp_X9_birds, sp_X9_needWater, sp_X9_needShore, sp_X9_needSort, sp_X9_needRoomForMeans, e10, e14, m7, m10, nc9 c hc, nc10 c hc, isWater9 hc, ι_nat (show c < 100000 by omega), ix2 hc (show 24 < 100000 by omega), k_c, a2, b2, or_true, true_or, or_false, false_or, b1s, b2s, sls, bxl, bxr, i10, i00, i11, i01, ite_T, ite_F, fl1, fl0, th_th, th_k1, th_k2, th_k3, th_k4, th_k5, th_k6, th_k7, th_k8, th_k9, th_k10, th_k11, th_k12, th_k13, th_k14, th_k15, th_k16, th_k17, th_0_5, th_0_6, th_0_7, th_0_10, th_0_18, th_0_19, th_0_21, th_0_22, th_0_24, th_0_26, th_0_27]
    · simp only [sp_X10_birds, sp_X10_birds_62, sp_X10_birds_63, sp_X10_isShip, sp_X10_isMean, e10, e14, m7, m10, nc9 c hc, nc10 c hc, isWater9 hc, ι_nat (show c < 100000 by omega), ix2 hc (show 24 < 100000 by omega), k_c, a2, b2, or_true, true_or, or_false, false_or, b1s, b2s, sls, bxl, bxr, i10, i00, i11, i01, ite_T, ite_F, fl1, fl0, th_th, th_k1, th_k2, th_k3, th_k4, th_k5, th_k6, th_k7, th_k8, th_k9, th_k10, th_k11, th_k12, th_k13, th_k14, th_k15, th_k16, th_k17, th_0_5, th_0_6, th_0_7, th_0_10, th_0_18, th_0_19, th_0_21, th_0_22, th_0_24, th_0_26, th_0_27]
  replace l2 : (1 : Int) ≤ p2.toInt := l2
  replace u2 : p2.toInt ≤ (100 : Int) := u2
  by_cases g3 : σ 2 c = 0
  · have _ := 0
    refine ⟨_, e3_ex (fun s w m => (s, τ, ν, δ, π, w, m)) (k := 3) (c := 3) (v := 0) (μ' := th μ 3) ?_ rfl ?_ rfl (by decide), nS, nM, hr, h.th⟩
    · simp only [sp_X9_birds, sp_X9_needWater, sp_X9_needShore, sp_X9_needSort, sp_X9_needRoomForMeans, e10, e14, m7, m10, nc9 c hc, nc10 c hc, isWater9 hc, ι_nat (show c < 100000 by omega), ix2 hc (show 24 < 100000 by omega), k_c, a2, b2, g3, or_true, true_or, or_false, false_or, b1s, b2s, sls, bxl, bxr, i10, i00, i11, i01, ite_T, ite_F, fl1, fl0, th_th, th_k1, th_k2, th_k3, th_k4, th_k5, th_k6, th_k7, th_k8, th_k9, th_k10, th_k11, th_k12, th_k13, th_k14, th_k15, th_k16, th_k17, th_0_5, th_0_6, th_0_7, th_0_10, th_0_18, th_0_19, th_0_21, th_0_22, th_0_24, th_0_26, th_0_27]
    · simp only [sp_X10_birds, sp_X10_birds_62, sp_X10_birds_63, sp_X10_isShip, sp_X10_isMean, e10, e14, m7, m10, nc9 c hc, nc10 c hc, isWater9 hc, ι_nat (show c < 100000 by omega), ix2 hc (show 24 < 100000 by omega), k_c, a2, b2, g3, or_true, true_or, or_false, false_or, b1s, b2s, sls, bxl, bxr, i10, i00, i11, i01, ite_T, ite_F, fl1, fl0, th_th, th_k1, th_k2, th_k3, th_k4, th_k5, th_k6, th_k7, th_k8, th_k9, th_k10, th_k11, th_k12, th_k13, th_k14, th_k15, th_k16, th_k17, th_0_5, th_0_6, th_0_7, th_0_10, th_0_18, th_0_19, th_0_21, th_0_22, th_0_24, th_0_26, th_0_27]
  have e7 : μ 1 (72 + c) = σ 7 c := (hR 7 c ⟨trivial, hc⟩).symm
  by_cases g4 : σ 7 c + p2 ≤ 1000
  rotate_left
  · have _ := 0
    have y4 : 1000 < σ 7 c + p2 := by rw [Int32.le_iff_toInt_le] at g4; rw [Int32.lt_iff_toInt_lt]; omega
    refine ⟨_, e3_ex (fun s w m => (s, τ, ν, δ, π, w, m)) (k := 3) (c := 3) (v := 0) (μ' := th μ 3) ?_ rfl ?_ rfl (by decide), nS, nM, hr, h.th⟩
    · simp only [sp_X9_birds, sp_X9_needWater, sp_X9_needShore, sp_X9_needSort, sp_X9_needRoomForMeans, e10, e14, m7, m10, nc9 c hc, nc10 c hc, isWater9 hc, ι_nat (show c < 100000 by omega), ix2 hc (show 24 < 100000 by omega), k_c, a2, b2, g3, e7, show (72 : Int32) + ι c = ι (72 + c) from ι_add 72 c, ι_nat (show 72 + c < 100000 by omega), ix2 (show 72 + c < 174 by omega) (show 174 < 100000 by omega), g4, y4, or_true, true_or, or_false, false_or, b1s, b2s, sls, bxl, bxr, i10, i00, i11, i01, ite_T, ite_F, fl1, fl0, th_th, th_k1, th_k2, th_k3, th_k4, th_k5, th_k6, th_k7, th_k8, th_k9, th_k10, th_k11, th_k12, th_k13, th_k14, th_k15, th_k16, th_k17, th_0_5, th_0_6, th_0_7, th_0_10, th_0_18, th_0_19, th_0_21, th_0_22, th_0_24, th_0_26, th_0_27]
    · simp only [sp_X10_birds, sp_X10_birds_62, sp_X10_birds_63, sp_X10_isShip, sp_X10_isMean, e10, e14, m7, m10, nc9 c hc, nc10 c hc, isWater9 hc, ι_nat (show c < 100000 by omega), ix2 hc (show 24 < 100000 by omega), k_c, a2, b2, g3, e7, show (72 : Int32) + ι c = ι (72 + c) from ι_add 72 c, ι_nat (show 72 + c < 100000 by omega), ix2 (show 72 + c < 174 by omega) (show 174 < 100000 by omega), g4, y4, or_true, true_or, or_false, false_or, b1s, b2s, sls, bxl, bxr, i10, i00, i11, i01, ite_T, ite_F, fl1, fl0, th_th, th_k1, th_k2, th_k3, th_k4, th_k5, th_k6, th_k7, th_k8, th_k9, th_k10, th_k11, th_k12, th_k13, th_k14, th_k15, th_k16, th_k17, th_0_5, th_0_6, th_0_7, th_0_10, th_0_18, th_0_19, th_0_21, th_0_22, th_0_24, th_0_26, th_0_27]
  have y4 : ¬ 1000 < σ 7 c + p2 := by rw [Int32.le_iff_toInt_le] at g4; rw [Int32.lt_iff_toInt_lt]; omega
  refine ⟨_, e3_ok (fun s w m => (s, τ, ν, δ, π, w, m)) (v := σ 7 c + p2) (a' := stU σ 7 c (σ 7 c + p2)) (μ' := stU (th μ 0) 1 (72 + c) (σ 7 c + p2)) ?_ ?_ rfl, nS, nM, hr, ?_⟩
  · simp only [sp_X9_birds, sp_X9_needWater, sp_X9_needShore, sp_X9_needSort, sp_X9_needRoomForMeans, e10, e14, m7, m10, nc9 c hc, nc10 c hc, isWater9 hc, ι_nat (show c < 100000 by omega), ix2 hc (show 24 < 100000 by omega), k_c, a2, b2, g3, e7, show (72 : Int32) + ι c = ι (72 + c) from ι_add 72 c, ι_nat (show 72 + c < 100000 by omega), ix2 (show 72 + c < 174 by omega) (show 174 < 100000 by omega), y4, g4, stU_same, or_true, true_or, or_false, false_or, b1s, b2s, sls, bxl, bxr, i10, i00, i11, i01, ite_T, ite_F, fl1, fl0, th_th, th_k1, th_k2, th_k3, th_k4, th_k5, th_k6, th_k7, th_k8, th_k9, th_k10, th_k11, th_k12, th_k13, th_k14, th_k15, th_k16, th_k17, th_0_5, th_0_6, th_0_7, th_0_10, th_0_18, th_0_19, th_0_21, th_0_22, th_0_24, th_0_26, th_0_27]
  · simp only [sp_X10_birds, sp_X10_birds_62, sp_X10_birds_63, sp_X10_isShip, sp_X10_isMean, e10, e14, m7, m10, nc9 c hc, nc10 c hc, isWater9 hc, ι_nat (show c < 100000 by omega), ix2 hc (show 24 < 100000 by omega), k_c, a2, b2, g3, e7, show (72 : Int32) + ι c = ι (72 + c) from ι_add 72 c, ι_nat (show 72 + c < 100000 by omega), ix2 (show 72 + c < 174 by omega) (show 174 < 100000 by omega), y4, g4, stU_same, or_true, true_or, or_false, false_or, b1s, b2s, sls, bxl, bxr, i10, i00, i11, i01, ite_T, ite_F, fl1, fl0, th_th, th_k1, th_k2, th_k3, th_k4, th_k5, th_k6, th_k7, th_k8, th_k9, th_k10, th_k11, th_k12, th_k13, th_k14, th_k15, th_k16, th_k17, th_0_5, th_0_6, th_0_7, th_0_10, th_0_18, th_0_19, th_0_21, th_0_22, th_0_24, th_0_26, th_0_27]
  · exact u_birds h.th hc g3
theorem c_wash {nS nM hr : Nat} {σ δ μ : St} {π : St × Int64} (h : RR nS nM hr σ δ π μ) (p1 p2 : Int32) (τ : St) (ν : Nat → Int32) (ω : Nat → Int64) : ∃ z9, st_20 p1 p2 σ τ ν δ π ω μ = some z9 ∧ Rel z9 := by
  have hR := h.1.1
  have hnS : nS ≤ 4 := h.1.2.2.1.2.1.1
  have hnM : nM ≤ 20 := h.1.2.2.1.2.2.1.1
  have e10 : σ 10 0 = ι nS := h.1.2.2.1.2.1.2
  have e14 : σ 14 0 = ι nM := h.1.2.2.1.2.2.1.2
  have m7 : μ 0 7 = ι nS := (hR 10 0 rfl).symm.trans e10
  have m10 : μ 0 10 = ι nM := (hR 14 0 rfl).symm.trans e14
  rcases nn24 p1 with ⟨c, hc, rfl⟩ | ⟨a1, b1⟩
  rotate_left
  · have _ := a1
    refine ⟨_, e3_ex (fun s w m => (s, τ, ν, δ, π, w, m)) (k := 1) (c := 1) (v := 0) (μ' := th μ 1) ?_ rfl ?_ rfl (by decide), nS, nM, hr, h.th⟩
    · simp only [sp_X9_wash, sp_X9_needWater, sp_X9_needShore, sp_X9_needSort, sp_X9_needRoomForMeans, e10, e14, m7, m10, a1, b1, or_true, true_or, or_false, false_or, b1s, b2s, sls, bxl, bxr, i10, i00, i11, i01, ite_T, ite_F, fl1, fl0, th_th, th_k1, th_k2, th_k3, th_k4, th_k5, th_k6, th_k7, th_k8, th_k9, th_k10, th_k11, th_k12, th_k13, th_k14, th_k15, th_k16, th_k17, th_0_5, th_0_6, th_0_7, th_0_10, th_0_18, th_0_19, th_0_21, th_0_22, th_0_24, th_0_26, th_0_27]
    · simp only [sp_X10_wash, sp_X10_wash_46, sp_X10_isShip, sp_X10_isMean, e10, e14, m7, m10, a1, b1, or_true, true_or, or_false, false_or, b1s, b2s, sls, bxl, bxr, i10, i00, i11, i01, ite_T, ite_F, fl1, fl0, th_th, th_k1, th_k2, th_k3, th_k4, th_k5, th_k6, th_k7, th_k8, th_k9, th_k10, th_k11, th_k12, th_k13, th_k14, th_k15, th_k16, th_k17, th_0_5, th_0_6, th_0_7, th_0_10, th_0_18, th_0_19, th_0_21, th_0_22, th_0_24, th_0_26, th_0_27]
  have k_c : μ 3 c = σ 2 c := (hR 2 c hc).symm
  rcases nrg p2 1 100 with ⟨l2, u2, a2, b2⟩ | ⟨a2, b2⟩
  rotate_left
  · have _ := a2
    refine ⟨_, e3_ex (fun s w m => (s, τ, ν, δ, π, w, m)) (k := 2) (c := 2) (v := 0) (μ' := th μ 2) ?_ rfl ?_ rfl (by decide), nS, nM, hr, h.th⟩
    · simp only [sp_X9_wash, sp_X9_needWater, sp_X9_needShore, sp_X9_needSort, sp_X9_needRoomForMeans, e10, e14, m7, m10, nc9 c hc, nc10 c hc, isWater9 hc, ι_nat (show c < 100000 by omega), ix2 hc (show 24 < 100000 by omega), k_c, a2, b2, or_true, true_or, or_false, false_or, b1s, b2s, sls, bxl, bxr, i10, i00, i11, i01, ite_T, ite_F, fl1, fl0, th_th, th_k1, th_k2, th_k3, th_k4, th_k5, th_k6, th_k7, th_k8, th_k9, th_k10, th_k11, th_k12, th_k13, th_k14, th_k15, th_k16, th_k17, th_0_5, th_0_6, th_0_7, th_0_10, th_0_18, th_0_19, th_0_21, th_0_22, th_0_24, th_0_26, th_0_27]
    · simp only [sp_X10_wash, sp_X10_wash_46, sp_X10_isShip, sp_X10_isMean, e10, e14, m7, m10, nc9 c hc, nc10 c hc, isWater9 hc, ι_nat (show c < 100000 by omega), ix2 hc (show 24 < 100000 by omega), k_c, a2, b2, or_true, true_or, or_false, false_or, b1s, b2s, sls, bxl, bxr, i10, i00, i11, i01, ite_T, ite_F, fl1, fl0, th_th, th_k1, th_k2, th_k3, th_k4, th_k5, th_k6, th_k7, th_k8, th_k9, th_k10, th_k11, th_k12, th_k13, th_k14, th_k15, th_k16, th_k17, th_0_5, th_0_6, th_0_7, th_0_10, th_0_18, th_0_19, th_0_21, th_0_22, th_0_24, th_0_26, th_0_27]
  replace l2 : (1 : Int) ≤ p2.toInt := l2
  replace u2 : p2.toInt ≤ (100 : Int) := u2
  by_cases g3 : σ 2 c = 0
  · have _ := 0
    refine ⟨_, e3_ex (fun s w m => (s, τ, ν, δ, π, w, m)) (k := 3) (c := 3) (v := 0) (μ' := th μ 3) ?_ rfl ?_ rfl (by decide), nS, nM, hr, h.th⟩
    · simp only [sp_X9_wash, sp_X9_needWater, sp_X9_needShore, sp_X9_needSort, sp_X9_needRoomForMeans, e10, e14, m7, m10, nc9 c hc, nc10 c hc, isWater9 hc, ι_nat (show c < 100000 by omega), ix2 hc (show 24 < 100000 by omega), k_c, a2, b2, g3, or_true, true_or, or_false, false_or, b1s, b2s, sls, bxl, bxr, i10, i00, i11, i01, ite_T, ite_F, fl1, fl0, th_th, th_k1, th_k2, th_k3, th_k4, th_k5, th_k6, th_k7, th_k8, th_k9, th_k10, th_k11, th_k12, th_k13, th_k14, th_k15, th_k16, th_k17, th_0_5, th_0_6, th_0_7, th_0_10, th_0_18, th_0_19, th_0_21, th_0_22, th_0_24, th_0_26, th_0_27]
    · simp only [sp_X10_wash, sp_X10_wash_46, sp_X10_isShip, sp_X10_isMean, e10, e14, m7, m10, nc9 c hc, nc10 c hc, isWater9 hc, ι_nat (show c < 100000 by omega), ix2 hc (show 24 < 100000 by omega), k_c, a2, b2, g3, or_true, true_or, or_false, false_or, b1s, b2s, sls, bxl, bxr, i10, i00, i11, i01, ite_T, ite_F, fl1, fl0, th_th, th_k1, th_k2, th_k3, th_k4, th_k5, th_k6, th_k7, th_k8, th_k9, th_k10, th_k11, th_k12, th_k13, th_k14, th_k15, th_k16, th_k17, th_0_5, th_0_6, th_0_7, th_0_10, th_0_18, th_0_19, th_0_21, th_0_22, th_0_24, th_0_26, th_0_27]
  have e7 : μ 1 (96 + c) = σ 8 c := (hR 8 c ⟨trivial, hc⟩).symm
  refine ⟨_, e3_ok (fun s w m => (s, τ, ν, δ, π, w, m)) (v := iMin p2 (σ 8 c)) (a' := stU σ 8 c (σ 8 c - iMin p2 (σ 8 c))) (μ' := stU (th μ 0) 1 (96 + c) (σ 8 c - iMin p2 (σ 8 c))) ?_ ?_ rfl, nS, nM, hr, ?_⟩
  · simp only [sp_X9_wash, sp_X9_needWater, sp_X9_needShore, sp_X9_needSort, sp_X9_needRoomForMeans, e10, e14, m7, m10, nc9 c hc, nc10 c hc, isWater9 hc, ι_nat (show c < 100000 by omega), ix2 hc (show 24 < 100000 by omega), k_c, a2, b2, g3, e7, show (96 : Int32) + ι c = ι (96 + c) from ι_add 96 c, ι_nat (show 96 + c < 100000 by omega), ix2 (show 96 + c < 174 by omega) (show 174 < 100000 by omega), least_eq, or_true, true_or, or_false, false_or, b1s, b2s, sls, bxl, bxr, i10, i00, i11, i01, ite_T, ite_F, fl1, fl0, th_th, th_k1, th_k2, th_k3, th_k4, th_k5, th_k6, th_k7, th_k8, th_k9, th_k10, th_k11, th_k12, th_k13, th_k14, th_k15, th_k16, th_k17, th_0_5, th_0_6, th_0_7, th_0_10, th_0_18, th_0_19, th_0_21, th_0_22, th_0_24, th_0_26, th_0_27]
  · simp only [sp_X10_wash, sp_X10_wash_46, sp_X10_isShip, sp_X10_isMean, e10, e14, m7, m10, nc9 c hc, nc10 c hc, isWater9 hc, ι_nat (show c < 100000 by omega), ix2 hc (show 24 < 100000 by omega), k_c, a2, b2, g3, e7, show (96 : Int32) + ι c = ι (96 + c) from ι_add 96 c, ι_nat (show 96 + c < 100000 by omega), ix2 (show 96 + c < 174 by omega) (show 174 < 100000 by omega), least_eq, or_true, true_or, or_false, false_or, b1s, b2s, sls, bxl, bxr, i10, i00, i11, i01, ite_T, ite_F, fl1, fl0, th_th, th_k1, th_k2, th_k3, th_k4, th_k5, th_k6, th_k7, th_k8, th_k9, th_k10, th_k11, th_k12, th_k13, th_k14, th_k15, th_k16, th_k17, th_0_5, th_0_6, th_0_7, th_0_10, th_0_18, th_0_19, th_0_21, th_0_22, th_0_24, th_0_26, th_0_27]
  · exact u_wash h.th hc g3
theorem c_site {nS nM hr : Nat} {σ δ μ : St} {π : St × Int64} (h : RR nS nM hr σ δ π μ) (p1 p2 : Int32) (τ : St) (ν : Nat → Int32) (ω : Nat → Int64) : ∃ z9, st_22 p1 p2 σ τ ν δ π ω μ = some z9 ∧ Rel z9 := by
  have hR := h.1.1
  have hnS : nS ≤ 4 := h.1.2.2.1.2.1.1
  have hnM : nM ≤ 20 := h.1.2.2.1.2.2.1.1
  have e10 : σ 10 0 = ι nS := h.1.2.2.1.2.1.2
  have e14 : σ 14 0 = ι nM := h.1.2.2.1.2.2.1.2
  have m7 : μ 0 7 = ι nS := (hR 10 0 rfl).symm.trans e10
  have m10 : μ 0 10 = ι nM := (hR 14 0 rfl).symm.trans e14
  rcases nrg p1 0 100000 with ⟨l1, u1, a1, b1⟩ | ⟨a1, b1⟩
  rotate_left
  · have _ := a1
    refine ⟨_, e3_ex (fun s w m => (σ, τ, ν, s, π, w, m)) (k := 2) (c := 1) (v := 0) (μ' := th μ 1) ?_ rfl ?_ rfl (by decide), nS, nM, hr, h.th⟩
    · simp only [sp_X9_site, sp_X3_addSite, sp_X9_needWater, sp_X9_needShore, sp_X9_needSort, sp_X9_needRoomForMeans, e10, e14, m7, m10, a1, b1, or_true, true_or, or_false, false_or, b1s, b2s, sls, bxl, bxr, i10, i00, i11, i01, ite_T, ite_F, fl1, fl0, th_th, th_k1, th_k2, th_k3, th_k4, th_k5, th_k6, th_k7, th_k8, th_k9, th_k10, th_k11, th_k12, th_k13, th_k14, th_k15, th_k16, th_k17, th_0_5, th_0_6, th_0_7, th_0_10, th_0_18, th_0_19, th_0_21, th_0_22, th_0_24, th_0_26, th_0_27]
    · simp only [sp_X10_site, sp_X10_site_25, sp_X10_site_26, sp_X10_site_49, sp_X10_isShip, sp_X10_isMean, e10, e14, m7, m10, a1, b1, or_true, true_or, or_false, false_or, b1s, b2s, sls, bxl, bxr, i10, i00, i11, i01, ite_T, ite_F, fl1, fl0, th_th, th_k1, th_k2, th_k3, th_k4, th_k5, th_k6, th_k7, th_k8, th_k9, th_k10, th_k11, th_k12, th_k13, th_k14, th_k15, th_k16, th_k17, th_0_5, th_0_6, th_0_7, th_0_10, th_0_18, th_0_19, th_0_21, th_0_22, th_0_24, th_0_26, th_0_27]
  replace l1 : (0 : Int) ≤ p1.toInt := l1
  replace u1 : p1.toInt ≤ (100000 : Int) := u1
  rcases nrg p2 0 100000 with ⟨l2, u2, a2, b2⟩ | ⟨a2, b2⟩
  rotate_left
  · have _ := a2
    refine ⟨_, e3_ex (fun s w m => (σ, τ, ν, s, π, w, m)) (k := 2) (c := 1) (v := 0) (μ' := th μ 1) ?_ rfl ?_ rfl (by decide), nS, nM, hr, h.th⟩
    · simp only [sp_X9_site, sp_X3_addSite, sp_X9_needWater, sp_X9_needShore, sp_X9_needSort, sp_X9_needRoomForMeans, e10, e14, m7, m10, a1, b1, a2, b2, or_true, true_or, or_false, false_or, b1s, b2s, sls, bxl, bxr, i10, i00, i11, i01, ite_T, ite_F, fl1, fl0, th_th, th_k1, th_k2, th_k3, th_k4, th_k5, th_k6, th_k7, th_k8, th_k9, th_k10, th_k11, th_k12, th_k13, th_k14, th_k15, th_k16, th_k17, th_0_5, th_0_6, th_0_7, th_0_10, th_0_18, th_0_19, th_0_21, th_0_22, th_0_24, th_0_26, th_0_27]
    · simp only [sp_X10_site, sp_X10_site_25, sp_X10_site_26, sp_X10_site_49, sp_X10_isShip, sp_X10_isMean, e10, e14, m7, m10, a1, b1, a2, b2, or_true, true_or, or_false, false_or, b1s, b2s, sls, bxl, bxr, i10, i00, i11, i01, ite_T, ite_F, fl1, fl0, th_th, th_k1, th_k2, th_k3, th_k4, th_k5, th_k6, th_k7, th_k8, th_k9, th_k10, th_k11, th_k12, th_k13, th_k14, th_k15, th_k16, th_k17, th_0_5, th_0_6, th_0_7, th_0_10, th_0_18, th_0_19, th_0_21, th_0_22, th_0_24, th_0_26, th_0_27]
  replace l2 : (0 : Int) ≤ p2.toInt := l2
  replace u2 : p2.toInt ≤ (100000 : Int) := u2
  obtain ⟨⟨n, hn, d1, d1'⟩, d2, d3, d4⟩ := h.2.2.2.2.2.2.2.2.2.1
  by_cases g3 : ι n < 3
  rotate_left
  · have _ := 0
    have y3 : 3 ≤ ι n := by rw [Int32.lt_iff_toInt_lt] at g3; rw [Int32.le_iff_toInt_le]; omega
    refine ⟨_, e3_ex (fun s w m => (σ, τ, ν, s, π, w, m)) (k := 3) (c := 2) (v := 0) (μ' := th μ 2) ?_ rfl ?_ rfl (by decide), nS, nM, hr, h.th⟩
    · simp only [sp_X9_site, sp_X3_addSite, sp_X9_needWater, sp_X9_needShore, sp_X9_needSort, sp_X9_needRoomForMeans, e10, e14, m7, m10, a1, b1, a2, b2, d1, d1', g3, y3, or_true, true_or, or_false, false_or, b1s, b2s, sls, bxl, bxr, i10, i00, i11, i01, ite_T, ite_F, fl1, fl0, th_th, th_k1, th_k2, th_k3, th_k4, th_k5, th_k6, th_k7, th_k8, th_k9, th_k10, th_k11, th_k12, th_k13, th_k14, th_k15, th_k16, th_k17, th_0_5, th_0_6, th_0_7, th_0_10, th_0_18, th_0_19, th_0_21, th_0_22, th_0_24, th_0_26, th_0_27]
    · simp only [sp_X10_site, sp_X10_site_25, sp_X10_site_26, sp_X10_site_49, sp_X10_isShip, sp_X10_isMean, e10, e14, m7, m10, a1, b1, a2, b2, d1, d1', g3, y3, or_true, true_or, or_false, false_or, b1s, b2s, sls, bxl, bxr, i10, i00, i11, i01, ite_T, ite_F, fl1, fl0, th_th, th_k1, th_k2, th_k3, th_k4, th_k5, th_k6, th_k7, th_k8, th_k9, th_k10, th_k11, th_k12, th_k13, th_k14, th_k15, th_k16, th_k17, th_0_5, th_0_6, th_0_7, th_0_10, th_0_18, th_0_19, th_0_21, th_0_22, th_0_24, th_0_26, th_0_27]
  have y3 : ¬ 3 ≤ ι n := by rw [Int32.lt_iff_toInt_lt] at g3; rw [Int32.le_iff_toInt_le]; omega
  have n3 : n < 3 := by rw [Int32.lt_iff_toInt_lt, ι_toInt (by omega)] at g3; have z : (3 : Int32).toInt = 3 := rfl; omega
  have s1 : ι n + 1 = ι (n + 1) := ι_one n
  have s2 : ι (n + 1) - 1 = ι n := by rw [← ι_one]; exact Int32.add_sub_cancel _ _
  have s3 : ι n * 2 + 0 = ι (2 * n) := (by decide : ∀ n, n < 3 → ι n * 2 + 0 = ι (2 * n)) n n3
  have s4 : ι n * 2 + 1 = ι (2 * n + 1) := (by decide : ∀ n, n < 3 → ι n * 2 + 1 = ι (2 * n + 1)) n n3
  have s5 : 2 * ι n = ι (2 * n) := (by decide : ∀ n, n < 3 → 2 * ι n = ι (2 * n)) n n3
  have s6 : ι (2 * n) + 1 = ι (2 * n + 1) := ι_one _
  refine ⟨_, e3_ok (fun s w m => (σ, τ, ν, s, π, w, m)) (v := ι n) (a' := stU (stU (stU δ 2 (2 * n) p1) 2 (2 * n + 1) p2) 0 0 (ι (n + 1))) (μ' := stU (stU (stU (th μ 0) 16 (2 * n) p1) 16 (2 * n + 1) p2) 0 22 (ι (n + 1))) ?_ ?_ rfl, nS, nM, hr, ?_⟩
  · simp only [sp_X9_site, sp_X3_addSite, sp_X9_needWater, sp_X9_needShore, sp_X9_needSort, sp_X9_needRoomForMeans, e10, e14, m7, m10, a1, b1, a2, b2, d1, d1', y3, g3, s1, s2, s3, s4, s5, s6, ι_nat (show 2 * n < 100000 by omega), ι_nat (show 2 * n + 1 < 100000 by omega), ix2 (show 2 * n < 6 by omega) (show 6 < 100000 by omega), ix2 (show 2 * n + 1 < 6 by omega) (show 6 < 100000 by omega), stU_k (k := 2) (k2 := 0) (by decide), stU_k (k := 16) (k2 := 0) (by decide), stU_same, or_true, true_or, or_false, false_or, b1s, b2s, sls, bxl, bxr, i10, i00, i11, i01, ite_T, ite_F, fl1, fl0, th_th, th_k1, th_k2, th_k3, th_k4, th_k5, th_k6, th_k7, th_k8, th_k9, th_k10, th_k11, th_k12, th_k13, th_k14, th_k15, th_k16, th_k17, th_0_5, th_0_6, th_0_7, th_0_10, th_0_18, th_0_19, th_0_21, th_0_22, th_0_24, th_0_26, th_0_27]
  · simp only [sp_X10_site, sp_X10_site_25, sp_X10_site_26, sp_X10_site_49, sp_X10_isShip, sp_X10_isMean, e10, e14, m7, m10, a1, b1, a2, b2, d1, d1', y3, g3, s1, s2, s3, s4, s5, s6, ι_nat (show 2 * n < 100000 by omega), ι_nat (show 2 * n + 1 < 100000 by omega), ix2 (show 2 * n < 6 by omega) (show 6 < 100000 by omega), ix2 (show 2 * n + 1 < 6 by omega) (show 6 < 100000 by omega), stU_k (k := 2) (k2 := 0) (by decide), stU_k (k := 16) (k2 := 0) (by decide), stU_same, or_true, true_or, or_false, false_or, b1s, b2s, sls, bxl, bxr, i10, i00, i11, i01, ite_T, ite_F, fl1, fl0, th_th, th_k1, th_k2, th_k3, th_k4, th_k5, th_k6, th_k7, th_k8, th_k9, th_k10, th_k11, th_k12, th_k13, th_k14, th_k15, th_k16, th_k17, th_0_5, th_0_6, th_0_7, th_0_10, th_0_18, th_0_19, th_0_21, th_0_22, th_0_24, th_0_26, th_0_27]
  · exact u_site h.th n3
theorem c_deliver {nS nM hr : Nat} {σ δ μ : St} {π : St × Int64} (h : RR nS nM hr σ δ π μ) (p1 p2 p3 : Int32) (τ : St) (ν : Nat → Int32) (ω : Nat → Int64) : ∃ z9, st_23 p1 p2 p3 σ τ ν δ π ω μ = some z9 ∧ Rel z9 := by
  have hR := h.1.1
  have hnS : nS ≤ 4 := h.1.2.2.1.2.1.1
  have hnM : nM ≤ 20 := h.1.2.2.1.2.2.1.1
  have e10 : σ 10 0 = ι nS := h.1.2.2.1.2.1.2
  have e14 : σ 14 0 = ι nM := h.1.2.2.1.2.2.1.2
  have m7 : μ 0 7 = ι nS := (hR 10 0 rfl).symm.trans e10
  have m10 : μ 0 10 = ι nM := (hR 14 0 rfl).symm.trans e14
  obtain ⟨⟨n, hn, d1, d1'⟩, d2, d3, d4⟩ := h.2.2.2.2.2.2.2.2.2.1
  rcases nnN p1 (n := n) (by omega) with ⟨t, ht, rfl, a1, b1⟩ | ⟨a1, b1⟩
  rotate_left
  · have _ := a1
    refine ⟨_, e3_ex (fun s w m => (σ, τ, ν, s, π, w, m)) (k := 1) (c := 1) (v := 0) (μ' := th μ 1) ?_ rfl ?_ rfl (by decide), nS, nM, hr, h.th⟩
    · simp only [sp_X9_deliver, sp_X9_deliver_50, sp_X3_roomFor, sp_X3_take, sp_X9_needWater, sp_X9_needShore, sp_X9_needSort, sp_X9_needRoomForMeans, e10, e14, m7, m10, d1, d1', a1, b1, or_true, true_or, or_false, false_or, b1s, b2s, sls, bxl, bxr, i10, i00, i11, i01, ite_T, ite_F, fl1, fl0, th_th, th_k1, th_k2, th_k3, th_k4, th_k5, th_k6, th_k7, th_k8, th_k9, th_k10, th_k11, th_k12, th_k13, th_k14, th_k15, th_k16, th_k17, th_0_5, th_0_6, th_0_7, th_0_10, th_0_18, th_0_19, th_0_21, th_0_22, th_0_24, th_0_26, th_0_27]
    · simp only [sp_X10_deliver, sp_X10_deliver_45, sp_X10_deliver_46, sp_X10_deliver_84, sp_X10_deliver_85, sp_X10_isShip, sp_X10_isMean, e10, e14, m7, m10, d1, d1', a1, b1, or_true, true_or, or_false, false_or, b1s, b2s, sls, bxl, bxr, i10, i00, i11, i01, ite_T, ite_F, fl1, fl0, th_th, th_k1, th_k2, th_k3, th_k4, th_k5, th_k6, th_k7, th_k8, th_k9, th_k10, th_k11, th_k12, th_k13, th_k14, th_k15, th_k16, th_k17, th_0_5, th_0_6, th_0_7, th_0_10, th_0_18, th_0_19, th_0_21, th_0_22, th_0_24, th_0_26, th_0_27]
  rcases nrg p2 0 1 with ⟨l2, u2, a2, b2⟩ | ⟨a2, b2⟩
  rotate_left
  · have _ := a2
    refine ⟨_, e3_ex (fun s w m => (σ, τ, ν, s, π, w, m)) (k := 2) (c := 2) (v := 0) (μ' := th μ 2) ?_ rfl ?_ rfl (by decide), nS, nM, hr, h.th⟩
    · simp only [sp_X9_deliver, sp_X9_deliver_50, sp_X3_roomFor, sp_X3_take, sp_X9_needWater, sp_X9_needShore, sp_X9_needSort, sp_X9_needRoomForMeans, e10, e14, m7, m10, d1, d1', a1, b1, ι_nat (show t < 100000 by omega), ix2 (show t < 3 by omega) (show 3 < 100000 by omega), a2, b2, or_true, true_or, or_false, false_or, b1s, b2s, sls, bxl, bxr, i10, i00, i11, i01, ite_T, ite_F, fl1, fl0, th_th, th_k1, th_k2, th_k3, th_k4, th_k5, th_k6, th_k7, th_k8, th_k9, th_k10, th_k11, th_k12, th_k13, th_k14, th_k15, th_k16, th_k17, th_0_5, th_0_6, th_0_7, th_0_10, th_0_18, th_0_19, th_0_21, th_0_22, th_0_24, th_0_26, th_0_27]
    · simp only [sp_X10_deliver, sp_X10_deliver_45, sp_X10_deliver_46, sp_X10_deliver_84, sp_X10_deliver_85, sp_X10_isShip, sp_X10_isMean, e10, e14, m7, m10, d1, d1', a1, b1, ι_nat (show t < 100000 by omega), ix2 (show t < 3 by omega) (show 3 < 100000 by omega), a2, b2, or_true, true_or, or_false, false_or, b1s, b2s, sls, bxl, bxr, i10, i00, i11, i01, ite_T, ite_F, fl1, fl0, th_th, th_k1, th_k2, th_k3, th_k4, th_k5, th_k6, th_k7, th_k8, th_k9, th_k10, th_k11, th_k12, th_k13, th_k14, th_k15, th_k16, th_k17, th_0_5, th_0_6, th_0_7, th_0_10, th_0_18, th_0_19, th_0_21, th_0_22, th_0_24, th_0_26, th_0_27]
  replace l2 : (0 : Int) ≤ p2.toInt := l2
  replace u2 : p2.toInt ≤ (1 : Int) := u2
  rcases nrg p3 1 100000 with ⟨l3, u3, a3, b3⟩ | ⟨a3, b3⟩
  rotate_left
  · have _ := a3
    refine ⟨_, e3_ex (fun s w m => (σ, τ, ν, s, π, w, m)) (k := 2) (c := 2) (v := 0) (μ' := th μ 2) ?_ rfl ?_ rfl (by decide), nS, nM, hr, h.th⟩
    · simp only [sp_X9_deliver, sp_X9_deliver_50, sp_X3_roomFor, sp_X3_take, sp_X9_needWater, sp_X9_needShore, sp_X9_needSort, sp_X9_needRoomForMeans, e10, e14, m7, m10, d1, d1', a1, b1, ι_nat (show t < 100000 by omega), ix2 (show t < 3 by omega) (show 3 < 100000 by omega), a2, b2, a3, b3, or_true, true_or, or_false, false_or, b1s, b2s, sls, bxl, bxr, i10, i00, i11, i01, ite_T, ite_F, fl1, fl0, th_th, th_k1, th_k2, th_k3, th_k4, th_k5, th_k6, th_k7, th_k8, th_k9, th_k10, th_k11, th_k12, th_k13, th_k14, th_k15, th_k16, th_k17, th_0_5, th_0_6, th_0_7, th_0_10, th_0_18, th_0_19, th_0_21, th_0_22, th_0_24, th_0_26, th_0_27]
    · simp only [sp_X10_deliver, sp_X10_deliver_45, sp_X10_deliver_46, sp_X10_deliver_84, sp_X10_deliver_85, sp_X10_isShip, sp_X10_isMean, e10, e14, m7, m10, d1, d1', a1, b1, ι_nat (show t < 100000 by omega), ix2 (show t < 3 by omega) (show 3 < 100000 by omega), a2, b2, a3, b3, or_true, true_or, or_false, false_or, b1s, b2s, sls, bxl, bxr, i10, i00, i11, i01, ite_T, ite_F, fl1, fl0, th_th, th_k1, th_k2, th_k3, th_k4, th_k5, th_k6, th_k7, th_k8, th_k9, th_k10, th_k11, th_k12, th_k13, th_k14, th_k15, th_k16, th_k17, th_0_5, th_0_6, th_0_7, th_0_10, th_0_18, th_0_19, th_0_21, th_0_22, th_0_24, th_0_26, th_0_27]
  replace l3 : (1 : Int) ≤ p3.toInt := l3
  replace u3 : p3.toInt ≤ (100000 : Int) := u3
  obtain ⟨j, hj, rfl⟩ := nat_of l2 u2
  have hj2 : j < 2 := by omega
  have s3 : ι t * 2 + ι j = ι (2 * t + j) := (by decide : ∀ t, t < 3 → ∀ j, j < 2 → ι t * 2 + ι j = ι (2 * t + j)) t (by omega) j hj2
  have s4 : 2 * ι t + ι j = ι (2 * t + j) := (by decide : ∀ t, t < 3 → ∀ j, j < 2 → 2 * ι t + ι j = ι (2 * t + j)) t (by omega) j hj2
  have q1 : μ 15 j = δ 1 j := (d3 j hj2).symm
  have q2 : μ 16 (2 * t + j) = δ 2 (2 * t + j) := (d4 _ (by omega)).symm
  have q3 : μ 0 21 = δ 0 3 := d2.symm
  by_cases g4 : δ 1 j < p3
  · have _ := 0
    refine ⟨_, e3_ex (fun s w m => (σ, τ, ν, s, π, w, m)) (k := 3) (c := 3) (v := 0) (μ' := th μ 3) ?_ rfl ?_ rfl (by decide), nS, nM, hr, h.th⟩
    · simp only [sp_X9_deliver, sp_X9_deliver_50, sp_X3_roomFor, sp_X3_take, sp_X9_needWater, sp_X9_needShore, sp_X9_needSort, sp_X9_needRoomForMeans, e10, e14, m7, m10, d1, d1', a1, b1, ι_nat (show t < 100000 by omega), ix2 (show t < 3 by omega) (show 3 < 100000 by omega), a2, b2, a3, b3, ι_nat (show j < 100000 by omega), ix2 hj2 (show 2 < 100000 by omega), s3, s4, ι_nat (show 2 * t + j < 100000 by omega), ix2 (show 2 * t + j < 6 by omega) (show 6 < 100000 by omega), q1, q2, q3, g4, or_true, true_or, or_false, false_or, b1s, b2s, sls, bxl, bxr, i10, i00, i11, i01, ite_T, ite_F, fl1, fl0, th_th, th_k1, th_k2, th_k3, th_k4, th_k5, th_k6, th_k7, th_k8, th_k9, th_k10, th_k11, th_k12, th_k13, th_k14, th_k15, th_k16, th_k17, th_0_5, th_0_6, th_0_7, th_0_10, th_0_18, th_0_19, th_0_21, th_0_22, th_0_24, th_0_26, th_0_27]
    · simp only [sp_X10_deliver, sp_X10_deliver_45, sp_X10_deliver_46, sp_X10_deliver_84, sp_X10_deliver_85, sp_X10_isShip, sp_X10_isMean, e10, e14, m7, m10, d1, d1', a1, b1, ι_nat (show t < 100000 by omega), ix2 (show t < 3 by omega) (show 3 < 100000 by omega), a2, b2, a3, b3, ι_nat (show j < 100000 by omega), ix2 hj2 (show 2 < 100000 by omega), s3, s4, ι_nat (show 2 * t + j < 100000 by omega), ix2 (show 2 * t + j < 6 by omega) (show 6 < 100000 by omega), q1, q2, q3, g4, or_true, true_or, or_false, false_or, b1s, b2s, sls, bxl, bxr, i10, i00, i11, i01, ite_T, ite_F, fl1, fl0, th_th, th_k1, th_k2, th_k3, th_k4, th_k5, th_k6, th_k7, th_k8, th_k9, th_k10, th_k11, th_k12, th_k13, th_k14, th_k15, th_k16, th_k17, th_0_5, th_0_6, th_0_7, th_0_10, th_0_18, th_0_19, th_0_21, th_0_22, th_0_24, th_0_26, th_0_27]
  by_cases g5 : p3 ≤ δ 2 (2 * t + j)
  rotate_left
  · have _ := 0
    have y5 : δ 2 (2 * t + j) < p3 := by rw [Int32.le_iff_toInt_le] at g5; rw [Int32.lt_iff_toInt_lt]; omega
    refine ⟨_, e3_ex (fun s w m => (σ, τ, ν, s, π, w, m)) (k := 3) (c := 3) (v := 0) (μ' := th μ 3) ?_ rfl ?_ rfl (by decide), nS, nM, hr, h.th⟩
    · simp only [sp_X9_deliver, sp_X9_deliver_50, sp_X3_roomFor, sp_X3_take, sp_X9_needWater, sp_X9_needShore, sp_X9_needSort, sp_X9_needRoomForMeans, e10, e14, m7, m10, d1, d1', a1, b1, ι_nat (show t < 100000 by omega), ix2 (show t < 3 by omega) (show 3 < 100000 by omega), a2, b2, a3, b3, ι_nat (show j < 100000 by omega), ix2 hj2 (show 2 < 100000 by omega), s3, s4, ι_nat (show 2 * t + j < 100000 by omega), ix2 (show 2 * t + j < 6 by omega) (show 6 < 100000 by omega), q1, q2, q3, g4, g5, y5, or_true, true_or, or_false, false_or, b1s, b2s, sls, bxl, bxr, i10, i00, i11, i01, ite_T, ite_F, fl1, fl0, th_th, th_k1, th_k2, th_k3, th_k4, th_k5, th_k6, th_k7, th_k8, th_k9, th_k10, th_k11, th_k12, th_k13, th_k14, th_k15, th_k16, th_k17, th_0_5, th_0_6, th_0_7, th_0_10, th_0_18, th_0_19, th_0_21, th_0_22, th_0_24, th_0_26, th_0_27]
    · simp only [sp_X10_deliver, sp_X10_deliver_45, sp_X10_deliver_46, sp_X10_deliver_84, sp_X10_deliver_85, sp_X10_isShip, sp_X10_isMean, e10, e14, m7, m10, d1, d1', a1, b1, ι_nat (show t < 100000 by omega), ix2 (show t < 3 by omega) (show 3 < 100000 by omega), a2, b2, a3, b3, ι_nat (show j < 100000 by omega), ix2 hj2 (show 2 < 100000 by omega), s3, s4, ι_nat (show 2 * t + j < 100000 by omega), ix2 (show 2 * t + j < 6 by omega) (show 6 < 100000 by omega), q1, q2, q3, g4, g5, y5, or_true, true_or, or_false, false_or, b1s, b2s, sls, bxl, bxr, i10, i00, i11, i01, ite_T, ite_F, fl1, fl0, th_th, th_k1, th_k2, th_k3, th_k4, th_k5, th_k6, th_k7, th_k8, th_k9, th_k10, th_k11, th_k12, th_k13, th_k14, th_k15, th_k16, th_k17, th_0_5, th_0_6, th_0_7, th_0_10, th_0_18, th_0_19, th_0_21, th_0_22, th_0_24, th_0_26, th_0_27]
  have y5 : ¬ δ 2 (2 * t + j) < p3 := by rw [Int32.le_iff_toInt_le] at g5; rw [Int32.lt_iff_toInt_lt]; omega
  refine ⟨_, e3_ok (fun s w m => (σ, τ, ν, s, π, w, m)) (v := δ 2 (2 * t + j) - p3) (a' := stU (stU (stU δ 1 j (δ 1 j - p3)) 2 (2 * t + j) (δ 2 (2 * t + j) - p3)) 0 3 (δ 0 3 + p3)) (μ' := stU (stU (stU (th μ 0) 15 j (δ 1 j - p3)) 0 21 (δ 0 3 + p3)) 16 (2 * t + j) (δ 2 (2 * t + j) - p3)) ?_ ?_ rfl, nS, nM, hr, ?_⟩
  · simp only [sp_X9_deliver, sp_X9_deliver_50, sp_X3_roomFor, sp_X3_take, sp_X9_needWater, sp_X9_needShore, sp_X9_needSort, sp_X9_needRoomForMeans, e10, e14, m7, m10, d1, d1', a1, b1, ι_nat (show t < 100000 by omega), ix2 (show t < 3 by omega) (show 3 < 100000 by omega), a2, b2, a3, b3, ι_nat (show j < 100000 by omega), ix2 hj2 (show 2 < 100000 by omega), s3, s4, ι_nat (show 2 * t + j < 100000 by omega), ix2 (show 2 * t + j < 6 by omega) (show 6 < 100000 by omega), q1, q2, q3, g4, y5, g5, stU_same, stU_k (k := 1) (k2 := 2) (by decide), stU_k (k := 2) (k2 := 0) (by decide), stU_k (k := 1) (k2 := 0) (by decide), stU_k (k := 0) (k2 := 2) (by decide), stU_k (k := 15) (k2 := 0) (by decide), stU_k (k := 15) (k2 := 16) (by decide), stU_k (k := 0) (k2 := 16) (by decide), or_true, true_or, or_false, false_or, b1s, b2s, sls, bxl, bxr, i10, i00, i11, i01, ite_T, ite_F, fl1, fl0, th_th, th_k1, th_k2, th_k3, th_k4, th_k5, th_k6, th_k7, th_k8, th_k9, th_k10, th_k11, th_k12, th_k13, th_k14, th_k15, th_k16, th_k17, th_0_5, th_0_6, th_0_7, th_0_10, th_0_18, th_0_19, th_0_21, th_0_22, th_0_24, th_0_26, th_0_27]
  · simp only [sp_X10_deliver, sp_X10_deliver_45, sp_X10_deliver_46, sp_X10_deliver_84, sp_X10_deliver_85, sp_X10_isShip, sp_X10_isMean, e10, e14, m7, m10, d1, d1', a1, b1, ι_nat (show t < 100000 by omega), ix2 (show t < 3 by omega) (show 3 < 100000 by omega), a2, b2, a3, b3, ι_nat (show j < 100000 by omega), ix2 hj2 (show 2 < 100000 by omega), s3, s4, ι_nat (show 2 * t + j < 100000 by omega), ix2 (show 2 * t + j < 6 by omega) (show 6 < 100000 by omega), q1, q2, q3, g4, y5, g5, stU_same, stU_k (k := 1) (k2 := 2) (by decide), stU_k (k := 2) (k2 := 0) (by decide), stU_k (k := 1) (k2 := 0) (by decide), stU_k (k := 0) (k2 := 2) (by decide), stU_k (k := 15) (k2 := 0) (by decide), stU_k (k := 15) (k2 := 16) (by decide), stU_k (k := 0) (k2 := 16) (by decide), or_true, true_or, or_false, false_or, b1s, b2s, sls, bxl, bxr, i10, i00, i11, i01, ite_T, ite_F, fl1, fl0, th_th, th_k1, th_k2, th_k3, th_k4, th_k5, th_k6, th_k7, th_k8, th_k9, th_k10, th_k11, th_k12, th_k13, th_k14, th_k15, th_k16, th_k17, th_0_5, th_0_6, th_0_7, th_0_10, th_0_18, th_0_19, th_0_21, th_0_22, th_0_24, th_0_26, th_0_27]
  · exact by have := u_deliver (h.th (x := 0)) hj2 (show 2 * t + j < 6 by omega) (x := p3); rw [show (th μ 0) 15 j = δ 1 j from q1, show (th μ 0) 16 (2 * t + j) = δ 2 (2 * t + j) from q2, show (th μ 0) 0 21 = δ 0 3 from q3] at this; exact this
theorem c_waste {nS nM hr : Nat} {σ δ μ : St} {π : St × Int64} (h : RR nS nM hr σ δ π μ) (p1 : Int32) (τ : St) (ν : Nat → Int32) (ω : Nat → Int64) : ∃ z9, st_24 p1 σ τ ν δ π ω μ = some z9 ∧ Rel z9 := by
  have hR := h.1.1
  have hnS : nS ≤ 4 := h.1.2.2.1.2.1.1
  have hnM : nM ≤ 20 := h.1.2.2.1.2.2.1.1
  have e10 : σ 10 0 = ι nS := h.1.2.2.1.2.1.2
  have e14 : σ 14 0 = ι nM := h.1.2.2.1.2.2.1.2
  have m7 : μ 0 7 = ι nS := (hR 10 0 rfl).symm.trans e10
  have m10 : μ 0 10 = ι nM := (hR 14 0 rfl).symm.trans e14
  rcases nrg p1 0 1 with ⟨l1, u1, a1, b1⟩ | ⟨a1, b1⟩
  rotate_left
  · have _ := a1
    refine ⟨_, e2_ex (fun w m => (σ, τ, ν, δ, π, w, m)) (k := 2) (c := 1) (v := 0) (μ' := th μ 1) ?_ rfl ?_ rfl (by decide), nS, nM, hr, h.th⟩
    · simp only [sp_X9_waste, sp_X9_needWater, sp_X9_needShore, sp_X9_needSort, sp_X9_needRoomForMeans, e10, e14, m7, m10, a1, b1, or_true, true_or, or_false, false_or, b1s, b2s, sls, bxl, bxr, i10, i00, i11, i01, ite_T, ite_F, fl1, fl0, th_th, th_k1, th_k2, th_k3, th_k4, th_k5, th_k6, th_k7, th_k8, th_k9, th_k10, th_k11, th_k12, th_k13, th_k14, th_k15, th_k16, th_k17, th_0_5, th_0_6, th_0_7, th_0_10, th_0_18, th_0_19, th_0_21, th_0_22, th_0_24, th_0_26, th_0_27]
    · simp only [sp_X10_waste, sp_X10_isShip, sp_X10_isMean, e10, e14, m7, m10, a1, b1, or_true, true_or, or_false, false_or, b1s, b2s, sls, bxl, bxr, i10, i00, i11, i01, ite_T, ite_F, fl1, fl0, th_th, th_k1, th_k2, th_k3, th_k4, th_k5, th_k6, th_k7, th_k8, th_k9, th_k10, th_k11, th_k12, th_k13, th_k14, th_k15, th_k16, th_k17, th_0_5, th_0_6, th_0_7, th_0_10, th_0_18, th_0_19, th_0_21, th_0_22, th_0_24, th_0_26, th_0_27]
  replace l1 : (0 : Int) ≤ p1.toInt := l1
  replace u1 : p1.toInt ≤ (1 : Int) := u1
  obtain ⟨j, hj, rfl⟩ := nat_of l1 u1
  have hj2 : j < 2 := by omega
  obtain ⟨d1, d2, d3, d4⟩ := h.2.2.2.2.2.2.2.2.2.1
  have q1 : μ 15 j = δ 1 j := (d3 j hj2).symm
  refine ⟨_, e2_ok (fun w m => (σ, τ, ν, δ, π, w, m)) (v := δ 1 j) (μ' := th μ 0) ?_ ?_ rfl, nS, nM, hr, ?_⟩
  · simp only [sp_X9_waste, sp_X9_needWater, sp_X9_needShore, sp_X9_needSort, sp_X9_needRoomForMeans, e10, e14, m7, m10, a1, b1, ι_nat (show j < 100000 by omega), ix2 hj2 (show 2 < 100000 by omega), q1, or_true, true_or, or_false, false_or, b1s, b2s, sls, bxl, bxr, i10, i00, i11, i01, ite_T, ite_F, fl1, fl0, th_th, th_k1, th_k2, th_k3, th_k4, th_k5, th_k6, th_k7, th_k8, th_k9, th_k10, th_k11, th_k12, th_k13, th_k14, th_k15, th_k16, th_k17, th_0_5, th_0_6, th_0_7, th_0_10, th_0_18, th_0_19, th_0_21, th_0_22, th_0_24, th_0_26, th_0_27]
  · simp only [sp_X10_waste, sp_X10_isShip, sp_X10_isMean, e10, e14, m7, m10, a1, b1, ι_nat (show j < 100000 by omega), ix2 hj2 (show 2 < 100000 by omega), q1, or_true, true_or, or_false, false_or, b1s, b2s, sls, bxl, bxr, i10, i00, i11, i01, ite_T, ite_F, fl1, fl0, th_th, th_k1, th_k2, th_k3, th_k4, th_k5, th_k6, th_k7, th_k8, th_k9, th_k10, th_k11, th_k12, th_k13, th_k14, th_k15, th_k16, th_k17, th_0_5, th_0_6, th_0_7, th_0_10, th_0_18, th_0_19, th_0_21, th_0_22, th_0_24, th_0_26, th_0_27]
  · exact h.th
theorem c_claim {nS nM hr : Nat} {σ δ μ : St} {π : St × Int64} (h : RR nS nM hr σ δ π μ) (p1 : Int32) (τ : St) (ν : Nat → Int32) (ω : Nat → Int64) : ∃ z9, st_25 p1 σ τ ν δ π ω μ = some z9 ∧ Rel z9 := by
  have hR := h.1.1
  have hnS : nS ≤ 4 := h.1.2.2.1.2.1.1
  have hnM : nM ≤ 20 := h.1.2.2.1.2.2.1.1
  have e10 : σ 10 0 = ι nS := h.1.2.2.1.2.1.2
  have e14 : σ 14 0 = ι nM := h.1.2.2.1.2.2.1.2
  have m7 : μ 0 7 = ι nS := (hR 10 0 rfl).symm.trans e10
  have m10 : μ 0 10 = ι nM := (hR 14 0 rfl).symm.trans e14
  rcases nrg p1 1 1000000 with ⟨l1, u1, a1, b1⟩ | ⟨a1, b1⟩
  rotate_left
  · have _ := a1
    refine ⟨_, e3_ex (fun s w m => (σ, τ, ν, δ, s, w, m)) (k := 2) (c := 1) (v := 0) (μ' := th μ 1) ?_ rfl ?_ rfl (by decide), nS, nM, hr, h.th⟩
    · simp only [sp_X9_claim, sp_X6_add, sp_X9_needWater, sp_X9_needShore, sp_X9_needSort, sp_X9_needRoomForMeans, e10, e14, m7, m10, a1, b1, or_true, true_or, or_false, false_or, b1s, b2s, sls, bxl, bxr, i10, i00, i11, i01, ite_T, ite_F, fl1, fl0, th_th, th_k1, th_k2, th_k3, th_k4, th_k5, th_k6, th_k7, th_k8, th_k9, th_k10, th_k11, th_k12, th_k13, th_k14, th_k15, th_k16, th_k17, th_0_5, th_0_6, th_0_7, th_0_10, th_0_18, th_0_19, th_0_21, th_0_22, th_0_24, th_0_26, th_0_27]
    · simp only [sp_X10_claim, sp_X10_claim_32, sp_X10_isShip, sp_X10_isMean, e10, e14, m7, m10, a1, b1, or_true, true_or, or_false, false_or, b1s, b2s, sls, bxl, bxr, i10, i00, i11, i01, ite_T, ite_F, fl1, fl0, th_th, th_k1, th_k2, th_k3, th_k4, th_k5, th_k6, th_k7, th_k8, th_k9, th_k10, th_k11, th_k12, th_k13, th_k14, th_k15, th_k16, th_k17, th_0_5, th_0_6, th_0_7, th_0_10, th_0_18, th_0_19, th_0_21, th_0_22, th_0_24, th_0_26, th_0_27]
  replace l1 : (1 : Int) ≤ p1.toInt := l1
  replace u1 : p1.toInt ≤ (1000000 : Int) := u1
  obtain ⟨n, hn, d1, d1', dq⟩ := h.2.2.2.2.2.2.2.2.2.2
  by_cases g2 : ι n < 20
  rotate_left
  · have _ := 0
    have y2 : 20 ≤ ι n := by rw [Int32.lt_iff_toInt_lt] at g2; rw [Int32.le_iff_toInt_le]; omega
    refine ⟨_, e3_ex (fun s w m => (σ, τ, ν, δ, s, w, m)) (k := 3) (c := 2) (v := 0) (μ' := th μ 2) ?_ rfl ?_ rfl (by decide), nS, nM, hr, h.th⟩
    · simp only [sp_X9_claim, sp_X6_add, sp_X9_needWater, sp_X9_needShore, sp_X9_needSort, sp_X9_needRoomForMeans, e10, e14, m7, m10, a1, b1, d1, d1', g2, y2, or_true, true_or, or_false, false_or, b1s, b2s, sls, bxl, bxr, i10, i00, i11, i01, ite_T, ite_F, fl1, fl0, th_th, th_k1, th_k2, th_k3, th_k4, th_k5, th_k6, th_k7, th_k8, th_k9, th_k10, th_k11, th_k12, th_k13, th_k14, th_k15, th_k16, th_k17, th_0_5, th_0_6, th_0_7, th_0_10, th_0_18, th_0_19, th_0_21, th_0_22, th_0_24, th_0_26, th_0_27]
    · simp only [sp_X10_claim, sp_X10_claim_32, sp_X10_isShip, sp_X10_isMean, e10, e14, m7, m10, a1, b1, d1, d1', g2, y2, or_true, true_or, or_false, false_or, b1s, b2s, sls, bxl, bxr, i10, i00, i11, i01, ite_T, ite_F, fl1, fl0, th_th, th_k1, th_k2, th_k3, th_k4, th_k5, th_k6, th_k7, th_k8, th_k9, th_k10, th_k11, th_k12, th_k13, th_k14, th_k15, th_k16, th_k17, th_0_5, th_0_6, th_0_7, th_0_10, th_0_18, th_0_19, th_0_21, th_0_22, th_0_24, th_0_26, th_0_27]
  have y2 : ¬ 20 ≤ ι n := by rw [Int32.lt_iff_toInt_lt] at g2; rw [Int32.le_iff_toInt_le]; omega
  have n3 : n < 20 := by rw [Int32.lt_iff_toInt_lt, ι_toInt (by omega)] at g2; have z : (20 : Int32).toInt = 20 := rfl; omega
  have s1 : ι n + 1 = ι (n + 1) := ι_one n
  have s2 : ι (n + 1) - 1 = ι n := by rw [← ι_one]; exact Int32.add_sub_cancel _ _
  refine ⟨_, e3_ok (fun s w m => (σ, τ, ν, δ, s, w, m)) (v := ι n) (a' := (stU (stU π.1 1 n p1) 0 0 (ι (n + 1)), π.2 + p1.toInt64)) (μ' := stU (stU (th μ 0) 17 n p1) 0 24 (ι (n + 1))) ?_ ?_ rfl, nS, nM, hr, ?_⟩
  · simp only [sp_X9_claim, sp_X6_add, sp_X9_needWater, sp_X9_needShore, sp_X9_needSort, sp_X9_needRoomForMeans, e10, e14, m7, m10, a1, b1, d1, d1', y2, g2, s1, s2, ι_nat (show n < 100000 by omega), ix2 n3 (show 20 < 100000 by omega), stU_k (k := 1) (k2 := 0) (by decide), stU_k (k := 17) (k2 := 0) (by decide), stU_same, or_true, true_or, or_false, false_or, b1s, b2s, sls, bxl, bxr, i10, i00, i11, i01, ite_T, ite_F, fl1, fl0, th_th, th_k1, th_k2, th_k3, th_k4, th_k5, th_k6, th_k7, th_k8, th_k9, th_k10, th_k11, th_k12, th_k13, th_k14, th_k15, th_k16, th_k17, th_0_5, th_0_6, th_0_7, th_0_10, th_0_18, th_0_19, th_0_21, th_0_22, th_0_24, th_0_26, th_0_27]
  · simp only [sp_X10_claim, sp_X10_claim_32, sp_X10_isShip, sp_X10_isMean, e10, e14, m7, m10, a1, b1, d1, d1', y2, g2, s1, s2, ι_nat (show n < 100000 by omega), ix2 n3 (show 20 < 100000 by omega), stU_k (k := 1) (k2 := 0) (by decide), stU_k (k := 17) (k2 := 0) (by decide), stU_same, or_true, true_or, or_false, false_or, b1s, b2s, sls, bxl, bxr, i10, i00, i11, i01, ite_T, ite_F, fl1, fl0, th_th, th_k1, th_k2, th_k3, th_k4, th_k5, th_k6, th_k7, th_k8, th_k9, th_k10, th_k11, th_k12, th_k13, th_k14, th_k15, th_k16, th_k17, th_0_5, th_0_6, th_0_7, th_0_10, th_0_18, th_0_19, th_0_21, th_0_22, th_0_24, th_0_26, th_0_27]
  · exact u_claim h.th n3 d1 l1 u1
theorem c_layers {nS nM hr : Nat} {σ δ μ : St} {π : St × Int64} (h : RR nS nM hr σ δ π μ) (p1 p2 : Int32) (τ : St) (ν : Nat → Int32) (ω : Nat → Int64) : ∃ z9, st_26 p1 p2 σ τ ν δ π ω μ = some z9 ∧ Rel z9 := by
  have hR := h.1.1
  have hnS : nS ≤ 4 := h.1.2.2.1.2.1.1
  have hnM : nM ≤ 20 := h.1.2.2.1.2.2.1.1
  have e10 : σ 10 0 = ι nS := h.1.2.2.1.2.1.2
  have e14 : σ 14 0 = ι nM := h.1.2.2.1.2.2.1.2
  have m7 : μ 0 7 = ι nS := (hR 10 0 rfl).symm.trans e10
  have m10 : μ 0 10 = ι nM := (hR 14 0 rfl).symm.trans e14
  rcases nrg p1 0 10000000 with ⟨l1, u1, a1, b1⟩ | ⟨a1, b1⟩
  rotate_left
  · have _ := a1
    refine ⟨_, e3_ex (fun s w m => (σ, τ, ν, δ, s, w, m)) (k := 2) (c := 1) (v := 0) (μ' := th μ 1) ?_ rfl ?_ rfl (by decide), nS, nM, hr, h.th⟩
    · simp only [sp_X9_layers, sp_X9_needWater, sp_X9_needShore, sp_X9_needSort, sp_X9_needRoomForMeans, e10, e14, m7, m10, a1, b1, or_true, true_or, or_false, false_or, b1s, b2s, sls, bxl, bxr, i10, i00, i11, i01, ite_T, ite_F, fl1, fl0, th_th, th_k1, th_k2, th_k3, th_k4, th_k5, th_k6, th_k7, th_k8, th_k9, th_k10, th_k11, th_k12, th_k13, th_k14, th_k15, th_k16, th_k17, th_0_5, th_0_6, th_0_7, th_0_10, th_0_18, th_0_19, th_0_21, th_0_22, th_0_24, th_0_26, th_0_27]
    · simp only [sp_X10_layers, sp_X10_layers_25, sp_X10_layers_26, sp_X10_isShip, sp_X10_isMean, e10, e14, m7, m10, a1, b1, or_true, true_or, or_false, false_or, b1s, b2s, sls, bxl, bxr, i10, i00, i11, i01, ite_T, ite_F, fl1, fl0, th_th, th_k1, th_k2, th_k3, th_k4, th_k5, th_k6, th_k7, th_k8, th_k9, th_k10, th_k11, th_k12, th_k13, th_k14, th_k15, th_k16, th_k17, th_0_5, th_0_6, th_0_7, th_0_10, th_0_18, th_0_19, th_0_21, th_0_22, th_0_24, th_0_26, th_0_27]
  replace l1 : (0 : Int) ≤ p1.toInt := l1
  replace u1 : p1.toInt ≤ (10000000 : Int) := u1
  rcases nrg p2 0 10000000 with ⟨l2, u2, a2, b2⟩ | ⟨a2, b2⟩
  rotate_left
  · have _ := a2
    refine ⟨_, e3_ex (fun s w m => (σ, τ, ν, δ, s, w, m)) (k := 2) (c := 1) (v := 0) (μ' := th μ 1) ?_ rfl ?_ rfl (by decide), nS, nM, hr, h.th⟩
    · simp only [sp_X9_layers, sp_X9_needWater, sp_X9_needShore, sp_X9_needSort, sp_X9_needRoomForMeans, e10, e14, m7, m10, a1, b1, a2, b2, or_true, true_or, or_false, false_or, b1s, b2s, sls, bxl, bxr, i10, i00, i11, i01, ite_T, ite_F, fl1, fl0, th_th, th_k1, th_k2, th_k3, th_k4, th_k5, th_k6, th_k7, th_k8, th_k9, th_k10, th_k11, th_k12, th_k13, th_k14, th_k15, th_k16, th_k17, th_0_5, th_0_6, th_0_7, th_0_10, th_0_18, th_0_19, th_0_21, th_0_22, th_0_24, th_0_26, th_0_27]
    · simp only [sp_X10_layers, sp_X10_layers_25, sp_X10_layers_26, sp_X10_isShip, sp_X10_isMean, e10, e14, m7, m10, a1, b1, a2, b2, or_true, true_or, or_false, false_or, b1s, b2s, sls, bxl, bxr, i10, i00, i11, i01, ite_T, ite_F, fl1, fl0, th_th, th_k1, th_k2, th_k3, th_k4, th_k5, th_k6, th_k7, th_k8, th_k9, th_k10, th_k11, th_k12, th_k13, th_k14, th_k15, th_k16, th_k17, th_0_5, th_0_6, th_0_7, th_0_10, th_0_18, th_0_19, th_0_21, th_0_22, th_0_24, th_0_26, th_0_27]
  replace l2 : (0 : Int) ≤ p2.toInt := l2
  replace u2 : p2.toInt ≤ (10000000 : Int) := u2
  obtain ⟨n, hn, d1, d1', ⟨oa, oa1, oa2, oa3⟩, ⟨ob, ob1, ob2, ob3⟩, dq⟩ := h.2.2.2.2.2.2.2.2.2.2
  have q1 : μ 0 26 = π.1 0 1 := oa3.trans oa2.symm
  have q2 : μ 0 27 = π.1 0 2 := ob3.trans ob2.symm
  refine ⟨_, e3_ok (fun s w m => (σ, τ, ν, δ, s, w, m)) (v := π.1 0 1 + π.1 0 2) (a' := (stU (stU π.1 0 1 p1) 0 2 p2, π.2)) (μ' := stU (stU (th μ 0) 0 26 p1) 0 27 p2) ?_ ?_ rfl, nS, nM, hr, ?_⟩
  · simp only [sp_X9_layers, sp_X9_needWater, sp_X9_needShore, sp_X9_needSort, sp_X9_needRoomForMeans, e10, e14, m7, m10, a1, b1, a2, b2, q1, q2, or_true, true_or, or_false, false_or, b1s, b2s, sls, bxl, bxr, i10, i00, i11, i01, ite_T, ite_F, fl1, fl0, th_th, th_k1, th_k2, th_k3, th_k4, th_k5, th_k6, th_k7, th_k8, th_k9, th_k10, th_k11, th_k12, th_k13, th_k14, th_k15, th_k16, th_k17, th_0_5, th_0_6, th_0_7, th_0_10, th_0_18, th_0_19, th_0_21, th_0_22, th_0_24, th_0_26, th_0_27]
  · simp only [sp_X10_layers, sp_X10_layers_25, sp_X10_layers_26, sp_X10_isShip, sp_X10_isMean, e10, e14, m7, m10, a1, b1, a2, b2, q1, q2, or_true, true_or, or_false, false_or, b1s, b2s, sls, bxl, bxr, i10, i00, i11, i01, ite_T, ite_F, fl1, fl0, th_th, th_k1, th_k2, th_k3, th_k4, th_k5, th_k6, th_k7, th_k8, th_k9, th_k10, th_k11, th_k12, th_k13, th_k14, th_k15, th_k16, th_k17, th_0_5, th_0_6, th_0_7, th_0_10, th_0_18, th_0_19, th_0_21, th_0_22, th_0_24, th_0_26, th_0_27]
  · exact by obtain ⟨x, hx, rfl⟩ := nat_of l1 u1; obtain ⟨y, hy, rfl⟩ := nat_of l2 u2; exact u_layers h.th (by omega) (by omega)
