theorem c_due {nS nM hr : Nat} {σ δ μ : St} {π : St × Int64} (h : RR nS nM hr σ δ π μ) (p1 p2 : Int32) (τ : St) (ν : Nat → Int32) (ω : Nat → Int64) : ∃ z9, st_27 p1 p2 σ τ ν δ π ω μ = some z9 ∧ Rel z9 := by
  have hR := h.1.1
  have hnS : nS ≤ 4 := h.1.2.2.1.2.1.1
  have hnM : nM ≤ 20 := h.1.2.2.1.2.2.1.1
  have e10 : σ 10 0 = ι nS := h.1.2.2.1.2.1.2
  have e14 : σ 14 0 = ι nM := h.1.2.2.1.2.2.1.2
  have m7 : μ 0 7 = ι nS := (hR 10 0 rfl).symm.trans e10
  have m10 : μ 0 10 = ι nM := (hR 14 0 rfl).symm.trans e14
  have hP := (h.th (x := 0)).2.2.2.2.2.2.2.2.2.2
  obtain ⟨n, hn, d1, d1', dq⟩ := h.2.2.2.2.2.2.2.2.2.2
  rcases nnN p1 (n := n) (by omega) with ⟨t, ht, rfl, a1, b1⟩ | ⟨a1, b1⟩
  rotate_left
  · have _ := a1
    refine ⟨_, e2_ex (fun w m => (σ, τ, ν, δ, π, w, m)) (k := 1) (c := 1) (v := 0) (μ' := th μ 1) ?_ rfl ?_ rfl (by decide), nS, nM, hr, h.th⟩
    · simp only [sp_X9_due, sp_X9_needWater, sp_X9_needShore, sp_X9_needSort, sp_X9_needRoomForMeans, e10, e14, m7, m10, d1, d1', a1, b1, or_true, true_or, or_false, false_or, b1s, b2s, sls, bxl, bxr, i10, i00, i11, i01, ite_T, ite_F, fl1, fl0, th_th, th_k1, th_k2, th_k3, th_k4, th_k5, th_k6, th_k7, th_k8, th_k9, th_k10, th_k11, th_k12, th_k13, th_k14, th_k15, th_k16, th_k17, th_0_5, th_0_6, th_0_7, th_0_10, th_0_18, th_0_19, th_0_21, th_0_22, th_0_24, th_0_26, th_0_27]
    · simp only [sp_X10_due, sp_X10_isShip, sp_X10_isMean, e10, e14, m7, m10, d1, d1', a1, b1, or_true, true_or, or_false, false_or, b1s, b2s, sls, bxl, bxr, i10, i00, i11, i01, ite_T, ite_F, fl1, fl0, th_th, th_k1, th_k2, th_k3, th_k4, th_k5, th_k6, th_k7, th_k8, th_k9, th_k10, th_k11, th_k12, th_k13, th_k14, th_k15, th_k16, th_k17, th_0_5, th_0_6, th_0_7, th_0_10, th_0_18, th_0_19, th_0_21, th_0_22, th_0_24, th_0_26, th_0_27]
  rcases nrg p2 0 1 with ⟨l2, u2, a2, b2⟩ | ⟨a2, b2⟩
  rotate_left
  · have _ := a2
    refine ⟨_, e2_ex (fun w m => (σ, τ, ν, δ, π, w, m)) (k := 2) (c := 2) (v := 0) (μ' := th μ 2) ?_ rfl ?_ rfl (by decide), nS, nM, hr, h.th⟩
    · simp only [sp_X9_due, sp_X9_needWater, sp_X9_needShore, sp_X9_needSort, sp_X9_needRoomForMeans, e10, e14, m7, m10, d1, d1', a1, b1, ι_nat (show t < 100000 by omega), ix2 (show t < 20 by omega) (show 20 < 100000 by omega), a2, b2, or_true, true_or, or_false, false_or, b1s, b2s, sls, bxl, bxr, i10, i00, i11, i01, ite_T, ite_F, fl1, fl0, th_th, th_k1, th_k2, th_k3, th_k4, th_k5, th_k6, th_k7, th_k8, th_k9, th_k10, th_k11, th_k12, th_k13, th_k14, th_k15, th_k16, th_k17, th_0_5, th_0_6, th_0_7, th_0_10, th_0_18, th_0_19, th_0_21, th_0_22, th_0_24, th_0_26, th_0_27]
    · simp only [sp_X10_due, sp_X10_isShip, sp_X10_isMean, e10, e14, m7, m10, d1, d1', a1, b1, ι_nat (show t < 100000 by omega), ix2 (show t < 20 by omega) (show 20 < 100000 by omega), a2, b2, or_true, true_or, or_false, false_or, b1s, b2s, sls, bxl, bxr, i10, i00, i11, i01, ite_T, ite_F, fl1, fl0, th_th, th_k1, th_k2, th_k3, th_k4, th_k5, th_k6, th_k7, th_k8, th_k9, th_k10, th_k11, th_k12, th_k13, th_k14, th_k15, th_k16, th_k17, th_0_5, th_0_6, th_0_7, th_0_10, th_0_18, th_0_19, th_0_21, th_0_22, th_0_24, th_0_26, th_0_27]
  replace l2 : (0 : Int) ≤ p2.toInt := l2
  replace u2 : p2.toInt ≤ (1 : Int) := u2
  obtain ⟨gt, ow, v, v1, v2, v3, v4⟩ := dueV hP ht d1 hn p2
  by_cases gw : p2 = 0
  · rw [if_pos gw] at v3
    refine ⟨_, e2_ok (fun w m => (σ, τ, ν, δ, π, w, m)) (v := v) (μ' := th μ 0) ?_ ?_ rfl, nS, nM, hr, ?_⟩
    · simp only [sp_X9_due, sp_X9_needWater, sp_X9_needShore, sp_X9_needSort, sp_X9_needRoomForMeans, e10, e14, m7, m10, d1, d1', a1, b1, ι_nat (show t < 100000 by omega), ix2 (show t < 20 by omega) (show 20 < 100000 by omega), a2, b2, v1, v2, v4, if_pos gw, v3, or_true, true_or, or_false, false_or, b1s, b2s, sls, bxl, bxr, i10, i00, i11, i01, ite_T, ite_F, fl1, fl0, th_th, th_k1, th_k2, th_k3, th_k4, th_k5, th_k6, th_k7, th_k8, th_k9, th_k10, th_k11, th_k12, th_k13, th_k14, th_k15, th_k16, th_k17, th_0_5, th_0_6, th_0_7, th_0_10, th_0_18, th_0_19, th_0_21, th_0_22, th_0_24, th_0_26, th_0_27]
    · simp only [sp_X10_due, sp_X10_isShip, sp_X10_isMean, e10, e14, m7, m10, d1, d1', a1, b1, ι_nat (show t < 100000 by omega), ix2 (show t < 20 by omega) (show 20 < 100000 by omega), a2, b2, v1, v2, v4, if_pos gw, v3, or_true, true_or, or_false, false_or, b1s, b2s, sls, bxl, bxr, i10, i00, i11, i01, ite_T, ite_F, fl1, fl0, th_th, th_k1, th_k2, th_k3, th_k4, th_k5, th_k6, th_k7, th_k8, th_k9, th_k10, th_k11, th_k12, th_k13, th_k14, th_k15, th_k16, th_k17, th_0_5, th_0_6, th_0_7, th_0_10, th_0_18, th_0_19, th_0_21, th_0_22, th_0_24, th_0_26, th_0_27]
    · exact h.th
  · rw [if_neg gw] at v3
    refine ⟨_, e2_ok (fun w m => (σ, τ, ν, δ, π, w, m)) (v := v) (μ' := th μ 0) ?_ ?_ rfl, nS, nM, hr, ?_⟩
    · simp only [sp_X9_due, sp_X9_needWater, sp_X9_needShore, sp_X9_needSort, sp_X9_needRoomForMeans, e10, e14, m7, m10, d1, d1', a1, b1, ι_nat (show t < 100000 by omega), ix2 (show t < 20 by omega) (show 20 < 100000 by omega), a2, b2, v1, v2, v4, if_neg gw, v3, or_true, true_or, or_false, false_or, b1s, b2s, sls, bxl, bxr, i10, i00, i11, i01, ite_T, ite_F, fl1, fl0, th_th, th_k1, th_k2, th_k3, th_k4, th_k5, th_k6, th_k7, th_k8, th_k9, th_k10, th_k11, th_k12, th_k13, th_k14, th_k15, th_k16, th_k17, th_0_5, th_0_6, th_0_7, th_0_10, th_0_18, th_0_19, th_0_21, th_0_22, th_0_24, th_0_26, th_0_27]
    · simp only [sp_X10_due, sp_X10_isShip, sp_X10_isMean, e10, e14, m7, m10, d1, d1', a1, b1, ι_nat (show t < 100000 by omega), ix2 (show t < 20 by omega) (show 20 < 100000 by omega), a2, b2, v1, v2, v4, if_neg gw, v3, or_true, true_or, or_false, false_or, b1s, b2s, sls, bxl, bxr, i10, i00, i11, i01, ite_T, ite_F, fl1, fl0, th_th, th_k1, th_k2, th_k3, th_k4, th_k5, th_k6, th_k7, th_k8, th_k9, th_k10, th_k11, th_k12, th_k13, th_k14, th_k15, th_k16, th_k17, th_0_5, th_0_6, th_0_7, th_0_10, th_0_18, th_0_19, th_0_21, th_0_22, th_0_24, th_0_26, th_0_27]
    · exact h.th
