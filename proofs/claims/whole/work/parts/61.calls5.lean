theorem c_why {nS nM hr : Nat} {σ δ μ : St} {π : St × Int64} (h : RR nS nM hr σ δ π μ) (p1 p2 p3 : Int32) (τ : St) (ν : Nat → Int32) (ω : Nat → Int64) : ∃ z9, st_18 p1 p2 p3 σ τ ν δ π ω μ = some z9 ∧ Rel z9 := by
  have hR := h.1.1
  have hnS : nS ≤ 4 := h.1.2.2.1.2.1.1
  have hnM : nM ≤ 20 := h.1.2.2.1.2.2.1.1
  have e10 : σ 10 0 = ι nS := h.1.2.2.1.2.1.2
  have e14 : σ 14 0 = ι nM := h.1.2.2.1.2.2.1.2
  have m7 : μ 0 7 = ι nS := (hR 10 0 rfl).symm.trans e10
  have m10 : μ 0 10 = ι nM := (hR 14 0 rfl).symm.trans e14
  rcases nn24 p1 with ⟨c, hc, rfl⟩ | ⟨a1, b1⟩
  rotate_left
  · have _ := a1
    refine ⟨_, e2_ex (fun w m => (σ, τ, ν, δ, π, w, m)) (k := 1) (c := 1) (v := 0) (μ' := th μ 1) ?_ rfl ?_ rfl (by decide), nS, nM, hr, h.th⟩
    · simp only [sp_X9_why, sp_X9_needWater, sp_X9_needShore, sp_X9_needSort, sp_X9_needRoomForMeans, e10, e14, m7, m10, a1, b1, or_true, true_or, or_false, false_or, b1s, b2s, sls, bxl, bxr, i10, i00, i11, i01, ite_T, ite_F, fl1, fl0, th_th, th_k1, th_k2, th_k3, th_k4, th_k5, th_k6, th_k7, th_k8, th_k9, th_k10, th_k11, th_k12, th_k13, th_k14, th_k15, th_k16, th_k17, th_0_5, th_0_6, th_0_7, th_0_10, th_0_18, th_0_19, th_0_21, th_0_22, th_0_24, th_0_26, th_0_27]
    · simp only [sp_X10_why, sp_X10_why_37, sp_X10_why_38, sp_X10_why_62, sp_X10_isShip, sp_X10_isMean, e10, e14, m7, m10, a1, b1, or_true, true_or, or_false, false_or, b1s, b2s, sls, bxl, bxr, i10, i00, i11, i01, ite_T, ite_F, fl1, fl0, th_th, th_k1, th_k2, th_k3, th_k4, th_k5, th_k6, th_k7, th_k8, th_k9, th_k10, th_k11, th_k12, th_k13, th_k14, th_k15, th_k16, th_k17, th_0_5, th_0_6, th_0_7, th_0_10, th_0_18, th_0_19, th_0_21, th_0_22, th_0_24, th_0_26, th_0_27]
  have k_c : μ 3 c = σ 2 c := (hR 2 c hc).symm
  rcases nrg p2 0 1 with ⟨l2, u2, a2, b2⟩ | ⟨a2, b2⟩
  rotate_left
  · have _ := a2
    refine ⟨_, e2_ex (fun w m => (σ, τ, ν, δ, π, w, m)) (k := 2) (c := 2) (v := 0) (μ' := th μ 2) ?_ rfl ?_ rfl (by decide), nS, nM, hr, h.th⟩
    · simp only [sp_X9_why, sp_X9_needWater, sp_X9_needShore, sp_X9_needSort, sp_X9_needRoomForMeans, e10, e14, m7, m10, nc9 c hc, nc10 c hc, isWater9 hc, ι_nat (show c < 100000 by omega), ix2 hc (show 24 < 100000 by omega), k_c, a2, b2, or_true, true_or, or_false, false_or, b1s, b2s, sls, bxl, bxr, i10, i00, i11, i01, ite_T, ite_F, fl1, fl0, th_th, th_k1, th_k2, th_k3, th_k4, th_k5, th_k6, th_k7, th_k8, th_k9, th_k10, th_k11, th_k12, th_k13, th_k14, th_k15, th_k16, th_k17, th_0_5, th_0_6, th_0_7, th_0_10, th_0_18, th_0_19, th_0_21, th_0_22, th_0_24, th_0_26, th_0_27]
    · simp only [sp_X10_why, sp_X10_why_37, sp_X10_why_38, sp_X10_why_62, sp_X10_isShip, sp_X10_isMean, e10, e14, m7, m10, nc9 c hc, nc10 c hc, isWater9 hc, ι_nat (show c < 100000 by omega), ix2 hc (show 24 < 100000 by omega), k_c, a2, b2, or_true, true_or, or_false, false_or, b1s, b2s, sls, bxl, bxr, i10, i00, i11, i01, ite_T, ite_F, fl1, fl0, th_th, th_k1, th_k2, th_k3, th_k4, th_k5, th_k6, th_k7, th_k8, th_k9, th_k10, th_k11, th_k12, th_k13, th_k14, th_k15, th_k16, th_k17, th_0_5, th_0_6, th_0_7, th_0_10, th_0_18, th_0_19, th_0_21, th_0_22, th_0_24, th_0_26, th_0_27]
  replace l2 : (0 : Int) ≤ p2.toInt := l2
  replace u2 : p2.toInt ≤ (1 : Int) := u2
  rcases nrg p3 0 2 with ⟨l3, u3, a3, b3⟩ | ⟨a3, b3⟩
  rotate_left
  · have _ := a3
    refine ⟨_, e2_ex (fun w m => (σ, τ, ν, δ, π, w, m)) (k := 2) (c := 2) (v := 0) (μ' := th μ 2) ?_ rfl ?_ rfl (by decide), nS, nM, hr, h.th⟩
    · simp only [sp_X9_why, sp_X9_needWater, sp_X9_needShore, sp_X9_needSort, sp_X9_needRoomForMeans, e10, e14, m7, m10, nc9 c hc, nc10 c hc, isWater9 hc, ι_nat (show c < 100000 by omega), ix2 hc (show 24 < 100000 by omega), k_c, a2, b2, a3, b3, or_true, true_or, or_false, false_or, b1s, b2s, sls, bxl, bxr, i10, i00, i11, i01, ite_T, ite_F, fl1, fl0, th_th, th_k1, th_k2, th_k3, th_k4, th_k5, th_k6, th_k7, th_k8, th_k9, th_k10, th_k11, th_k12, th_k13, th_k14, th_k15, th_k16, th_k17, th_0_5, th_0_6, th_0_7, th_0_10, th_0_18, th_0_19, th_0_21, th_0_22, th_0_24, th_0_26, th_0_27]
    · simp only [sp_X10_why, sp_X10_why_37, sp_X10_why_38, sp_X10_why_62, sp_X10_isShip, sp_X10_isMean, e10, e14, m7, m10, nc9 c hc, nc10 c hc, isWater9 hc, ι_nat (show c < 100000 by omega), ix2 hc (show 24 < 100000 by omega), k_c, a2, b2, a3, b3, or_true, true_or, or_false, false_or, b1s, b2s, sls, bxl, bxr, i10, i00, i11, i01, ite_T, ite_F, fl1, fl0, th_th, th_k1, th_k2, th_k3, th_k4, th_k5, th_k6, th_k7, th_k8, th_k9, th_k10, th_k11, th_k12, th_k13, th_k14, th_k15, th_k16, th_k17, th_0_5, th_0_6, th_0_7, th_0_10, th_0_18, th_0_19, th_0_21, th_0_22, th_0_24, th_0_26, th_0_27]
  replace l3 : (0 : Int) ≤ p3.toInt := l3
  replace u3 : p3.toInt ≤ (2 : Int) := u3
  by_cases g4 : σ 2 c = 0
  rotate_left
  · have _ := 0
    refine ⟨_, e2_ex (fun w m => (σ, τ, ν, δ, π, w, m)) (k := 3) (c := 3) (v := 0) (μ' := th μ 3) ?_ rfl ?_ rfl (by decide), nS, nM, hr, h.th⟩
    · simp only [sp_X9_why, sp_X9_needWater, sp_X9_needShore, sp_X9_needSort, sp_X9_needRoomForMeans, e10, e14, m7, m10, nc9 c hc, nc10 c hc, isWater9 hc, ι_nat (show c < 100000 by omega), ix2 hc (show 24 < 100000 by omega), k_c, a2, b2, a3, b3, g4, or_true, true_or, or_false, false_or, b1s, b2s, sls, bxl, bxr, i10, i00, i11, i01, ite_T, ite_F, fl1, fl0, th_th, th_k1, th_k2, th_k3, th_k4, th_k5, th_k6, th_k7, th_k8, th_k9, th_k10, th_k11, th_k12, th_k13, th_k14, th_k15, th_k16, th_k17, th_0_5, th_0_6, th_0_7, th_0_10, th_0_18, th_0_19, th_0_21, th_0_22, th_0_24, th_0_26, th_0_27]
    · simp only [sp_X10_why, sp_X10_why_37, sp_X10_why_38, sp_X10_why_62, sp_X10_isShip, sp_X10_isMean, e10, e14, m7, m10, nc9 c hc, nc10 c hc, isWater9 hc, ι_nat (show c < 100000 by omega), ix2 hc (show 24 < 100000 by omega), k_c, a2, b2, a3, b3, g4, or_true, true_or, or_false, false_or, b1s, b2s, sls, bxl, bxr, i10, i00, i11, i01, ite_T, ite_F, fl1, fl0, th_th, th_k1, th_k2, th_k3, th_k4, th_k5, th_k6, th_k7, th_k8, th_k9, th_k10, th_k11, th_k12, th_k13, th_k14, th_k15, th_k16, th_k17, th_0_5, th_0_6, th_0_7, th_0_10, th_0_18, th_0_19, th_0_21, th_0_22, th_0_24, th_0_26, th_0_27]
  obtain ⟨w, hw, rfl⟩ := nat_of l2 u2
  have h' := h.th (x := 0)
  have hu : ι w = 0 ∨ ι w = 1 := by rcases (show w = 0 ∨ w = 1 by omega) with rfl | rfl; exact Or.inl rfl; exact Or.inr rfl
  obtain ⟨b, hb, hbb⟩ := isAg h' hc g4 hu
  obtain ⟨f, l, m, f9, f10, l9, l10, m9, m10', hm⟩ := rul hb hbb
  obtain ⟨v, hv, rfl⟩ := nat_of l3 u3
  rcases (show v = 0 ∨ v = 1 ∨ v = 2 by omega) with rfl | rfl | rfl
  · rw [show ι 0 = (0 : Int32) from rfl] at a3 b3 ⊢
    refine ⟨_, e2_ok (fun w m => (σ, τ, ν, δ, π, w, m)) (v := f) (μ' := th μ 0) ?_ ?_ rfl, nS, nM, hr, ?_⟩
    · simp only [sp_X9_why, sp_X9_needWater, sp_X9_needShore, sp_X9_needSort, sp_X9_needRoomForMeans, e10, e14, m7, m10, nc9 c hc, nc10 c hc, isWater9 hc, ι_nat (show c < 100000 by omega), ix2 hc (show 24 < 100000 by omega), k_c, a2, b2, a3, b3, g4, f9, f10, l9, l10, m9, m10', or_true, true_or, or_false, false_or, b1s, b2s, sls, bxl, bxr, i10, i00, i11, i01, ite_T, ite_F, fl1, fl0, th_th, th_k1, th_k2, th_k3, th_k4, th_k5, th_k6, th_k7, th_k8, th_k9, th_k10, th_k11, th_k12, th_k13, th_k14, th_k15, th_k16, th_k17, th_0_5, th_0_6, th_0_7, th_0_10, th_0_18, th_0_19, th_0_21, th_0_22, th_0_24, th_0_26, th_0_27]
    · simp only [sp_X10_why, sp_X10_why_37, sp_X10_why_38, sp_X10_why_62, sp_X10_isShip, sp_X10_isMean, e10, e14, m7, m10, nc9 c hc, nc10 c hc, isWater9 hc, ι_nat (show c < 100000 by omega), ix2 hc (show 24 < 100000 by omega), k_c, a2, b2, a3, b3, g4, f9, f10, l9, l10, m9, m10', or_true, true_or, or_false, false_or, b1s, b2s, sls, bxl, bxr, i10, i00, i11, i01, ite_T, ite_F, fl1, fl0, th_th, th_k1, th_k2, th_k3, th_k4, th_k5, th_k6, th_k7, th_k8, th_k9, th_k10, th_k11, th_k12, th_k13, th_k14, th_k15, th_k16, th_k17, th_0_5, th_0_6, th_0_7, th_0_10, th_0_18, th_0_19, th_0_21, th_0_22, th_0_24, th_0_26, th_0_27]
    · exact h.th
  · rw [show ι 1 = (1 : Int32) from rfl] at a3 b3 ⊢
    refine ⟨_, e2_ok (fun w m => (σ, τ, ν, δ, π, w, m)) (v := l) (μ' := th μ 0) ?_ ?_ rfl, nS, nM, hr, ?_⟩
    · simp only [sp_X9_why, sp_X9_needWater, sp_X9_needShore, sp_X9_needSort, sp_X9_needRoomForMeans, e10, e14, m7, m10, nc9 c hc, nc10 c hc, isWater9 hc, ι_nat (show c < 100000 by omega), ix2 hc (show 24 < 100000 by omega), k_c, a2, b2, a3, b3, g4, f9, f10, l9, l10, m9, m10', or_true, true_or, or_false, false_or, b1s, b2s, sls, bxl, bxr, i10, i00, i11, i01, ite_T, ite_F, fl1, fl0, th_th, th_k1, th_k2, th_k3, th_k4, th_k5, th_k6, th_k7, th_k8, th_k9, th_k10, th_k11, th_k12, th_k13, th_k14, th_k15, th_k16, th_k17, th_0_5, th_0_6, th_0_7, th_0_10, th_0_18, th_0_19, th_0_21, th_0_22, th_0_24, th_0_26, th_0_27]
    · simp only [sp_X10_why, sp_X10_why_37, sp_X10_why_38, sp_X10_why_62, sp_X10_isShip, sp_X10_isMean, e10, e14, m7, m10, nc9 c hc, nc10 c hc, isWater9 hc, ι_nat (show c < 100000 by omega), ix2 hc (show 24 < 100000 by omega), k_c, a2, b2, a3, b3, g4, f9, f10, l9, l10, m9, m10', or_true, true_or, or_false, false_or, b1s, b2s, sls, bxl, bxr, i10, i00, i11, i01, ite_T, ite_F, fl1, fl0, th_th, th_k1, th_k2, th_k3, th_k4, th_k5, th_k6, th_k7, th_k8, th_k9, th_k10, th_k11, th_k12, th_k13, th_k14, th_k15, th_k16, th_k17, th_0_5, th_0_6, th_0_7, th_0_10, th_0_18, th_0_19, th_0_21, th_0_22, th_0_24, th_0_26, th_0_27]
    · exact h.th
  · rw [show ι 2 = (2 : Int32) from rfl] at a3 b3 ⊢
    refine ⟨_, e2_ok (fun w m => (σ, τ, ν, δ, π, w, m)) (v := m) (μ' := th μ 0) ?_ ?_ rfl, nS, nM, hr, ?_⟩
    · simp only [sp_X9_why, sp_X9_needWater, sp_X9_needShore, sp_X9_needSort, sp_X9_needRoomForMeans, e10, e14, m7, m10, nc9 c hc, nc10 c hc, isWater9 hc, ι_nat (show c < 100000 by omega), ix2 hc (show 24 < 100000 by omega), k_c, a2, b2, a3, b3, g4, f9, f10, l9, l10, m9, m10', eq_false (by decide : ¬ (2 : Int32) = 0), eq_false (by decide : ¬ (2 : Int32) = 1), or_true, true_or, or_false, false_or, b1s, b2s, sls, bxl, bxr, i10, i00, i11, i01, ite_T, ite_F, fl1, fl0, th_th, th_k1, th_k2, th_k3, th_k4, th_k5, th_k6, th_k7, th_k8, th_k9, th_k10, th_k11, th_k12, th_k13, th_k14, th_k15, th_k16, th_k17, th_0_5, th_0_6, th_0_7, th_0_10, th_0_18, th_0_19, th_0_21, th_0_22, th_0_24, th_0_26, th_0_27]
    · simp only [sp_X10_why, sp_X10_why_37, sp_X10_why_38, sp_X10_why_62, sp_X10_isShip, sp_X10_isMean, e10, e14, m7, m10, nc9 c hc, nc10 c hc, isWater9 hc, ι_nat (show c < 100000 by omega), ix2 hc (show 24 < 100000 by omega), k_c, a2, b2, a3, b3, g4, f9, f10, l9, l10, m9, m10', eq_false (by decide : ¬ (2 : Int32) = 0), eq_false (by decide : ¬ (2 : Int32) = 1), or_true, true_or, or_false, false_or, b1s, b2s, sls, bxl, bxr, i10, i00, i11, i01, ite_T, ite_F, fl1, fl0, th_th, th_k1, th_k2, th_k3, th_k4, th_k5, th_k6, th_k7, th_k8, th_k9, th_k10, th_k11, th_k12, th_k13, th_k14, th_k15, th_k16, th_k17, th_0_5, th_0_6, th_0_7, th_0_10, th_0_18, th_0_19, th_0_21, th_0_22, th_0_24, th_0_26, th_0_27]
    · exact h.th
theorem c_use {nS nM hr : Nat} {σ δ μ : St} {π : St × Int64} (h : RR nS nM hr σ δ π μ) (p1 p2 : Int32) (τ : St) (ν : Nat → Int32) (ω : Nat → Int64) : ∃ z9, st_17 p1 p2 σ τ ν δ π ω μ = some z9 ∧ Rel z9 := by
  have hR := h.1.1
  have hnS : nS ≤ 4 := h.1.2.2.1.2.1.1
  have hnM : nM ≤ 20 := h.1.2.2.1.2.2.1.1
  have e10 : σ 10 0 = ι nS := h.1.2.2.1.2.1.2
  have e14 : σ 14 0 = ι nM := h.1.2.2.1.2.2.1.2
  have m7 : μ 0 7 = ι nS := (hR 10 0 rfl).symm.trans e10
  have m10 : μ 0 10 = ι nM := (hR 14 0 rfl).symm.trans e14
  rcases nn24 p1 with ⟨c, hc, rfl⟩ | ⟨a1, b1⟩
  rotate_left
  · have _ := a1
    refine ⟨_, e3_ex (fun s w m => (s, τ, ν, δ, π, w, m)) (k := 1) (c := 1) (v := 0) (μ' := th μ 1) ?_ rfl ?_ rfl (by decide), nS, nM, hr, h.th⟩
    · simp only [sp_X9_use, sp_X0_disperse, sp_X0_burn, sp_X9_needWater, sp_X9_needShore, sp_X9_needSort, sp_X9_needRoomForMeans, e10, e14, m7, m10, a1, b1, or_true, true_or, or_false, false_or, b1s, b2s, sls, bxl, bxr, i10, i00, i11, i01, ite_T, ite_F, fl1, fl0, th_th, th_k1, th_k2, th_k3, th_k4, th_k5, th_k6, th_k7, th_k8, th_k9, th_k10, th_k11, th_k12, th_k13, th_k14, th_k15, th_k16, th_k17, th_0_5, th_0_6, th_0_7, th_0_10, th_0_18, th_0_19, th_0_21, th_0_22, th_0_24, th_0_26, th_0_27]
    · simp only [sp_X10_use, sp_X10_use_54, sp_X10_use_55, sp_X10_use_93, sp_X10_use_120, sp_X10_use_139, sp_X10_isShip, sp_X10_isMean, e10, e14, m7, m10, a1, b1, or_true, true_or, or_false, false_or, b1s, b2s, sls, bxl, bxr, i10, i00, i11, i01, ite_T, ite_F, fl1, fl0, th_th, th_k1, th_k2, th_k3, th_k4, th_k5, th_k6, th_k7, th_k8, th_k9, th_k10, th_k11, th_k12, th_k13, th_k14, th_k15, th_k16, th_k17, th_0_5, th_0_6, th_0_7, th_0_10, th_0_18, th_0_19, th_0_21, th_0_22, th_0_24, th_0_26, th_0_27]
  have k_c : μ 3 c = σ 2 c := (hR 2 c hc).symm
  rcases nrg p2 0 1 with ⟨l2, u2, a2, b2⟩ | ⟨a2, b2⟩
  rotate_left
  · have _ := a2
    refine ⟨_, e3_ex (fun s w m => (s, τ, ν, δ, π, w, m)) (k := 2) (c := 2) (v := 0) (μ' := th μ 2) ?_ rfl ?_ rfl (by decide), nS, nM, hr, h.th⟩
    · simp only [sp_X9_use, sp_X0_disperse, sp_X0_burn, sp_X9_needWater, sp_X9_needShore, sp_X9_needSort, sp_X9_needRoomForMeans, e10, e14, m7, m10, nc9 c hc, nc10 c hc, isWater9 hc, ι_nat (show c < 100000 by omega), ix2 hc (show 24 < 100000 by omega), k_c, a2, b2, or_true, true_or, or_false, false_or, b1s, b2s, sls, bxl, bxr, i10, i00, i11, i01, ite_T, ite_F, fl1, fl0, th_th, th_k1, th_k2, th_k3, th_k4, th_k5, th_k6, th_k7, th_k8, th_k9, th_k10, th_k11, th_k12, th_k13, th_k14, th_k15, th_k16, th_k17, th_0_5, th_0_6, th_0_7, th_0_10, th_0_18, th_0_19, th_0_21, th_0_22, th_0_24, th_0_26, th_0_27]
    · simp only [sp_X10_use, sp_X10_use_54, sp_X10_use_55, sp_X10_use_93, sp_X10_use_120, sp_X10_use_139, sp_X10_isShip, sp_X10_isMean, e10, e14, m7, m10, nc9 c hc, nc10 c hc, isWater9 hc, ι_nat (show c < 100000 by omega), ix2 hc (show 24 < 100000 by omega), k_c, a2, b2, or_true, true_or, or_false, false_or, b1s, b2s, sls, bxl, bxr, i10, i00, i11, i01, ite_T, ite_F, fl1, fl0, th_th, th_k1, th_k2, th_k3, th_k4, th_k5, th_k6, th_k7, th_k8, th_k9, th_k10, th_k11, th_k12, th_k13, th_k14, th_k15, th_k16, th_k17, th_0_5, th_0_6, th_0_7, th_0_10, th_0_18, th_0_19, th_0_21, th_0_22, th_0_24, th_0_26, th_0_27]
  replace l2 : (0 : Int) ≤ p2.toInt := l2
  replace u2 : p2.toInt ≤ (1 : Int) := u2
  by_cases g3 : σ 2 c = 0
  rotate_left
  · have _ := 0
    refine ⟨_, e3_ex (fun s w m => (s, τ, ν, δ, π, w, m)) (k := 3) (c := 3) (v := 0) (μ' := th μ 3) ?_ rfl ?_ rfl (by decide), nS, nM, hr, h.th⟩
    · simp only [sp_X9_use, sp_X0_disperse, sp_X0_burn, sp_X9_needWater, sp_X9_needShore, sp_X9_needSort, sp_X9_needRoomForMeans, e10, e14, m7, m10, nc9 c hc, nc10 c hc, isWater9 hc, ι_nat (show c < 100000 by omega), ix2 hc (show 24 < 100000 by omega), k_c, a2, b2, g3, or_true, true_or, or_false, false_or, b1s, b2s, sls, bxl, bxr, i10, i00, i11, i01, ite_T, ite_F, fl1, fl0, th_th, th_k1, th_k2, th_k3, th_k4, th_k5, th_k6, th_k7, th_k8, th_k9, th_k10, th_k11, th_k12, th_k13, th_k14, th_k15, th_k16, th_k17, th_0_5, th_0_6, th_0_7, th_0_10, th_0_18, th_0_19, th_0_21, th_0_22, th_0_24, th_0_26, th_0_27]
    · simp only [sp_X10_use, sp_X10_use_54, sp_X10_use_55, sp_X10_use_93, sp_X10_use_120, sp_X10_use_139, sp_X10_isShip, sp_X10_isMean, e10, e14, m7, m10, nc9 c hc, nc10 c hc, isWater9 hc, ι_nat (show c < 100000 by omega), ix2 hc (show 24 < 100000 by omega), k_c, a2, b2, g3, or_true, true_or, or_false, false_or, b1s, b2s, sls, bxl, bxr, i10, i00, i11, i01, ite_T, ite_F, fl1, fl0, th_th, th_k1, th_k2, th_k3, th_k4, th_k5, th_k6, th_k7, th_k8, th_k9, th_k10, th_k11, th_k12, th_k13, th_k14, th_k15, th_k16, th_k17, th_0_5, th_0_6, th_0_7, th_0_10, th_0_18, th_0_19, th_0_21, th_0_22, th_0_24, th_0_26, th_0_27]
  obtain ⟨w, hw, rfl⟩ := nat_of l2 u2
  have h' := h.th (x := 0)
  have hu : ι w = 0 ∨ ι w = 1 := by rcases (show w = 0 ∨ w = 1 by omega) with rfl | rfl; exact Or.inl rfl; exact Or.inr rfl
  obtain ⟨b, hb, hbb⟩ := isAg h' hc g3 hu
  obtain ⟨f, l, m, f9, f10, l9, l10, m9, m10', hm⟩ := rul hb hbb
  by_cases g4 : m = 0
  rotate_left
  · have _ := 0
    have y4 : ¬ m ≤ 0 := fun q => g4 (hm.mp q)
    refine ⟨_, e3_ex (fun s w m => (s, τ, ν, δ, π, w, m)) (k := 3) (c := 3) (v := 0) (μ' := th μ 3) ?_ rfl ?_ rfl (by decide), nS, nM, hr, h.th⟩
    · simp only [sp_X9_use, sp_X0_disperse, sp_X0_burn, sp_X9_needWater, sp_X9_needShore, sp_X9_needSort, sp_X9_needRoomForMeans, e10, e14, m7, m10, nc9 c hc, nc10 c hc, isWater9 hc, ι_nat (show c < 100000 by omega), ix2 hc (show 24 < 100000 by omega), k_c, a2, b2, g3, m9, m10', g4, y4, or_true, true_or, or_false, false_or, b1s, b2s, sls, bxl, bxr, i10, i00, i11, i01, ite_T, ite_F, fl1, fl0, th_th, th_k1, th_k2, th_k3, th_k4, th_k5, th_k6, th_k7, th_k8, th_k9, th_k10, th_k11, th_k12, th_k13, th_k14, th_k15, th_k16, th_k17, th_0_5, th_0_6, th_0_7, th_0_10, th_0_18, th_0_19, th_0_21, th_0_22, th_0_24, th_0_26, th_0_27]
    · simp only [sp_X10_use, sp_X10_use_54, sp_X10_use_55, sp_X10_use_93, sp_X10_use_120, sp_X10_use_139, sp_X10_isShip, sp_X10_isMean, e10, e14, m7, m10, nc9 c hc, nc10 c hc, isWater9 hc, ι_nat (show c < 100000 by omega), ix2 hc (show 24 < 100000 by omega), k_c, a2, b2, g3, m9, m10', g4, y4, or_true, true_or, or_false, false_or, b1s, b2s, sls, bxl, bxr, i10, i00, i11, i01, ite_T, ite_F, fl1, fl0, th_th, th_k1, th_k2, th_k3, th_k4, th_k5, th_k6, th_k7, th_k8, th_k9, th_k10, th_k11, th_k12, th_k13, th_k14, th_k15, th_k16, th_k17, th_0_5, th_0_6, th_0_7, th_0_10, th_0_18, th_0_19, th_0_21, th_0_22, th_0_24, th_0_26, th_0_27]
  have y4 : m ≤ 0 := hm.mpr g4
  subst g4
  have hz : (0 : Int32) ≤ 0 := Int32.le_refl 0
  have e4 : μ 1 c = σ 4 c := (hR 4 c hc).symm
  have e5 : μ 0 18 = σ 23 5 := (hR 23 5 ⟨trivial, by decide⟩).symm
  have e6 : μ 0 19 = σ 23 6 := (hR 23 6 ⟨trivial, by decide⟩).symm
  have b4 := h.1.2.2.2.b4 hc
  rcases (show w = 0 ∨ w = 1 by omega) with rfl | rfl
  · rw [show ι 0 = (0 : Int32) from rfl] at a2 b2 m9 m10' ⊢
    have r19 : stU (stU (th μ 0) 1 c (σ 4 c - σ 4 c)) 0 18 (σ 23 5 + σ 4 c) 0 19 = σ 23 6 := e6
    have n19 : stU (stU (stU (th μ 0) 1 c (σ 4 c - σ 4 c)) 0 18 (σ 23 5 + σ 4 c)) 0 19 (σ 23 6) = stU (stU (th μ 0) 1 c (σ 4 c - σ 4 c)) 0 18 (σ 23 5 + σ 4 c) := stU_noop r19
    have z := u_dis h' hc g3 (σ 4 c) b4.2.1 (Int.le_refl _) (i := 5) (Or.inl rfl)
    rw [show (th μ 0) 1 c = σ 4 c from e4, show (th μ 0) 0 (5 + 13) = σ 23 5 from e5, show stU σ 4 c (σ 4 c - σ 4 c) = stU σ 4 c 0 by rw [Int32.sub_self]] at z
    refine ⟨_, e3_ok (fun s w m => (s, τ, ν, δ, π, w, m)) (v := σ 4 c) (a' := stU (stU σ 4 c 0) 23 5 (σ 23 5 + σ 4 c)) (μ' := stU (stU (th μ 0) 1 c (σ 4 c - σ 4 c)) 0 18 (σ 23 5 + σ 4 c)) ?_ ?_ rfl, nS, nM, hr, ?_⟩
    · simp only [sp_X9_use, sp_X0_disperse, sp_X0_burn, sp_X9_needWater, sp_X9_needShore, sp_X9_needSort, sp_X9_needRoomForMeans, e10, e14, m7, m10, nc9 c hc, nc10 c hc, isWater9 hc, ι_nat (show c < 100000 by omega), ix2 hc (show 24 < 100000 by omega), k_c, a2, b2, g3, m9, m10', eq_true (Int32.le_refl 0), i0, ix2 (show c < 174 by omega) (show 174 < 100000 by omega), stU_k (k := 4) (k2 := 23) (by decide), stU_k (k := 1) (k2 := 0) (by decide), stU_same, e4, e5, e6, r19, n19, Int32.add_zero, or_true, true_or, or_false, false_or, b1s, b2s, sls, bxl, bxr, i10, i00, i11, i01, ite_T, ite_F, fl1, fl0, th_th, th_k1, th_k2, th_k3, th_k4, th_k5, th_k6, th_k7, th_k8, th_k9, th_k10, th_k11, th_k12, th_k13, th_k14, th_k15, th_k16, th_k17, th_0_5, th_0_6, th_0_7, th_0_10, th_0_18, th_0_19, th_0_21, th_0_22, th_0_24, th_0_26, th_0_27]
    · simp only [sp_X10_use, sp_X10_use_54, sp_X10_use_55, sp_X10_use_93, sp_X10_use_120, sp_X10_use_139, sp_X10_isShip, sp_X10_isMean, e10, e14, m7, m10, nc9 c hc, nc10 c hc, isWater9 hc, ι_nat (show c < 100000 by omega), ix2 hc (show 24 < 100000 by omega), k_c, a2, b2, g3, m9, m10', eq_true (Int32.le_refl 0), i0, ix2 (show c < 174 by omega) (show 174 < 100000 by omega), stU_k (k := 4) (k2 := 23) (by decide), stU_k (k := 1) (k2 := 0) (by decide), stU_same, e4, e5, e6, r19, n19, Int32.add_zero, or_true, true_or, or_false, false_or, b1s, b2s, sls, bxl, bxr, i10, i00, i11, i01, ite_T, ite_F, fl1, fl0, th_th, th_k1, th_k2, th_k3, th_k4, th_k5, th_k6, th_k7, th_k8, th_k9, th_k10, th_k11, th_k12, th_k13, th_k14, th_k15, th_k16, th_k17, th_0_5, th_0_6, th_0_7, th_0_10, th_0_18, th_0_19, th_0_21, th_0_22, th_0_24, th_0_26, th_0_27]
    · exact z
  · rw [show ι 1 = (1 : Int32) from rfl] at a2 b2 m9 m10' ⊢
    have cm : (9 : Int32) * σ 4 c = σ 4 c * 9 := Int32.mul_comm _ _
    have r18 : stU (th μ 0) 1 c (σ 4 c - (σ 4 c * 9 / 10)) 0 18 = σ 23 5 := e5
    have n18 : stU (stU (th μ 0) 1 c (σ 4 c - (σ 4 c * 9 / 10))) 0 18 (σ 23 5) = stU (th μ 0) 1 c (σ 4 c - (σ 4 c * 9 / 10)) := stU_noop r18
    have r19 : stU (th μ 0) 1 c (σ 4 c - (σ 4 c * 9 / 10)) 0 19 = σ 23 6 := e6
    have t9 : (9 : Int32).toInt = 9 := rfl
    have t10 : (10 : Int32).toInt = 10 := rfl
    have m1 : (σ 4 c * 9).toInt = (σ 4 c).toInt * 9 := by rw [t_mul (by rw [t9]; omega) (by rw [t9]; omega), t9]
    have m2 : (σ 4 c * 9 / 10).toInt = (σ 4 c).toInt * 9 / 10 := by rw [t_div (by omega) (by omega), m1, t10]
    have z := u_dis h' hc g3 (σ 4 c * 9 / 10) (by omega) (by omega) (i := 6) (Or.inr rfl)
    rw [show (th μ 0) 1 c = σ 4 c from e4, show (th μ 0) 0 (6 + 13) = σ 23 6 from e6] at z
    refine ⟨_, e3_ok (fun s w m => (s, τ, ν, δ, π, w, m)) (v := (σ 4 c * 9 / 10)) (a' := stU (stU σ 4 c (σ 4 c - (σ 4 c * 9 / 10))) 23 6 (σ 23 6 + (σ 4 c * 9 / 10))) (μ' := stU (stU (th μ 0) 1 c (σ 4 c - (σ 4 c * 9 / 10))) 0 19 (σ 23 6 + (σ 4 c * 9 / 10))) ?_ ?_ rfl, nS, nM, hr, ?_⟩
    · simp only [sp_X9_use, sp_X0_disperse, sp_X0_burn, sp_X9_needWater, sp_X9_needShore, sp_X9_needSort, sp_X9_needRoomForMeans, e10, e14, m7, m10, nc9 c hc, nc10 c hc, isWater9 hc, ι_nat (show c < 100000 by omega), ix2 hc (show 24 < 100000 by omega), k_c, a2, b2, g3, m9, m10', eq_true (Int32.le_refl 0), i0, ix2 (show c < 174 by omega) (show 174 < 100000 by omega), stU_k (k := 4) (k2 := 23) (by decide), stU_k (k := 1) (k2 := 0) (by decide), stU_same, e4, e5, e6, cm, r18, n18, r19, Int32.add_zero, or_true, true_or, or_false, false_or, b1s, b2s, sls, bxl, bxr, i10, i00, i11, i01, ite_T, ite_F, fl1, fl0, th_th, th_k1, th_k2, th_k3, th_k4, th_k5, th_k6, th_k7, th_k8, th_k9, th_k10, th_k11, th_k12, th_k13, th_k14, th_k15, th_k16, th_k17, th_0_5, th_0_6, th_0_7, th_0_10, th_0_18, th_0_19, th_0_21, th_0_22, th_0_24, th_0_26, th_0_27]
    · simp only [sp_X10_use, sp_X10_use_54, sp_X10_use_55, sp_X10_use_93, sp_X10_use_120, sp_X10_use_139, sp_X10_isShip, sp_X10_isMean, e10, e14, m7, m10, nc9 c hc, nc10 c hc, isWater9 hc, ι_nat (show c < 100000 by omega), ix2 hc (show 24 < 100000 by omega), k_c, a2, b2, g3, m9, m10', eq_true (Int32.le_refl 0), i0, ix2 (show c < 174 by omega) (show 174 < 100000 by omega), stU_k (k := 4) (k2 := 23) (by decide), stU_k (k := 1) (k2 := 0) (by decide), stU_same, e4, e5, e6, cm, r18, n18, r19, Int32.add_zero, or_true, true_or, or_false, false_or, b1s, b2s, sls, bxl, bxr, i10, i00, i11, i01, ite_T, ite_F, fl1, fl0, th_th, th_k1, th_k2, th_k3, th_k4, th_k5, th_k6, th_k7, th_k8, th_k9, th_k10, th_k11, th_k12, th_k13, th_k14, th_k15, th_k16, th_k17, th_0_5, th_0_6, th_0_7, th_0_10, th_0_18, th_0_19, th_0_21, th_0_22, th_0_24, th_0_26, th_0_27]
    · exact z
