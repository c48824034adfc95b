theorem suf10 {μ : St} {c k : Nat} (hc : c < 24) (hk : k < 4) (ek : μ 3 c = ι k) (h0 : ¬ μ 3 c = 0) : sp_X10_suffer (ι c) μ = some (hS 1 (48 + c) 1 (72 + c) 1 (96 + c) 1 (120 + c) (tabH (μ 3 c)) μ) := by
  unfold sp_X10_suffer
  have hh : ∀ x, sp_X10_holds (ι c) (stU μ 1 (96 + c) x) = some (tabH (μ 3 c)) := fun x => by
    have e3 : stU μ 1 (96 + c) x 3 c = μ 3 c := stU_k (by decide)
    rw [holds10 hc hk (by rw [e3]; exact ek) (by rw [e3]; exact h0), e3]
  simp only [i48, i72, i96, i120, ι_nat (show 48 + c < 100000 by omega), ι_nat (show 72 + c < 100000 by omega), ι_nat (show 96 + c < 100000 by omega), ι_nat (show 120 + c < 100000 by omega), ix2 (show 48 + c < 174 by omega) (show 174 < 100000 by omega), ix2 (show 72 + c < 174 by omega) (show 174 < 100000 by omega), ix2 (show 96 + c < 174 by omega) (show 174 < 100000 by omega), ix2 (show 120 + c < 174 by omega) (show 174 < 100000 by omega), sl, least_eq, b1, hh]
  unfold hS
  by_cases g : μ 1 (48 + c) ≤ tabH (μ 3 c) / 20
  · rw [if_pos g, stU_self]
    dsimp only
    rw [if_pos g]
  · rw [if_neg g]
    dsimp only
    rw [if_neg g]
