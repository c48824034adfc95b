/-! skimmers -/
def sf (p f fr : Int32) : Int32 := iMin (iMin p f) fr
def sth (p F t fr : Int32) : Int32 := iMin (iMin ((p - F) / 2) t) (fr - F)
theorem ft9 {σ : St} {m : Nat} (hm : m < 20) (f : Int32) : sp_X4_freshTaken (ι m) f σ = some (sf (σ 18 m) f (σ 19 m - σ 20 m)) := by
  unfold sp_X4_freshTaken sf
  simp only [ι_nat (show m < 100000 by omega), ix2 hm (show 20 < 100000 by omega), sl]
theorem tt9 {σ : St} {m : Nat} (hm : m < 20) (F t : Int32) : sp_X4_thickTaken (ι m) F t σ = some (sth (σ 18 m) F t (σ 19 m - σ 20 m)) := by
  unfold sp_X4_thickTaken sth
  simp only [ι_nat (show m < 100000 by omega), ix2 hm (show 20 < 100000 by omega), sl]
def skS (k4 i4 k5 i5 k20 i20 : Nat) (F T : Int32) (σ : St) : St := stU (stU (stU σ k4 i4 (σ k4 i4 - F)) k5 i5 (σ k5 i5 - T)) k20 i20 (σ k20 i20 + (F + T))
theorem sk9 {nM : Nat} {σ : St} {m c n : Nat} (hM : nM ≤ 20) (h14 : σ 14 0 = ι nM) (hm : m < nM) (h15 : σ 15 m = 1) (hc : c < 24) (h16 : σ 16 m = ι c) {F T : Int32} (hF : F = sf (σ 18 m) (σ 4 c) (σ 19 m - σ 20 m)) (hT : T = sth (σ 18 m) F (σ 5 c) (σ 19 m - σ 20 m)) : sp_X0_skim_2 (n + 1) (ι m) σ = sp_X0_skim_2 n (ι (m + 1)) (skS 4 c 5 c 20 m F T σ) := by
  have q : ¬ ι nM ≤ ι m := by rw [ι_le (by omega) (by omega)]; omega
  have hm20 : m < 20 := by omega
  rw [sp_X0_skim_2, h14, if_neg q]
  simp only [ι_nat (show m < 100000 by omega), ix2 hm20 (show 20 < 100000 by omega), h15, h16, ι_nat (show c < 100000 by omega), ix2 hc (show 24 < 100000 by omega), sl, ft9 hm20, tt9 hm20, b1, ι_one]
  rw [if_pos trivial, ← hF, ← hT]
  unfold skS
  rw [stU_k (show (5 : Nat) ≠ 4 by decide), stU_k (show (20 : Nat) ≠ 5 by decide), stU_k (show (20 : Nat) ≠ 4 by decide)]
theorem sk10 {μ : St} {m c : Nat} (hm : m < 20) (hc : c < 24) (h9 : μ 9 m = ι c) {F T : Int32} (hF : F = sf (μ 11 m) (μ 1 c) (μ 12 m - μ 1 (148 + m))) (hT : T = sth (μ 11 m) F (μ 1 (24 + c)) (μ 12 m - μ 1 (148 + m))) : sp_X10_skim (ι m) μ = some (skS 1 c 1 (24 + c) 1 (148 + m) F T μ) := by
  unfold sp_X10_skim
  unfold sf at hF
  unfold sth at hT
  simp only [ι_nat (show m < 100000 by omega), ix2 hm (show 20 < 100000 by omega), h9, sl, i0, i24, i148, ι_nat (show c < 100000 by omega), ι_nat (show 24 + c < 100000 by omega), ι_nat (show 148 + m < 100000 by omega), ix2 (show c < 174 by omega) (show 174 < 100000 by omega), ix2 (show 24 + c < 174 by omega) (show 174 < 100000 by omega), ix2 (show 148 + m < 174 by omega) (show 174 < 100000 by omega), least_eq, b1]
  rw [← hF, ← hT]
  unfold skS
  rw [stU_i (show 24 + c ≠ c by omega), stU_i (show 148 + m ≠ 24 + c by omega), stU_i (show 148 + m ≠ c by omega)]
