/-! what shores give back -/
def bk (k p : Int32) : Int32 := if tabB k = 0 then 0 else p / tabB k
theorem backOf9 {nS nM hr : Nat} {σ : St} (h : I0 nS nM hr σ) {c : Nat} (hc : c < 24) (p : Int32) : sp_X2_backOf (ι c) p σ = some (bk (σ 2 c) p) := by
  obtain ⟨k, hk, e⟩ := kd h hc
  unfold sp_X2_backOf bk
  simp only [ι_nat (show c < 100000 by omega), ix2 hc (show 24 < 100000 by omega), sl]
  rw [e]
  simp only [ι_nat (show k < 100000 by omega), ix2 hk (show 4 < 100000 by omega)]
  by_cases q : tabB (ι k) = 0
  · rw [if_pos q, if_pos q]
  · rw [if_neg q, if_neg q, if_neg q]
theorem back10 {μ : St} {c k : Nat} (hc : c < 24) (hk : k < 4) (e : μ 3 c = ι k) (p : Int32) : sp_X10_back (ι c) p μ = some (bk (μ 3 c) p) := by
  unfold sp_X10_back bk
  simp only [ι_nat (show c < 100000 by omega), ix2 hc (show 24 < 100000 by omega)]
  rw [e]
  rcases (show k = 0 ∨ k = 1 ∨ k = 2 ∨ k = 3 by omega) with rfl | rfl | rfl | rfl
  · rfl
  · rfl
  · rfl
  · rfl
theorem bk_v {k : Nat} (hk : k < 4) {p : Int32} (h0 : 0 ≤ p.toInt) : 0 ≤ (bk (ι k) p).toInt ∧ (bk (ι k) p).toInt ≤ p.toInt := by
  unfold bk
  rcases (show k = 0 ∨ k = 1 ∨ k = 2 ∨ k = 3 by omega) with rfl | rfl | rfl | rfl
  · rw [if_pos (by decide)]; exact ⟨Int.le_refl 0, h0⟩
  · rw [if_neg (by decide), t_div h0 (by decide), show (tabB (ι 1)).toInt = 5 by decide]; omega
  · rw [if_neg (by decide), t_div h0 (by decide), show (tabB (ι 2)).toInt = 10 by decide]; omega
  · rw [if_pos (by decide)]; exact ⟨Int.le_refl 0, h0⟩
theorem gb9 {nS nM hr : Nat} {σ : St} (h : I0 nS nM hr σ) {c n : Nat} (hc : c < 24) : sp_X0_giveBack_2 (n + 1) (ι c) σ = sp_X0_giveBack_2 n (ι (c + 1)) (match low (σ 2) c with | none => σ | some d => stU (stU σ 6 c (σ 6 c - bk (σ 2 c) (σ 6 c))) 5 d (σ 5 d + bk (σ 2 c) (σ 6 c))) := by
  have q : ¬ (24 : Int32) ≤ ι c := by rw [show (24 : Int32) = ι 24 from rfl, ι_le (by omega) (by omega)]; omega
  rw [sp_X0_giveBack_2, if_neg q, low9 hc]
  simp only [b1]
  cases hl : low (σ 2) c with
  | none => rw [show oI none = -1 from rfl, if_pos rfl, ι_one]
  | some d =>
    have hd := low_ok hc d hl
    rw [show oI (some d) = ι d from rfl, if_neg (oI_ne hd)]
    simp only [ι_nat (show c < 100000 by omega), ix2 hc (show 24 < 100000 by omega), backOf9 h hc, ι_nat (show d < 100000 by omega), ix2 hd (show 24 < 100000 by omega), sl, ι_one]
    rw [stU_k (by decide)]
theorem gb10 {nS nM hr : Nat} {σ μ : St} (h : I0 nS nM hr σ) {c n : Nat} (hc : c < 24) (h3 : ∀ d, d < 24 → σ 2 d = μ 3 d) (h168 : μ 1 168 = ι hr) (ht : tdN hr = 6) : sp_X10_hour_187 (n + 1) (ι c) μ = sp_X10_hour_187 n (ι (c + 1)) (if σ 2 c = 0 then μ else match low (σ 2) c with | none => μ | some d => stU (stU μ 1 (48 + c) (μ 1 (48 + c) - bk (σ 2 c) (μ 1 (48 + c)))) 1 (24 + d) (μ 1 (24 + d) + bk (σ 2 c) (μ 1 (48 + c)))) := by
  have q : ¬ (24 : Int32) ≤ ι c := by rw [show (24 : Int32) = ι 24 from rfl, ι_le (by omega) (by omega)]; omega
  have hh := h.1.1
  obtain ⟨k, hk, ek⟩ := kd h hc
  rw [sp_X10_hour_187, if_neg q, n168, h168, td10 hr (by omega), ht]
  simp only [b1]
  rw [if_pos (show ι 6 = 6 from rfl), low10 hc]
  simp only [ι_nat (show c < 100000 by omega), ix2 hc (show 24 < 100000 by omega), ← h3 c hc, ι_one]
  rw [← low_congr h3 hc]
  by_cases g : σ 2 c = 0
  · rw [if_pos g, if_pos g]
  · rw [if_neg g, if_neg g]
    cases hl : low (σ 2) c with
    | none => rw [show oI none = -1 from rfl, if_pos rfl]
    | some d =>
      have hd := low_ok hc d hl
      rw [show oI (some d) = ι d from rfl, if_neg (oI_ne hd)]
      have hb : ∀ p, sp_X10_back (ι c) p μ = some (bk (σ 2 c) p) := fun p => by rw [h3 c hc]; exact back10 hc hk ((h3 c hc).symm.trans ek) p
      simp only [i48, i24, ι_nat (show 48 + c < 100000 by omega), ι_nat (show 24 + d < 100000 by omega), ix2 (show 48 + c < 174 by omega) (show 174 < 100000 by omega), ix2 (show 24 + d < 174 by omega) (show 174 < 100000 by omega), hb, sl]
      rw [stU_i (by omega)]
