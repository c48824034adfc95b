/-! leaks -/
def tdN (h : Nat) : Nat := if 6 < h % 12 then 12 - h % 12 else h % 12
theorem td9' : ∀ a, a < 56 → ∀ b, b < 56 → sp_X0_tideOf (ι (56 * a + b)) = some (ι (tdN (56 * a + b))) := by decide +kernel
theorem td10' : ∀ a, a < 56 → ∀ b, b < 56 → sp_X10_tide (ι (56 * a + b)) = some (ι (tdN (56 * a + b))) := by decide +kernel
theorem td9 (h : Nat) (hh : h < 3001) : sp_X0_tideOf (ι h) = some (ι (tdN h)) := by
  have := td9' (h / 56) (by omega) (h % 56) (by omega)
  rwa [Nat.div_add_mod] at this
theorem td10 (h : Nat) (hh : h < 3001) : sp_X10_tide (ι h) = some (ι (tdN h)) := by
  have := td10' (h / 56) (by omega) (h % 56) (by omega)
  rwa [Nat.div_add_mod] at this
theorem tdN_le (h : Nat) : tdN h ≤ 6 := by
  unfold tdN
  by_cases q : 6 < h % 12
  · rw [if_pos q]; omega
  · rw [if_neg q]; omega
/-- what leaks -/
def lk (L r t : Int32) : Int32 := if L / 1000 - t ≤ 0 then 0 else iMin (r * (L / 1000 - t)) L
theorem lk_v {L : Int32} {r t : Nat} (h0 : 0 ≤ L.toInt) (h1 : L.toInt ≤ 400000) (hr : r < 100) (ht : t ≤ 6) : 0 ≤ (lk L (ι r) (ι t)).toInt ∧ (lk L (ι r) (ι t)).toInt ≤ L.toInt := by
  unfold lk
  have a1 : (L / 1000).toInt = L.toInt / 1000 := t_div h0 (by decide)
  have a2 : (L / 1000 - ι t).toInt = L.toInt / 1000 - t := by rw [t_sub (by rw [a1, ι_toInt (by omega)]; omega) (by rw [a1, ι_toInt (by omega)]; omega), a1, ι_toInt (by omega)]
  by_cases q : L / 1000 - ι t ≤ 0
  · rw [if_pos q]; exact ⟨Int.le_refl 0, h0⟩
  · rw [if_neg q, iMin_int]
    rw [Int32.le_iff_toInt_le, a2] at q
    have z0 : (0 : Int32).toInt = 0 := rfl
    have p1 : (0 : Int) ≤ (r : Int) * (L.toInt / 1000 - t) := Int.mul_nonneg (by omega) (by omega)
    have p2 : (r : Int) * (L.toInt / 1000 - t) ≤ 99 * 400 := Int.mul_le_mul (by omega) (by omega) (by omega) (by omega)
    have a3 : (ι r * (L / 1000 - ι t)).toInt = (r : Int) * (L.toInt / 1000 - t) := by
      rw [t_mul (by rw [ι_toInt (by omega), a2]; omega) (by rw [ι_toInt (by omega), a2]; omega), ι_toInt (by omega), a2]
    rw [a3]
    omega
theorem leakOf9 {σ : St} {s : Nat} (hs : s < 4) (t : Int32) : sp_X8_leakOf (ι s) t σ = some (lk (σ 12 s) (σ 13 s) t) := by
  unfold sp_X8_leakOf lk
  simp only [ι_nat (show s < 100000 by omega), ix2 hs (show 4 < 100000 by omega), sl]
  by_cases q : σ 12 s / 1000 - t ≤ 0
  · rw [if_pos q, if_pos q]
  · rw [if_neg q, if_neg q]
theorem leak10 {μ : St} {s h : Nat} (hs : s < 4) (hh : h < 3001) : sp_X10_leak (ι s) (ι h) μ = some (lk (μ 1 (144 + s)) (μ 7 s) (ι (tdN h))) := by
  unfold sp_X10_leak lk
  rw [td10 h hh]
  simp only [i144, ι_nat (show 144 + s < 100000 by omega), ι_nat (show s < 100000 by omega), ix2 hs (show 4 < 100000 by omega), ix2 (show 144 + s < 174 by omega) (show 174 < 100000 by omega), sl, b1, least_eq]
  by_cases q : μ 1 (144 + s) / 1000 - ι (tdN h) ≤ 0
  · rw [if_pos q, if_neg (by rw [Int32.le_iff_toInt_le] at q; rw [Int32.lt_iff_toInt_lt]; omega)]
  · rw [if_neg q, if_pos (by rw [Int32.le_iff_toInt_le] at q; rw [Int32.lt_iff_toInt_lt]; omega), iMin_comm]
/-- the note of a leak -/
def noteS (k1 i1 k0 i0 : Nat) (l h : Int32) (σ : St) : St := if l ≤ 0 then stU σ k0 i0 (σ k0 i0 + l) else if σ k1 i1 = -1 then stU (stU σ k0 i0 (σ k0 i0 + l)) k1 i1 h else stU σ k0 i0 (σ k0 i0 + l)
theorem stU_comm {σ : St} {k i k2 i2 : Nat} {x y : Int32} (h : ¬ (k = k2 ∧ i = i2)) : stU (stU σ k i x) k2 i2 y = stU (stU σ k2 i2 y) k i x := by
  funext a b
  simp only [stU_ite]
  by_cases q1 : a = k2 ∧ b = i2
  · by_cases q2 : a = k ∧ b = i
    · exact absurd ⟨q2.1.symm.trans q1.1, q2.2.symm.trans q1.2⟩ h
    · rw [if_pos q1, if_neg q2, if_pos q1]
  · rw [if_neg q1, if_neg q1]
theorem note9 {σ : St} {l h : Int32} : sp_X1_noteLeak l h σ = some (noteS 23 1 23 0 l h σ) := by
  unfold sp_X1_noteLeak sp_X1_noteLeak_17 noteS
  by_cases q : l ≤ 0
  · rw [if_pos q, if_pos q]; rfl
  · rw [if_neg q, if_neg q]
    by_cases q2 : σ 23 1 = -1
    · rw [if_pos q2, if_pos q2]
      simp only [sl]
      rw [stU_comm (by decide), stU_i (by decide)]
    · rw [if_neg q2, if_neg q2]; rfl
def lkS (σ : St) (s c : Nat) (l : Int32) : St := noteS 23 1 23 0 l (σ 0 4) (stU (stU σ 12 s (σ 12 s - l)) 4 c (σ 4 c + l))
def lkM (μ : St) (s c : Nat) (l : Int32) : St := noteS 1 170 1 169 l (μ 1 168) (stU (stU μ 1 (144 + s) (μ 1 (144 + s) - l)) 1 c (μ 1 c + l))
theorem lk9 {σ : St} {s c n nS : Nat} (hS : nS ≤ 4) (h10 : σ 10 0 = ι nS) (hs : s < nS) (hc : c < 24) (h11 : σ 11 s = ι c) (t : Int32) : sp_X0_leak_10 t (n + 1) (ι s) σ = sp_X0_leak_10 t n (ι (s + 1)) (lkS σ s c (lk (σ 12 s) (σ 13 s) t)) := by
  have q : ¬ ι nS ≤ ι s := by rw [ι_le (by omega) (by omega)]; omega
  rw [sp_X0_leak_10, h10, if_neg q, leakOf9 (by omega)]
  simp only [b1, sl, ι_nat (show s < 100000 by omega), ix2 (show s < 4 by omega) (show 4 < 100000 by omega), ι_one, note9]
  have e11 : ∀ x, stU σ 12 s x 11 s = ι c := fun x => by rw [stU_k (by decide)]; exact h11
  simp only [e11, ι_nat (show c < 100000 by omega), ix2 hc (show 24 < 100000 by omega)]
  unfold lkS
  simp only [stU_k (show (4 : Nat) ≠ 12 by decide), stU_k (show (0 : Nat) ≠ 12 by decide), stU_k (show (0 : Nat) ≠ 4 by decide)]
theorem lk10 {μ : St} {s c n nS h : Nat} (hS : nS ≤ 4) (h7 : μ 0 7 = ι nS) (hs : s < nS) (hc : c < 24) (h6 : μ 6 s = ι c) (hh : h < 3001) (hhr : μ 1 168 = ι h) : sp_X10_hour_14 (n + 1) (ι s) μ = sp_X10_hour_14 n (ι (s + 1)) (lkM μ s c (lk (μ 1 (144 + s)) (μ 7 s) (ι (tdN h)))) := by
  have q : ¬ ι nS ≤ ι s := by rw [ι_le (by omega) (by omega)]; omega
  rw [sp_X10_hour_14, h7, if_neg q, n168, hhr, leak10 (by omega) hh]
  have e6 : ∀ i x, stU μ 1 i x 6 s = ι c := fun i x => by rw [stU_k (by decide)]; exact h6
  simp only [b1, sl, i144, n169, n170, ι_nat (show 144 + s < 100000 by omega), ι_nat (show s < 100000 by omega), ix2 (show s < 4 by omega) (show 4 < 100000 by omega), ix2 (show 144 + s < 174 by omega) (show 174 < 100000 by omega), e6, i0, ι_nat (show c < 100000 by omega), ix2 (show c < 174 by omega) (show 174 < 100000 by omega), ι_one, stU_self]
  unfold lkM noteS
  have n1 : ∀ x y, stU (stU μ 1 (144 + s) x) 1 c y 1 169 = μ 1 169 := fun x y => by rw [stU_i (by omega), stU_i (by omega)]
  have n2 : ∀ x y, stU (stU μ 1 (144 + s) x) 1 c y 1 170 = μ 1 170 := fun x y => by rw [stU_i (by omega), stU_i (by omega)]
  have n3 : ∀ x y z, stU (stU (stU μ 1 (144 + s) x) 1 c y) 1 169 z 1 170 = μ 1 170 := fun x y z => by rw [stU_i (by omega)]; exact n2 x y
  have n4 : ∀ x y z, stU (stU (stU μ 1 (144 + s) x) 1 c y) 1 169 z 1 168 = ι h := fun x y z => by rw [stU_i (by omega), stU_i (by omega), stU_i (by omega)]; exact hhr
  have n5 : ∀ x, stU μ 1 (144 + s) x 1 c = μ 1 c := fun x => by rw [stU_i (by omega)]
  simp only [n1, n2, n3, n4, n5, hhr]
  by_cases g : lk (μ 1 (144 + s)) (μ 7 s) (ι (tdN h)) ≤ 0
  · rw [if_pos g, if_pos g]
  · rw [if_neg g, if_neg g]
    by_cases g2 : μ 1 170 = -1
    · rw [if_pos g2, if_pos g2]
    · rw [if_neg g2, if_neg g2]
