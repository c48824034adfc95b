theorem lo193 {μ : St} {c : Nat} (hc : c < 24) {T f F : Int32} : sp_X10_look_193 (ι c) T f (ι c) F μ = some (stU (stU μ 5 c F) 5 (24 + c) (if f = 0 then T else 0)) := by
  unfold sp_X10_look_193
  simp only [i24, ι_nat (show c < 100000 by omega), ι_nat (show 24 + c < 100000 by omega), ix2 (show c < 48 by omega) (show 48 < 100000 by omega), ix2 (show 24 + c < 48 by omega) (show 48 < 100000 by omega), sl]
  by_cases q : f = 0
  · rw [if_pos q, if_pos q]
  · rw [if_neg q, if_neg q]
theorem lo178 {μ : St} {c : Nat} (hc : c < 24) {F T f : Int32} : sp_X10_look_178 (ι c) F T f μ = some (stU (stU μ 5 c (if f = 0 then F else 0)) 5 (24 + c) (if f = 0 then T else 0)) := by
  unfold sp_X10_look_178
  rw [lo193 hc, lo193 hc]
  by_cases q : f = 0
  · simp only [if_pos q]
  · simp only [if_neg q]
theorem lo94w {nS nM hr : Nat} {σ μ : St} {c w : Nat} (hc : c < 24) (hw : w < 4) (hk : μ 3 c = 0) (e5 : μ 0 5 = ι w) (e6 : μ 0 6 = σ 0 6) (hf : ∀ b, b < 20 → μ 11 b = σ 18 b) {y : Option Nat} (hy : sp_X10_boomOn (ι (bor c w)) μ = some (oI y)) (hy20 : ∀ b, y = some b → b < 20) (F T : Int32) :
    sp_X10_look_94 (ι c) F T μ = some (loM μ c (dec σ F T y)) := by
  unfold sp_X10_look_94 dec loM
  have k117 : ∀ y11, sp_X10_look_117 (ι c) F T y11 μ = (if y11 = -1 then sp_X10_look_152 (ι c) F T y11 μ else if y11 < 0 ∨ 20 ≤ y11.toNatClampNeg then none else if μ 11 y11.toNatClampNeg < μ 0 6 then sp_X10_look_152 (ι c) F T y11 μ else sp_X10_look_153 (ι c) F T y11 1 μ) := by
    intro y11
    unfold sp_X10_look_117
    simp only [ι_nat (show c < 100000 by omega), ix2 hc (show 24 < 100000 by omega)]
    rw [if_pos hk]
  by_cases q : F + T ≤ 0
  · rw [if_pos q, if_pos q, k117, if_pos rfl]
    unfold sp_X10_look_152 sp_X10_look_153
    rw [if_pos rfl, lo178 hc]
    simp only [if_pos]
    rfl
  · rw [if_neg q, if_neg q, e5, bor10 c hc w hw]
    simp only [b1]
    rw [hy]
    simp only [k117]
    cases y with
    | none =>
      rw [show oI none = -1 from rfl, if_pos rfl]
      unfold sp_X10_look_152 sp_X10_look_153
      rw [if_pos rfl, lo178 hc]
      simp only [if_pos]
      rfl
    | some b =>
      have hb := hy20 b rfl
      rw [show oI (some b) = ι b from rfl, if_neg (oI_ne' hb)]
      simp only [ι_nat (show b < 100000 by omega), ix2 hb (show 20 < 100000 by omega), hf b hb, e6]
      by_cases p : σ 18 b < σ 0 6
      · rw [if_pos p, if_pos p]
        unfold sp_X10_look_152 sp_X10_look_153
        rw [if_neg (oI_ne' hb), if_pos rfl]
        simp only [i148, ι_nat (show 148 + b < 100000 by omega), ix2 (show 148 + b < 174 by omega) (show 174 < 100000 by omega), sl]
        rw [lo178 hc]
        simp only [if_pos]
        rfl
      · rw [if_neg p, if_neg p]
        unfold sp_X10_look_153
        rw [if_neg (oI_ne' hb), if_neg (by decide), lo178 hc]
        simp only [if_neg (show ¬ (1 : Int32) = 0 by decide)]
        rfl
theorem lo94s {μ : St} {c : Nat} (hc : c < 24) (hk : ¬ μ 3 c = 0) {F T : Int32} (q : F + T ≤ 0) : sp_X10_look_94 (ι c) F T μ = some (loM μ c (0, 0, none)) := by
  unfold sp_X10_look_94 sp_X10_look_117
  simp only [ι_nat (show c < 100000 by omega), ix2 hc (show 24 < 100000 by omega)]
  rw [if_pos q, if_neg hk]
  unfold sp_X10_look_153
  rw [if_pos rfl, lo178 hc]
  simp only [if_neg (show ¬ (1 : Int32) = 0 by decide)]
  rfl
theorem look10 {nS nM hr : Nat} {σ μ : St} (h : I0 nS nM hr σ) {c w : Nat} (hc : c < 24) (hw : w < 4) (e5 : μ 0 5 = ι w) (e6 : μ 0 6 = σ 0 6) (h3 : ∀ d, d < 24 → μ 3 d = σ 2 d) (h4 : μ 1 c = σ 4 c) (h5 : μ 1 (24 + c) = σ 5 c) (h6 : ∀ d, d < 24 → μ 1 (48 + d) = σ 6 d) :
    sp_X10_look (ι c) μ = sp_X10_look_94 (ι c) (gof σ (bs c w) (bl (σ 4 c) (σ 0 6))) (got σ (bs c w) (bl (σ 4 c) (σ 0 6)) (bl (σ 5 c) (σ 0 6))) μ := by
  unfold sp_X10_look
  rw [e5, bs10 c hc w hw]
  simp only [b1, sl, i0, i24, ι_nat (show c < 100000 by omega), ι_nat (show 24 + c < 100000 by omega), ix2 (show c < 174 by omega) (show 174 < 100000 by omega), ix2 (show 24 + c < 174 by omega) (show 174 < 100000 by omega), h4, h5, e6]
  rw [show σ 4 c * σ 0 6 / 10 = bl (σ 4 c) (σ 0 6) from rfl, show σ 5 c * σ 0 6 / 10 = bl (σ 5 c) (σ 0 6) from rfl]
  cases hb : bs c w with
  | none => rw [show oI none = -1 from rfl, if_pos rfl]; rfl
  | some d =>
    have hd := bs_lt hc hw hb
    obtain ⟨k, hk, ek⟩ := kd h hd
    have e3 := h3 d hd
    rw [show oI (some d) = ι d from rfl, if_neg (oI_ne hd)]
    simp only [i48, ι_nat (show d < 100000 by omega), ι_nat (show 48 + d < 100000 by omega), ix2 hd (show 24 < 100000 by omega), ix2 (show 48 + d < 174 by omega) (show 174 < 100000 by omega), e3, h6 d hd]
    unfold got gof
    by_cases g : σ 2 d = 0
    · simp only [if_pos g]
    · simp only [if_neg g]
      rw [holds10 (k := k) hd hk (by rw [e3]; exact ek) (by rw [e3]; exact g), e3]
      simp only [least_eq]
