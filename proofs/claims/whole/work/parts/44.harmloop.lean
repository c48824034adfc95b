/-- water has no birds and no signatures (of the bay itself, not of the trial) -/
def Ex (e : Prop) (σ : St) : Prop := e → ∀ c, c < 24 → σ 2 c = 0 → σ 7 c = 0 ∧ σ 8 c = 0 ∧ σ 9 c = 0
theorem hS_o {σ : St} {c k i : Nat} {H : Int32} (h : ¬ (k = 8 ∧ i = c)) (h2 : ¬ (k = 9 ∧ i = c)) : hS 6 c 7 c 8 c 9 c H σ k i = σ k i := by
  unfold hS
  try dsimp only
  by_cases g : σ 6 c ≤ H / 20
  · rw [if_pos g, stU_ite, if_neg h]
  · rw [if_neg g, stU_ite, if_neg h2, stU_ite, if_neg h]
theorem hS0 {nS nM hr : Nat} {σ : St} (h : I0 nS nM hr σ) {c : Nat} {H : Int32} : I0 nS nM hr (hS 6 c 7 c 8 c 9 c H σ) := by
  unfold hS
  try dsimp only
  by_cases g : σ 6 c ≤ H / 20
  · rw [if_pos g]; exact h.oth rfl
  · rw [if_neg g]; exact (h.oth rfl).oth rfl
theorem hS1 {nS nM : Nat} {K : Int} {σ : St} (h : I1 nS nM K σ) {c : Nat} {H : Int32} : I1 nS nM K (hS 6 c 7 c 8 c 9 c H σ) := by
  unfold hS
  try dsimp only
  by_cases g : σ 6 c ≤ H / 20
  · rw [if_pos g]; exact h.oth rfl
  · rw [if_neg g]; exact (h.oth rfl).oth rfl
theorem hSB {nM : Nat} {σ μ : St} (h : Bo nM σ μ) {c : Nat} {H : Int32} : Bo nM (hS 6 c 7 c 8 c 9 c H σ) μ := by
  unfold hS
  by_cases g : σ 6 c ≤ H / 20
  · rw [if_pos g]; exact h.left rfl
  · rw [if_neg g]; exact (h.left rfl).left rfl
