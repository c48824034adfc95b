theorem hSR {e : Prop} {σ μ : St} (h : Rd (Dm e) σ μ) {c : Nat} (hc : c < 24) {H : Int32} : Rd (Dm e) (hS 6 c 7 c 8 c 9 c H σ) (hS 1 (48 + c) 1 (72 + c) 1 (96 + c) 1 (120 + c) H μ) := by
  have e6 : σ 6 c = μ 1 (48 + c) := h 6 c hc
  have h1 : Rd (Dm e) (stU σ 8 c (σ 8 c + iMin (σ 6 c / 100) (σ 7 c - σ 8 c))) (stU μ 1 (96 + c) (μ 1 (96 + c) + iMin (μ 1 (48 + c) / 100) (μ 1 (72 + c) - μ 1 (96 + c)))) :=
    h.upd dmu (k := 8) (i := c) (Or.inl ⟨trivial, hc⟩) (fun d => by rw [e6, show σ 8 c = μ 1 (96 + c) from h 8 c d, show σ 7 c = μ 1 (72 + c) from h 7 c ⟨d.1, hc⟩])
  unfold hS
  rw [← e6] at h1 ⊢
  by_cases g : σ 6 c ≤ H / 20
  · simp only [if_pos g]; exact h1
  · simp only [if_neg g]; exact h1.upd dmu (k := 9) (i := c) (Or.inl ⟨trivial, hc⟩) (fun _ => rfl)
