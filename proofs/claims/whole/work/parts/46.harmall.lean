/-- water: the class stores what is there already, or where nobody looks -/
theorem hSw {e : Prop} {nS nM : Nat} {K : Int} {σ μ : St} (h : Rd (Dm e) σ μ) (hx : Ex e σ) (hi : I1 nS nM K σ) {c : Nat} (hc : c < 24) (hw : σ 2 c = 0) {H : Int32} (hH : H = tabH (σ 2 c)) : Rd (Dm e) (hS 6 c 7 c 8 c 9 c H σ) μ := by
  by_cases he : e
  · obtain ⟨x7, x8, x9⟩ := hx he c hc hw
    have b := hi.2.2.1 c hc
    rw [hw, show (tabH 0).toInt = 0 by decide] at b
    have x6 : σ 6 c = 0 := Int32.toInt_inj.mp (show (σ 6 c).toInt = 0 by omega)
    rw [hw] at hH
    subst hH
    unfold hS
    rw [x6, x7, x8, show (0 : Int32) + iMin (0 / 100) (0 - 0) = 0 by decide]
    simp only [if_pos (show (0 : Int32) ≤ tabH 0 / 20 by decide)]
    have := stU_self σ 8 c
    rw [x8] at this
    rw [this]
    exact h
  · have d8 : ¬ Dm e 8 c := fun q => he q.1
    have d9 : ¬ Dm e 9 c := fun q => he q.1
    unfold hS
    by_cases g : σ 6 c ≤ H / 20
    · simp only [if_pos g]; exact h.left d8
    · simp only [if_neg g]; exact (h.left d8).left d9
theorem hSX {e : Prop} {σ : St} {nS nM : Nat} {K : Int} (hx : Ex e σ) (hi : I1 nS nM K σ) {c : Nat} (hc : c < 24) {H : Int32} (hH : H = tabH (σ 2 c)) : Ex e (hS 6 c 7 c 8 c 9 c H σ) := by
  intro he a ha hw
  rw [hS_o (by omega) (by omega)] at hw
  obtain ⟨x7, x8, x9⟩ := hx he a ha hw
  rw [hS_o (by omega) (by omega)]
  by_cases ea : a = c
  · subst ea
    have b := hi.2.2.1 a hc
    rw [hw, show (tabH 0).toInt = 0 by decide] at b
    have x6 : σ 6 a = 0 := Int32.toInt_inj.mp (show (σ 6 a).toInt = 0 by omega)
    rw [hw] at hH
    subst hH
    refine ⟨x7, ?_, ?_⟩
    · unfold hS
      rw [x6, x7, x8]
      simp only [if_pos (show (0 : Int32) ≤ tabH 0 / 20 by decide)]
      rw [stU_same]; decide
    · unfold hS
      rw [x6, x7, x8]
      simp only [if_pos (show (0 : Int32) ≤ tabH 0 / 20 by decide)]
      rw [stU_k (by decide)]; exact x9
  · rw [hS_o (fun q => ea q.2) (by omega), hS_o (by omega) (fun q => ea q.2)]
    exact ⟨x7, x8, x9⟩
theorem hS_r {nM : Nat} {σ μ : St} (h : Bo nM σ μ) {c : Nat} {H : Int32} : Bo nM σ (hS 1 (48 + c) 1 (72 + c) 1 (96 + c) 1 (120 + c) H μ) := by
  unfold hS
  by_cases g : μ 1 (48 + c) ≤ H / 20
  · simp only [if_pos g]; exact h.right (by decide)
  · simp only [if_neg g]; exact (h.right (by decide)).right (by decide)
/-- what harm leaves: kinds, depths; signatures stay or go -/
def Fh (σ' σ : St) : Prop := σ' 2 = σ 2 ∧ σ' 3 = σ 3 ∧ ∀ c, σ' 9 c = σ 9 c ∨ σ' 9 c = 0
theorem Fh.rf {σ : St} : Fh σ σ := ⟨rfl, rfl, fun _ => Or.inl rfl⟩
theorem Fh.tr {a b c : St} (h : Fh a b) (g : Fh b c) : Fh a c := ⟨h.1.trans g.1, h.2.1.trans g.2.1, fun i => (h.2.2 i).elim (fun e => (g.2.2 i).imp (fun f => e.trans f) (fun f => e.trans f)) Or.inr⟩
theorem hSF {σ : St} {c : Nat} {H : Int32} : Fh (hS 6 c 7 c 8 c 9 c H σ) σ := by
  refine ⟨funext fun i => hS_o (by omega) (by omega), funext fun i => hS_o (by omega) (by omega), fun i => ?_⟩
  unfold hS
  by_cases g : σ 6 c ≤ H / 20
  · simp only [if_pos g]; exact Or.inl (stU_k (by decide))
  · simp only [if_neg g]
    by_cases e : i = c
    · subst e; exact Or.inr (stU_same _ _ _ _)
    · rw [stU_i e]; exact Or.inl (stU_k (by decide))
/-- shores and birds of an hour, on both sides -/
theorem harm_eq {e : Prop} {nS nM hr : Nat} {K : Int} : ∀ (j c n n' : Nat) (σ μ : St), c + j = 24 → j < n → j < n' → Jn e nS nM hr K σ μ → Ex e σ → ∃ σ' μ', sp_X0_harmShores_2 n (ι c) σ = some σ' ∧ sp_X10_hour_309 n' (ι c) μ = some μ' ∧ Jn e nS nM hr K σ' μ' ∧ Ex e σ' ∧ Fh σ' σ := by
  intro j
  induction j with
  | zero =>
    intro c n n' σ μ h1 h2 h3 h hx
    obtain ⟨n, rfl⟩ : ∃ q, n = q + 1 := ⟨n - 1, by omega⟩
    obtain ⟨n', rfl⟩ : ∃ q, n' = q + 1 := ⟨n' - 1, by omega⟩
    have hc : c = 24 := by omega
    subst hc
    have q : (24 : Int32) ≤ ι 24 := by decide
    exact ⟨σ, μ, by rw [sp_X0_harmShores_2, if_pos q], by rw [sp_X10_hour_309, if_pos q], h, hx, Fh.rf⟩
  | succ j ih =>
    intro c n n' σ μ h1 h2 h3 h hx
    obtain ⟨n, rfl⟩ : ∃ q, n = q + 1 := ⟨n - 1, by omega⟩
    obtain ⟨n', rfl⟩ : ∃ q, n' = q + 1 := ⟨n' - 1, by omega⟩
    have hc : c < 24 := by omega
    have q : ¬ (24 : Int32) ≤ ι c := by rw [show (24 : Int32) = ι 24 from rfl, ι_le (by omega) (by omega)]; omega
    obtain ⟨r1, r2, r3, r4⟩ := id h
    have e2 : μ 3 c = σ 2 c := (r1 2 c hc).symm
    obtain ⟨k, hk, ek⟩ := kd r3 hc
    by_cases g : σ 2 c = 0
    · obtain ⟨σ', μ', g1, g2, g3⟩ := ih (c + 1) n n' _ μ (by omega) (by omega) (by omega) ⟨hSw r1 hx r4 hc g rfl, hSB r2, hS0 r3, hS1 r4⟩ (hSX hx r4 hc rfl)
      refine ⟨σ', μ', by rw [harm9 r3 hc]; exact g1, ?_, g3.1, g3.2.1, g3.2.2.tr hSF⟩
      rw [sp_X10_hour_309, if_neg q]
      simp only [ι_nat (show c < 100000 by omega), ix2 hc (show 24 < 100000 by omega), e2, ι_one]
      rw [if_pos g]
      exact g2
    · obtain ⟨σ', μ', g1, g2, g3⟩ := ih (c + 1) n n' _ (hS 1 (48 + c) 1 (72 + c) 1 (96 + c) 1 (120 + c) (tabH (σ 2 c)) μ) (by omega) (by omega) (by omega) ⟨hSR r1 hc, hS_r (hSB r2), hS0 r3, hS1 r4⟩ (hSX hx r4 hc rfl)
      refine ⟨σ', μ', by rw [harm9 r3 hc]; exact g1, ?_, g3.1, g3.2.1, g3.2.2.tr hSF⟩
      rw [sp_X10_hour_309, if_neg q]
      simp only [ι_nat (show c < 100000 by omega), ix2 hc (show 24 < 100000 by omega), ι_one]
      rw [if_neg (by rw [e2]; exact g), suf10 hc hk (e2.trans ek) (by rw [e2]; exact g), e2]
      exact g2
