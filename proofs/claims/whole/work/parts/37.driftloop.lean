theorem ldS_o {σ : St} {c k i : Nat} {F T : Int32} {to : Option Nat} (h4 : k ≠ 4) (h5 : k ≠ 5) (h6 : k ≠ 6) (h23 : k ≠ 23) : ldS σ c F T to k i = σ k i := by
  unfold ldS
  cases to with
  | none => dsimp only; rw [stU_k h23, stU_k h5, stU_k h4]
  | some d =>
    dsimp only
    by_cases g : σ 2 d = 0
    · rw [if_pos g, stU_k h5, stU_k h4, stU_k h5, stU_k h4]
    · rw [if_neg g, stU_k h6, stU_k h5, stU_k h4]
theorem ldM_o {μ : St} {c k i : Nat} {F T : Int32} {to : Option Nat} (h1 : k ≠ 1) : ldM μ c F T to k i = μ k i := by
  unfold ldM
  cases to with
  | none => dsimp only; rw [stU_k h1, stU_k h1, stU_k h1]
  | some d =>
    dsimp only
    by_cases g : μ 3 d = 0
    · rw [if_pos g, stU_k h1, stU_k h1, stU_k h1, stU_k h1]
    · rw [if_neg g, stU_k h1, stU_k h1, stU_k h1]
theorem ldS_4 {σ : St} {c a : Nat} {F T : Int32} {to : Option Nat} (ha : a ≠ c) : ldS σ c F T to 4 a = σ 4 a ∨ ldS σ c F T to 4 a = σ 4 a + F := by
  unfold ldS
  cases to with
  | none => dsimp only; left; rw [stU_k (by decide), stU_k (by decide), stU_i ha]
  | some d =>
    dsimp only
    by_cases g : σ 2 d = 0
    · rw [if_pos g, stU_k (by decide)]
      by_cases e : a = d
      · right; subst e; rw [stU_same]
      · left; rw [stU_i e, stU_k (by decide), stU_i ha]
    · left; rw [if_neg g, stU_k (by decide), stU_k (by decide), stU_i ha]
theorem ldS_5 {σ : St} {c a : Nat} {F T : Int32} {to : Option Nat} (ha : a ≠ c) : ldS σ c F T to 5 a = σ 5 a ∨ ldS σ c F T to 5 a = σ 5 a + T := by
  unfold ldS
  cases to with
  | none => dsimp only; left; rw [stU_k (by decide), stU_i ha, stU_k (by decide)]
  | some d =>
    dsimp only
    by_cases g : σ 2 d = 0
    · rw [if_pos g]
      by_cases e : a = d
      · right; subst e; rw [stU_same]
      · left; rw [stU_i e, stU_k (by decide), stU_i ha, stU_k (by decide)]
    · left; rw [if_neg g, stU_k (by decide), stU_i ha, stU_k (by decide)]
theorem ldS_6 {σ : St} {c b : Nat} {F T : Int32} {to : Option Nat} (hb : to ≠ some b) : ldS σ c F T to 6 b = σ 6 b := by
  unfold ldS
  cases to with
  | none => dsimp only; rw [stU_k (by decide), stU_k (by decide), stU_k (by decide)]
  | some d =>
    have hbd : b ≠ d := fun e => hb (by rw [e])
    dsimp only
    by_cases g : σ 2 d = 0
    · rw [if_pos g, stU_k (by decide), stU_k (by decide), stU_k (by decide), stU_k (by decide)]
    · rw [if_neg g, stU_i hbd, stU_k (by decide), stU_k (by decide)]
theorem ldF {σ : St} {c : Nat} {F T : Int32} {to : Option Nat} : Fr (ldS σ c F T to) σ := by
  unfold ldS
  cases to with
  | none => exact ((Fr.rf.st rfl).st rfl).st rfl
  | some d =>
    dsimp only
    split
    · exact (((Fr.rf.st rfl).st rfl).st rfl).st rfl
    · exact ((Fr.rf.st rfl).st rfl).st rfl
/-- the drift of an hour, on both sides -/
theorem drift_eq {e : Prop} {nS nM hr : Nat} {K : Int} (hK : K ≤ 400000) {w : Nat} (hw : w < 4) : ∀ (j c n n' : Nat) (σ μ : St), c + j = 24 → j < n → j < n' → Jn e nS nM hr K σ μ → σ 0 5 = ι w → Gr w c σ μ → ∃ σ' μ', sp_X0_drift_21 n (ι c) σ = some σ' ∧ sp_X10_hour_168 n' (ι c) μ = sp_X10_hour_187 200 (0 : Int32) μ' ∧ Jn e nS nM hr K σ' μ' ∧ Fr σ' σ := by
  intro j
  induction j with
  | zero =>
    intro c n n' σ μ h1 h2 h3 h e5 hg
    obtain ⟨n, rfl⟩ : ∃ q, n = q + 1 := ⟨n - 1, by omega⟩
    obtain ⟨n', rfl⟩ : ∃ q, n' = q + 1 := ⟨n' - 1, by omega⟩
    have hc : c = 24 := by omega
    subst hc
    have q : (24 : Int32) ≤ ι 24 := by decide
    exact ⟨σ, μ, by rw [sp_X0_drift_21, if_pos q], by rw [sp_X10_hour_168, if_pos q], h, Fr.rf⟩
  | succ j ih =>
    intro c n n' σ μ h1 h2 h3 h e5 hg
    obtain ⟨n, rfl⟩ : ∃ q, n = q + 1 := ⟨n - 1, by omega⟩
    obtain ⟨n', rfl⟩ : ∃ q, n' = q + 1 := ⟨n' - 1, by omega⟩
    have hc : c < 24 := by omega
    have q : ¬ (24 : Int32) ≤ ι c := by rw [show (24 : Int32) = ι 24 from rfl, ι_le (by omega) (by omega)]; omega
    obtain ⟨r1, r2, r3, r4⟩ := id h
    have m5 : μ 0 5 = ι w := (r1 0 5 (Or.inr (Or.inl rfl))).symm.trans e5
    obtain ⟨x1, x2, x3, x4, x5, x6, x7⟩ := hg c (Nat.le_refl c) hc
    have c1 : sp_X0_letGo (ι c) (oI (bs c w)) σ = _ := ld9 hc hw
    have c2 := ld10 (μ := μ) hc hw m5
    rw [← x1, ← x2] at c2
    have ht : ∀ d, bs c w = some d → d < 24 ∧ d ≠ c := fun d hd => ⟨bs_lt hc hw hd, fun e => bs_ne c hc w hw (by rw [hd, e])⟩
    have g3 : Jn e nS nM hr K (ldS σ c (σ 24 c) (σ 25 c) (bs c w)) (ldM μ c (σ 24 c) (σ 25 c) (bs c w)) := ⟨ldR r1 hc (fun d hd => (ht d hd).1) _ _, ldB r2, ld0 r3, ldI hK r4 hc ht x3 x4 x5 x6 x7⟩
    have g4 : Gr w (c + 1) (ldS σ c (σ 24 c) (σ 25 c) (bs c w)) (ldM μ c (σ 24 c) (σ 25 c) (bs c w)) := by
      intro a ha ha24
      have hac : a ≠ c := by omega
      obtain ⟨y1, y2, y3, y4, y5, y6, y7⟩ := hg a (by omega) ha24
      have ba := r4.b4 ha24
      have bc := r4.b4 hc
      have o2 : ∀ d, ldS σ c (σ 24 c) (σ 25 c) (bs c w) 2 d = σ 2 d := fun d => ldS_o (by decide) (by decide) (by decide) (by decide)
      have o24 : ldS σ c (σ 24 c) (σ 25 c) (bs c w) 24 a = σ 24 a := ldS_o (by decide) (by decide) (by decide) (by decide)
      have o25 : ldS σ c (σ 24 c) (σ 25 c) (bs c w) 25 a = σ 25 a := ldS_o (by decide) (by decide) (by decide) (by decide)
      have v4 : (σ 4 a).toInt ≤ (ldS σ c (σ 24 c) (σ 25 c) (bs c w) 4 a).toInt := by
        rcases ldS_4 (σ := σ) (F := σ 24 c) (T := σ 25 c) (to := bs c w) hac with e | e
        · rw [e]; exact Int.le_refl _
        · rw [e, t_add (by omega) (by omega)]; omega
      have v5 : (σ 5 a).toInt ≤ (ldS σ c (σ 24 c) (σ 25 c) (bs c w) 5 a).toInt := by
        rcases ldS_5 (σ := σ) (F := σ 24 c) (T := σ 25 c) (to := bs c w) hac with e | e
        · rw [e]; exact Int.le_refl _
        · rw [e, t_add (by omega) (by omega)]; omega
      rw [o24, o25, ldM_o (by decide), ldM_o (by decide)]
      refine ⟨y1, y2, y3, by omega, y5, by omega, fun d hd hn => ?_⟩
      have hd24 := bs_lt ha24 hw hd
      have hne : bs c w ≠ some d := by
        intro e
        have q1 := (bs_op c hc w hw d hd24).mp e
        have q2 := (bs_op a ha24 w hw d hd24).mp hd
        rw [q1] at q2
        exact hac (Option.some.inj q2).symm
      rw [o2] at hn ⊢
      rw [ldS_6 hne]
      exact y7 d hd hn
    obtain ⟨σ', μ', g5, g6, g7⟩ := ih (c + 1) n n' _ _ (by omega) (by omega) (by omega) g3 (by rw [ldS_o (by decide) (by decide) (by decide) (by decide)]; exact e5) g4
    refine ⟨σ', μ', ?_, ?_, g7.1, g7.2.tr ldF⟩
    · rw [sp_X0_drift_21, if_neg q, e5, bs9 c hc w hw]
      simp only [b1]
      rw [c1]
      simp only [ι_one]
      exact g5
    · rw [sp_X10_hour_168, if_neg q, c2]
      simp only [b1, ι_one]
      exact g6
