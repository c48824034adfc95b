/-! one hour, many hours -/
theorem b1s {α β : Type} (a : α) (f : α → Option β) : b1 (some a) f = f a := rfl
theorem sls {α β : Type} (a : α) (f : α → Option β) : sl a f = f a := rfl
theorem I0.hr {nS nM hr : Nat} {σ : St} (h : I0 nS nM hr σ) (hh : hr + 1 < 3000) : I0 nS nM (hr + 1) (stU σ 0 4 (ι (hr + 1))) := by
  obtain ⟨a1, a2, a3, a4, a5, a6, a7, a8, a9⟩ := h
  exact ⟨⟨hh, stU_same _ _ _ _⟩, a2, a3, a4, a5, a6, a7, a8, a9⟩
theorem Ex.fr {e : Prop} {σ' σ : St} (h : Ex e σ) (f : Fr σ' σ) : Ex e σ' := by
  intro he c hc hw
  rw [f.1] at hw
  rw [f.2.1, f.2.2.1, f.2.2.2.1]
  exact h he c hc hw
theorem Fr.fh {σ' σ : St} (h : Fr σ' σ) : Fh σ' σ := ⟨h.1, h.2.2.2.2, fun c => Or.inl (by rw [h.2.2.2.1])⟩
/-- what is known of an hour's start, on both sides, the hour counted -/
theorem hr_in {e : Prop} {nS nM hr : Nat} {K : Int} {σ μ : St} (h : Jn e nS nM hr K σ μ) (hh : hr + 1 < 3000) : Jn e nS nM (hr + 1) K (stU σ 0 4 (ι (hr + 1))) (stU μ 1 168 (ι (hr + 1))) :=
  ⟨h.1.upd dmu (k := 0) (i := 4) (Or.inl (Or.inl rfl)) (fun _ => rfl), (h.2.1.left rfl).right (by decide), h.2.2.1.hr hh, h.2.2.2.oth rfl⟩
theorem hour_eq {e : Prop} {nS nM hr : Nat} {K : Int} (hK : K ≤ 400000) {σ μ : St} (h : Jn e nS nM hr K σ μ) (hx : Ex e σ) (hh : hr + 1 < 3000) : ∃ σ' μ', (∀ (y : Int32) (n k : Nat), ¬ y ≤ ι k → sp_X0_letPass_2 y (n + 1) (ι k) σ = sp_X0_letPass_2 y n (ι (k + 1)) σ') ∧ sp_X10_hour μ = some μ' ∧ Jn e nS nM (hr + 1) K σ' μ' ∧ Ex e σ' ∧ Fh σ' σ := by
  have h0 := hr_in h hh
  have e4 : σ 0 4 = ι hr := h.2.2.1.1.2
  have e168 : μ 1 168 = ι hr := (h.1 0 4 (Or.inl rfl)).symm.trans e4
  have hnS := h.2.2.1.2.1.1
  have hnM := h.2.2.1.2.2.1.1
  have t6 := tdN_le (hr + 1)
  obtain ⟨σ1, μ1, a1, c1, j1, f1⟩ := leak_eq hK nS 0 200 200 _ _ (by omega) (by omega) (by omega) h0
  obtain ⟨σ2, μ2, a2, c2, j2, f2⟩ := weather_eq hK 24 0 200 200 σ1 μ1 (by omega) (by omega) (by omega) j1
  obtain ⟨w, hw, e52⟩ := j2.2.2.1.2.2.2.1
  obtain ⟨σ3, μ3, a3, c3, j3, e53, g3, f3⟩ := look_eq hK hw 24 0 200 200 σ2 μ2 (by omega) (by omega) (by omega) j2 e52 (fun a ha => absurd ha (by omega))
  obtain ⟨σ4, μ4, a4, c4, j4, f4⟩ := drift_eq hK hw 24 0 200 200 σ3 μ3 (by omega) (by omega) (by omega) j3 e53 (fun a _ ha => g3 a ha)
  have e44 : σ4 0 4 = ι (hr + 1) := j4.2.2.1.1.2
  have e4168 : μ4 1 168 = ι (hr + 1) := (j4.1 0 4 (Or.inl rfl)).symm.trans e44
  have k1 : sp_X0_leak (stU σ 0 4 (ι (hr + 1))) = some σ1 := by
    unfold sp_X0_leak
    rw [stU_same, td9 _ (by omega), b1s]
    exact a1
  have k2 : sp_X0_weather σ1 = some σ2 := a2
  have k3 : sp_X0_drift σ2 = some σ4 := a3.trans a4
  have F4 : Fr σ4 σ := f4.tr (f3.tr (f2.tr (f1.tr (Fr.rf.st rfl))))
  have m4 : sp_X10_hour μ = sp_X10_hour_187 200 (0 : Int32) μ4 := by
    unfold sp_X10_hour
    show sp_X10_hour_14 200 (0 : Int32) (stU μ 1 168 (μ 1 168 + 1)) = _
    rw [e168, ι_one]
    exact c1.trans (c2.trans (c3.trans c4))
  have fin : ∀ {σ5 μ5 : St}, Jn e nS nM (hr + 1) K σ5 μ5 → Fr σ5 σ4 → ∃ σ' μ', b1 (sp_X0_skim σ5) sp_X0_harmShores = some σ' ∧ sp_X10_hour_278 200 (0 : Int32) μ5 = some μ' ∧ Jn e nS nM (hr + 1) K σ' μ' ∧ Ex e σ' ∧ Fh σ' σ := by
    intro σ5 μ5 j5 f5
    obtain ⟨σ6, μ6, a6, c6, j6, f6⟩ := skim_eq hK nM 0 200 200 σ5 μ5 (by omega) (by omega) (by omega) j5
    have F6 : Fr σ6 σ := f6.tr (f5.tr F4)
    obtain ⟨σ7, μ7, a7, c7, j7, x7, f7⟩ := harm_eq 24 0 200 200 σ6 μ6 (by omega) (by omega) (by omega) j6 (hx.fr F6)
    refine ⟨σ7, μ7, ?_, c6.trans c7, j7, x7, f7.tr F6.fh⟩
    rw [show sp_X0_skim σ5 = some σ6 from a6, b1s]
    exact a7
  by_cases ht : tdN (hr + 1) = 6
  · obtain ⟨σ5, μ5, a5, c5, j5, f5⟩ := back_eq hK ht 24 0 200 200 σ4 μ4 (by omega) (by omega) (by omega) j4
    obtain ⟨σ7, μ7, a7, c7, j7, x7, f7⟩ := fin j5 f5
    refine ⟨σ7, μ7, fun y n k hk => ?_, m4.trans (c5.trans c7), j7, x7, f7⟩
    rw [sp_X0_letPass_2, if_neg hk, e4, ι_one, sls, k1, b1s, k2, b1s, k3, b1s, e44, td9 _ (by omega), b1s, if_pos (by rw [ht]; rfl), show sp_X0_giveBack σ4 = some σ5 from a5, b1s]
    cases q : sp_X0_skim σ5 with
    | none => rw [q] at a7; cases a7
    | some σ6 =>
      rw [q, b1s] at a7
      rw [b1s, a7, b1s, ι_one]
  · obtain ⟨σ7, μ7, a7, c7, j7, x7, f7⟩ := fin j4 Fr.rf
    refine ⟨σ7, μ7, fun y n k hk => ?_, m4.trans ((back_no j4.2.2.1 e4168 ht).trans c7), j7, x7, f7⟩
    have n6 : ¬ ι (tdN (hr + 1)) = (6 : Int32) := by rw [show (6 : Int32) = ι 6 from rfl, ι_inj (by omega) (by omega)]; exact ht
    rw [sp_X0_letPass_2, if_neg hk, e4, ι_one, sls, k1, b1s, k2, b1s, k3, b1s, e44, td9 _ (by omega), b1s, if_neg n6]
    cases q : sp_X0_skim σ4 with
    | none => rw [q] at a7; cases a7
    | some σ6 =>
      rw [q, b1s] at a7
      rw [b1s, a7, b1s, ι_one]
/-- many hours -/
theorem pass_eq {e : Prop} {nS nM : Nat} {K : Int} (hK : K ≤ 400000) {H : Nat} (hH : H < 100000) : ∀ (j k n n' hr : Nat) (σ μ : St), k + j = H → j < n → j < n' → Jn e nS nM hr K σ μ → Ex e σ → hr + j < 3000 → ∃ σ' μ', sp_X0_letPass_2 (ι H) n (ι k) σ = some σ' ∧ sp_X10_pass_50 (ι H) n' (ι k) μ = some (μ' 1 168, μ') ∧ (∀ c n2, j < n2 → sp_X10_ahead_60 c (ι H) n2 (ι k) μ = sp_X10_ahead_60 c (ι H) (n2 - j) (ι H) μ') ∧ Jn e nS nM (hr + j) K σ' μ' ∧ Ex e σ' ∧ Fh σ' σ := by
  intro j
  induction j with
  | zero =>
    intro k n n' hr σ μ h1 h2 h3 h hx hh
    obtain ⟨n, rfl⟩ : ∃ q, n = q + 1 := ⟨n - 1, by omega⟩
    obtain ⟨n', rfl⟩ : ∃ q, n' = q + 1 := ⟨n' - 1, by omega⟩
    have hk : k = H := by omega
    subst hk
    have q : ι k ≤ ι k := by rw [ι_le hH hH]; omega
    exact ⟨σ, μ, by rw [sp_X0_letPass_2, if_pos q], by rw [sp_X10_pass_50, if_pos q]; rfl, fun c n2 h2 => rfl, h, hx, Fh.rf⟩
  | succ j ih =>
    intro k n n' hr σ μ h1 h2 h3 h hx hh
    obtain ⟨n, rfl⟩ : ∃ q, n = q + 1 := ⟨n - 1, by omega⟩
    obtain ⟨n', rfl⟩ : ∃ q, n' = q + 1 := ⟨n' - 1, by omega⟩
    have q : ¬ ι H ≤ ι k := by rw [ι_le hH (by omega)]; omega
    obtain ⟨σ1, μ1, a1, c1, j1, x1, f1⟩ := hour_eq hK h hx (by omega)
    obtain ⟨σ2, μ2, a2, c2, d2, j2, x2, f2⟩ := ih (k + 1) n n' (hr + 1) σ1 μ1 (by omega) (by omega) (by omega) j1 x1 (by omega)
    refine ⟨σ2, μ2, (a1 _ _ _ q).trans a2, ?_, fun c n2 h2 => ?_, by rw [show hr + (j + 1) = hr + 1 + j by omega]; exact j2, x2, f2.tr f1⟩
    · rw [sp_X10_pass_50, if_neg q, c1, b1s, ι_one]
      exact c2
    · obtain ⟨n2, rfl⟩ : ∃ q, n2 = q + 1 := ⟨n2 - 1, by omega⟩
      rw [sp_X10_ahead_60, if_neg q, c1, b1s, ι_one]
      rw [d2 c n2 (by omega), show n2 + 1 - (j + 1) = n2 - j by omega]
