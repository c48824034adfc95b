/-! THE END OF THE EQUIVALENCE: the relation holds at the start and at each call -/
theorem initRd : ∀ k, k < 24 → ∀ i, i < 24 → dB k i = true → σI k i = μI (ρ k i).1 (ρ k i).2 := by decide +kernel
theorem initDp : ∀ c, c < 24 → σI 3 c = if σI 2 c = 0 then μI 4 c else 0 := by decide +kernel
theorem initTot : tot σI ≤ 100000 * ((0 : Nat) : Int) := by decide +kernel
theorem hinit : Rel zI := by
  refine ⟨0, 0, 0, ⟨⟨fun k i hk => ?_, fun m hm => absurd hm (by omega), ?_, ?_⟩, by omega, fun _ c hc _ => ⟨rfl, rfl, rfl⟩, fun c hc => ⟨0, by omega, rfl⟩, initDp, fun m _ _ => rfl, fun m _ => Or.inl rfl, fun _ c hc => ⟨rfl, rfl, rfl⟩, fun m hm => absurd hm (by omega), ?_, ?_⟩⟩
  · obtain ⟨a, b, c⟩ := keyD hk
    by_cases e : k < 24
    · exact initRd k e i b c
    · have : k = 24 ∨ k = 25 := by omega
      rcases this with rfl | rfl <;> exact hk.elim
  · exact ⟨⟨by omega, rfl⟩, ⟨by omega, rfl⟩, ⟨by omega, rfl⟩, ⟨0, by omega, rfl⟩, ⟨0, by omega, rfl⟩, fun c hc => ⟨0, by omega, rfl⟩, fun s hs => absurd hs (by omega), fun s hs => ⟨0, by omega, rfl⟩, fun m hm => absurd hm (by omega)⟩
  · exact ⟨fun c hc => ⟨Int.le_refl 0, fun _ => rfl⟩, fun c hc => ⟨Int.le_refl 0, fun _ => rfl⟩, fun c hc => ⟨Int.le_refl 0, Int.le_refl 0⟩, fun s hs => ⟨Int.le_refl 0, fun _ => rfl⟩, fun m hm => ⟨fun q => absurd q (by omega), fun _ => rfl⟩, initTot⟩
  · exact ⟨⟨0, by omega, rfl, rfl⟩, rfl, fun i hi => rfl, fun i hi => rfl⟩
  · exact ⟨0, by omega, rfl, rfl, ⟨0, by omega, rfl, rfl⟩, ⟨0, by omega, rfl, rfl⟩, fun i hi => absurd hi (by omega), rfl⟩
theorem hstep (op p1 p2 p3 : Int32) (z : S7) (hz : Rel z) : ∃ z9, LStep op p1 p2 p3 z = some z9 ∧ Rel z9 := by
  obtain ⟨nS, nM, hr, h⟩ := hz
  obtain ⟨σ, τ, ν, δ, π, ω, μ⟩ := z
  unfold LStep
  by_cases c0 : op = 0
  · rw [if_pos c0]; exact c_shore h p1 p2 τ ν ω
  rw [if_neg c0]
  by_cases c1 : op = 1
  · rw [if_pos c1]; exact c_depth h p1 p2 τ ν ω
  rw [if_neg c1]
  by_cases c2 : op = 2
  · rw [if_pos c2]; exact c_wind h p1 p2 τ ν ω
  rw [if_neg c2]
  by_cases c3 : op = 3
  · rw [if_pos c3]; exact c_ship h p1 p2 τ ν ω
  rw [if_neg c3]
  by_cases c4 : op = 4
  · rw [if_pos c4]; exact c_hole h p1 p2 τ ν ω
  rw [if_neg c4]
  by_cases c5 : op = 5
  · rw [if_pos c5]; exact c_pump h p1 p2 p3 τ ν ω
  rw [if_neg c5]
  by_cases c6 : op = 6
  · rw [if_pos c6]; exact c_shipHas h p1 τ ν ω
  rw [if_neg c6]
  by_cases c7 : op = 7
  · rw [if_pos c7]; exact c_pass h p1 τ ν ω
  rw [if_neg c7]
  by_cases c8 : op = 8
  · rw [if_pos c8]; exact c_at h p1 p2 τ ν ω
  rw [if_neg c8]
  by_cases c9 : op = 9
  · rw [if_pos c9]; exact c_boom h p1 p2 p3 τ ν ω
  rw [if_neg c9]
  by_cases c10 : op = 10
  · rw [if_pos c10]; exact c_skimmer h p1 p2 p3 τ ν ω
  rw [if_neg c10]
  by_cases c11 : op = 11
  · rw [if_pos c11]; exact c_team h p1 p2 τ ν ω
  rw [if_neg c11]
  by_cases c12 : op = 12
  · rw [if_pos c12]; exact c_move h p1 p2 τ ν ω
  rw [if_neg c12]
  by_cases c13 : op = 13
  · rw [if_pos c13]; exact c_carry h p1 τ ν ω
  rw [if_neg c13]
  by_cases c14 : op = 14
  · rw [if_pos c14]; exact c_teach h p1 τ ν ω
  rw [if_neg c14]
  by_cases c15 : op = 15
  · rw [if_pos c15]; exact c_clean h p1 p2 τ ν ω
  rw [if_neg c15]
  by_cases c16 : op = 16
  · rw [if_pos c16]; exact c_meanIs h p1 p2 τ ν ω
  rw [if_neg c16]
  by_cases c17 : op = 17
  · rw [if_pos c17]; exact c_use h p1 p2 τ ν ω
  rw [if_neg c17]
  by_cases c18 : op = 18
  · rw [if_pos c18]; exact c_why h p1 p2 p3 τ ν ω
  rw [if_neg c18]
  by_cases c19 : op = 19
  · rw [if_pos c19]; exact c_birds h p1 p2 τ ν ω
  rw [if_neg c19]
  by_cases c20 : op = 20
  · rw [if_pos c20]; exact c_wash h p1 p2 τ ν ω
  rw [if_neg c20]
  by_cases c21 : op = 21
  · rw [if_pos c21]; exact c_sign h p1 p2 τ ν ω
  rw [if_neg c21]
  by_cases c22 : op = 22
  · rw [if_pos c22]; exact c_site h p1 p2 τ ν ω
  rw [if_neg c22]
  by_cases c23 : op = 23
  · rw [if_pos c23]; exact c_deliver h p1 p2 p3 τ ν ω
  rw [if_neg c23]
  by_cases c24 : op = 24
  · rw [if_pos c24]; exact c_waste h p1 τ ν ω
  rw [if_neg c24]
  by_cases c25 : op = 25
  · rw [if_pos c25]; exact c_claim h p1 τ ν ω
  rw [if_neg c25]
  by_cases c26 : op = 26
  · rw [if_pos c26]; exact c_layers h p1 p2 τ ν ω
  rw [if_neg c26]
  by_cases c27 : op = 27
  · rw [if_pos c27]; exact c_due h p1 p2 τ ν ω
  rw [if_neg c27]
  by_cases c28 : op = 28
  · rw [if_pos c28]; exact c_ahead h p1 p2 τ ν ω
  rw [if_neg c28]
  by_cases c29 : op = 29
  · rw [if_pos c29]; exact c_nextAnew h p1 τ ν ω
  rw [if_neg c29]
  by_cases c30 : op = 30
  · rw [if_pos c30]; exact c_sum h p1 τ ν ω
  rw [if_neg c30]
  exact ⟨_, rfl, nS, nM, hr, h⟩
