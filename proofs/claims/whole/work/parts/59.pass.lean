/-! pass and ahead -/
theorem RR.passed {nS nM hr hr' : Nat} {σ δ μ σ' μ' : St} {π : St × Int64} (h : RR nS nM hr σ δ π μ) (hj : Jn True nS nM hr' (100000 * (nS : Int)) σ' μ') (hh : hr' ≤ 2000) (h0 : ¬ hr' = 0) (hx : Ex True σ') (hf : Fh σ' σ) (hE : Eo μ' μ) : RR nS nM hr' σ' δ π μ' := by
  obtain ⟨⟨r, b, i0, i1⟩, -, -, hs, hd, hz, ht, -, hp, hD, hP⟩ := h
  have e : ∀ k, k ≠ 1 → k ≠ 5 → μ' k = μ k := hE
  have n20 := i0.2.2.1.1
  refine ⟨hj, hh, hx, fun c hc => ?_, ?_, ?_, ?_, fun q => absurd q h0, fun m hm g => ?_, ?_, ?_⟩
  · rcases hf.2.2 c with q | q
    · rw [q]; exact hs c hc
    · exact ⟨0, by decide, q⟩
  · unfold Dp; rw [hf.1, hf.2.1, e 4 (by decide) (by decide)]; exact hd
  · unfold Sz; rw [e 12 (by decide) (by decide)]; exact hz
  · unfold Tt; rw [e 13 (by decide) (by decide)]; exact ht
  · have e15 : σ' 15 m = σ 15 m := (hj.1 15 m (show m < 20 by omega)).trans ((congrFun (e 8 (by decide) (by decide)) m).trans (r 15 m (show m < 20 by omega)).symm)
    have e18 : σ' 18 m = σ 18 m := (hj.1 18 m (show m < 20 by omega)).trans ((congrFun (e 11 (by decide) (by decide)) m).trans (r 18 m (show m < 20 by omega)).symm)
    rw [e15] at g
    rw [e18]
    exact hp m hm g
  · unfold RDm; rw [e 0 (by decide) (by decide), e 15 (by decide) (by decide), e 16 (by decide) (by decide)]; exact hD
  · unfold RPm; rw [e 0 (by decide) (by decide), e 17 (by decide) (by decide)]; exact hP
theorem c_pass {nS nM hr : Nat} {σ δ μ : St} {π : St × Int64} (h : RR nS nM hr σ δ π μ) (p1 : Int32) (τ : St) (ν : Nat → Int32) (ω : Nat → Int64) : ∃ z9, st_7 p1 σ τ ν δ π ω μ = some z9 ∧ Rel z9 := by
  have hR := h.1.1
  have hnS : nS ≤ 4 := h.1.2.2.1.2.1.1
  have e04 : σ 0 4 = ι hr := h.1.2.2.1.1.2
  have m168 : μ 1 168 = ι hr := (hR 0 4 (Or.inl rfl)).symm.trans e04
  have hh := h.2.1
  rcases nrg p1 1 48 with ⟨l, u, a1, a2⟩ | ⟨a1, a2⟩
  rotate_left
  · refine ⟨_, e3_ex (fun s w m => (s, τ, ν, δ, π, w, m)) (k := 2) (c := 1) (v := 0) (μ' := th μ 1) ?_ rfl ?_ rfl (by decide), nS, nM, hr, h.th⟩
    · rw [sp_X9_pass, a1, bxr]
    · rw [sp_X10_pass, a2, b1s, fl0, b2s, if_neg (by decide)]
  replace l : (1 : Int) ≤ p1.toInt := l
  obtain ⟨H, hH, rfl⟩ := nat_of (show (0 : Int) ≤ p1.toInt by omega) (show p1.toInt ≤ (48 : Int) from u)
  have H48 : H ≤ 48 := by omega
  rw [ι_toInt (by omega)] at l
  by_cases g : hr + H ≤ 2000
  rotate_left
  · refine ⟨_, e3_ex (fun s w m => (s, τ, ν, δ, π, w, m)) (k := 3) (c := 2) (v := 0) (μ' := th (th μ 0) 2) ?_ rfl ?_ rfl (by decide), nS, nM, hr, h.th.th⟩
    · rw [sp_X9_pass, a1, bxl, e04, ι_add, if_neg (show ¬ ι (hr + H) ≤ 2000 by rw [show (2000 : Int32) = ι 2000 from rfl, ι_le (by omega) (by omega)]; omega)]
    · rw [sp_X10_pass, a2, b1s, fl1, b2s, if_pos rfl, n168, show (th μ 0) 1 168 = ι hr from m168, ι_add, if_pos (show 2000 < ι (hr + H) by rw [show (2000 : Int32) = ι 2000 from rfl, ι_lt (by omega) (by omega)]; omega), sp_X10_pass_39, fl0, b2s, if_neg (by decide)]
  have h' := (h.th (x := 0)).th (x := 0)
  obtain ⟨σ', μ', q1, q2, -, q4, q5, q6⟩ := pass_eq (by omega) (H := H) (by omega) H 0 200 200 hr σ _ (by omega) (by omega) (by omega) h'.1 h'.2.2.1 (by omega)
  have kE := keep_pass 200 (ι 0) _ _ _ q2
  have e' : σ' 0 4 = ι (hr + H) := q4.2.2.1.1.2
  have e168 : μ' 1 168 = ι (hr + H) := (q4.1 0 4 (Or.inl rfl)).symm.trans e'
  refine ⟨_, e3_ok (fun s w m => (s, τ, ν, δ, π, w, m)) (v := ι (hr + H)) (a' := σ') (μ' := μ') ?_ ?_ ?_, nS, nM, hr + H, h'.passed q4 g (by omega) q5 q6 kE⟩
  · rw [sp_X9_pass, a1, bxl, e04, ι_add, if_pos (show ι (hr + H) ≤ 2000 by rw [show (2000 : Int32) = ι 2000 from rfl, ι_le (by omega) (by omega)]; omega), show sp_X0_letPass (ι H) σ = some σ' from q1, b1s, e']
  · rw [sp_X10_pass, a2, b1s, fl1, b2s, if_pos rfl, n168, show (th μ 0) 1 168 = ι hr from m168, ι_add, if_neg (show ¬ 2000 < ι (hr + H) by rw [show (2000 : Int32) = ι 2000 from rfl, ι_lt (by omega) (by omega)]; omega), sp_X10_pass_39, fl1, b2s, if_pos rfl]
    rw [show sp_X10_pass_50 (ι H) 200 0 (th (th μ 0) 0) = _ from q2, e168]
  · exact congrFun (kE 0 (by decide) (by decide)) 28
/-! ahead: the trial bay -/
def Dj (k i : Nat) : Prop := Dm False k i ∨ (k = 17 ∧ i < 20)
theorem I0.cg {nS nM hr : Nat} {τ σ : St} (h : I0 nS nM hr σ) (e : ∀ k i, Dj k i → τ k i = σ k i) : I0 nS nM hr τ := by
  obtain ⟨⟨a1, a1'⟩, ⟨a2, a2'⟩, ⟨a3, a3'⟩, ⟨w, hw, a4⟩, ⟨s, hs, a5⟩, a6, a7, a8, a9⟩ := h
  refine ⟨⟨a1, (e 0 4 (Or.inl (Or.inl rfl))).trans a1'⟩, ⟨a2, (e 10 0 (Or.inl rfl)).trans a2'⟩, ⟨a3, (e 14 0 (Or.inl rfl)).trans a3'⟩, ⟨w, hw, (e 0 5 (Or.inl (Or.inr (Or.inl rfl)))).trans a4⟩, ⟨s, hs, (e 0 6 (Or.inl (Or.inr (Or.inr rfl)))).trans a5⟩, fun c hc => ?_, fun s hs => ?_, fun s hs => ?_, fun m hm g => ?_⟩
  · rw [e 2 c (Or.inl hc)]; exact a6 c hc
  · obtain ⟨c, hc, q1, q2⟩ := a7 s hs
    exact ⟨c, hc, (e 11 s (Or.inl (show s < 4 by omega))).trans q1, (e 2 c (Or.inl hc)).trans q2⟩
  · rw [e 13 s (Or.inl hs)]; exact a8 s hs
  · have m20 : m < 20 := by omega
    rw [e 15 m (Or.inl m20)] at g
    rw [e 16 m (Or.inl m20), e 18 m (Or.inl m20), e 19 m (Or.inl m20)]
    exact a9 m hm g
theorem I1.cg {nS nM : Nat} {K : Int} {τ σ : St} (h : I1 nS nM K σ) (e : ∀ k i, Dj k i → τ k i = σ k i) : I1 nS nM K τ := by
  obtain ⟨a1, a2, a3, a4, a5, a6⟩ := h
  refine ⟨fun c hc => ?_, fun c hc => ?_, fun c hc => ?_, fun s hs => ?_, fun m hm => ?_, ?_⟩
  · rw [e 4 c (Or.inl hc), e 2 c (Or.inl hc)]; exact a1 c hc
  · rw [e 5 c (Or.inl hc), e 2 c (Or.inl hc)]; exact a2 c hc
  · rw [e 6 c (Or.inl hc), e 2 c (Or.inl hc)]; exact a3 c hc
  · rw [e 12 s (Or.inl hs)]; exact a4 s hs
  · rw [e 15 m (Or.inl hm), e 19 m (Or.inl hm), e 20 m (Or.inl hm)]; exact a5 m hm
  · have t : tot τ = tot σ := by
      unfold tot rs
      rw [Sm_congr (f := fun i => (τ 12 i).toInt) (g := fun i => (σ 12 i).toInt) (fun i hi => by rw [e 12 i (Or.inl hi)]), Sm_congr (f := fun i => (τ 4 i).toInt) (g := fun i => (σ 4 i).toInt) (fun i hi => by rw [e 4 i (Or.inl hi)]), Sm_congr (f := fun i => (τ 5 i).toInt) (g := fun i => (σ 5 i).toInt) (fun i hi => by rw [e 5 i (Or.inl hi)]), Sm_congr (f := fun i => (τ 6 i).toInt) (g := fun i => (σ 6 i).toInt) (fun i hi => by rw [e 6 i (Or.inl hi)])]
    rw [t]; exact a6
theorem cpy_lt {f g : Nat → Int32} {n i : Nat} (h : i < n) : va_cpy f g 0 0 n i = f i := by
  unfold va_cpy
  rw [if_pos ⟨Nat.zero_le _, by omega⟩, Nat.zero_add, Nat.sub_zero]
theorem like (τ σ : St) : ∃ τ1, sp_X0_becomeLike τ σ = some τ1 ∧ ∀ k i, Dj k i → τ1 k i = σ k i := by
  refine ⟨_, rfl, fun k i hk => ?_⟩
  rcases hk with hk | ⟨rfl, hi⟩
  · unfold Dm at hk
    split at hk
    · rcases hk with rfl | rfl | rfl <;> rfl
    · exact cpy_lt hk
    · exact cpy_lt hk
    · exact cpy_lt hk
    · exact cpy_lt hk
    · exact hk.1.elim
    · exact hk.1.elim
    · exact hk.1.elim
    · subst hk; rfl
    · exact cpy_lt hk
    · exact cpy_lt hk
    · exact cpy_lt hk
    · subst hk; rfl
    · exact cpy_lt hk
    · exact cpy_lt hk
    · exact cpy_lt hk
    · exact cpy_lt hk
    · exact cpy_lt hk
    · exact hk.1.elim
    · exact hk.1.elim
    · exact hk.1.elim
    · exact hk.elim
  · exact cpy_lt hi
theorem keyD {k i : Nat} (h : Dm True k i) : k < 26 ∧ i < 24 ∧ dB k i = true := by
  unfold Dm at h
  split at h
  · rcases h with rfl | rfl | rfl <;> exact ⟨by omega, by omega, rfl⟩
  all_goals first
    | exact h.elim
    | exact ⟨by omega, by omega, blt_ h⟩
    | exact ⟨by omega, by omega, blt_ h.2⟩
    | (subst h; exact ⟨by omega, by omega, rfl⟩)
theorem dB_row : ∀ k, k < 24 → ∀ i, i < 24 → dB k i = true → (ρ k i).1 ≠ 2 ∧ (ρ k i).1 ≠ 5 ∧ ((ρ k i).1 = 1 → (ρ k i).2 < 174) := by decide +kernel
theorem rowD {k i : Nat} (h : Dm True k i) : (ρ k i).1 ≠ 2 ∧ (ρ k i).1 ≠ 5 ∧ ((ρ k i).1 = 1 → (ρ k i).2 < 174) := by
  obtain ⟨a, b, c⟩ := keyD h
  by_cases e : k < 24
  · exact dB_row k e i b c
  · have : k = 24 ∨ k = 25 := by omega
    rcases this with rfl | rfl <;> exact h.elim
/-- now is kept -/
theorem ah33 (c H : Int32) : ∀ (j k n : Nat) (μ μ0 : St), k + j = 174 → j < n → (∀ r, r ≠ 2 → μ r = μ0 r) → (∀ i, i < k → μ 2 i = μ0 1 i) → ∃ μ1, sp_X10_ahead_33 c H n (ι k) μ = sp_X10_ahead_60 c H 200 0 μ1 ∧ (∀ r, r ≠ 2 → μ1 r = μ0 r) ∧ ∀ i, i < 174 → μ1 2 i = μ0 1 i := by
  intro j
  induction j with
  | zero =>
    intro k n μ μ0 h1 h2 hr hk
    obtain ⟨n, rfl⟩ : ∃ q, n = q + 1 := ⟨n - 1, by omega⟩
    have q : (174 : Int32) ≤ ι k := by rw [show (174 : Int32) = ι 174 from rfl, ι_le (by omega) (by omega)]; omega
    exact ⟨μ, by rw [sp_X10_ahead_33, if_pos q], hr, fun i hi => hk i (by omega)⟩
  | succ j ih =>
    intro k n μ μ0 h1 h2 hr hk
    obtain ⟨n, rfl⟩ : ∃ q, n = q + 1 := ⟨n - 1, by omega⟩
    have q : ¬ (174 : Int32) ≤ ι k := by rw [show (174 : Int32) = ι 174 from rfl, ι_le (by omega) (by omega)]; omega
    obtain ⟨μ1, e1, e2, e3⟩ := ih (k + 1) n (stU μ 2 k (μ 1 k)) μ0 (by omega) (by omega) (fun r hr2 => (show stU μ 2 k (μ 1 k) r = μ r from if_neg hr2).trans (hr r hr2)) (fun i hi => by
      by_cases e : i = k
      · subst e; rw [stU_same, hr 1 (by decide)]
      · rw [stU_i e]; exact hk i (by omega))
    refine ⟨μ1, ?_, e2, e3⟩
    rw [sp_X10_ahead_33, if_neg q]
    simp only [ι_nat (show k < 100000 by omega), ix2 (show k < 174 by omega) (show 174 < 100000 by omega), sls, ι_one]
    exact e1
/-- now is put back -/
theorem ah107 (x : Int32) : ∀ (j k n : Nat) (μ μ0 : St), k + j = 174 → j < n → (∀ r, r ≠ 1 → μ r = μ0 r) → (∀ i, i < k → μ 1 i = μ0 2 i) → ∃ μ1, sp_X10_ahead_107 x n (ι k) μ = some (x, μ1) ∧ (∀ r, r ≠ 1 → μ1 r = μ0 r) ∧ ∀ i, i < 174 → μ1 1 i = μ0 2 i := by
  intro j
  induction j with
  | zero =>
    intro k n μ μ0 h1 h2 hr hk
    obtain ⟨n, rfl⟩ : ∃ q, n = q + 1 := ⟨n - 1, by omega⟩
    have q : (174 : Int32) ≤ ι k := by rw [show (174 : Int32) = ι 174 from rfl, ι_le (by omega) (by omega)]; omega
    exact ⟨μ, by rw [sp_X10_ahead_107, if_pos q], hr, fun i hi => hk i (by omega)⟩
  | succ j ih =>
    intro k n μ μ0 h1 h2 hr hk
    obtain ⟨n, rfl⟩ : ∃ q, n = q + 1 := ⟨n - 1, by omega⟩
    have q : ¬ (174 : Int32) ≤ ι k := by rw [show (174 : Int32) = ι 174 from rfl, ι_le (by omega) (by omega)]; omega
    obtain ⟨μ1, e1, e2, e3⟩ := ih (k + 1) n (stU μ 1 k (μ 2 k)) μ0 (by omega) (by omega) (fun r hr2 => (show stU μ 1 k (μ 2 k) r = μ r from if_neg hr2).trans (hr r hr2)) (fun i hi => by
      by_cases e : i = k
      · subst e; rw [stU_same, hr 2 (by decide)]
      · rw [stU_i e]; exact hk i (by omega))
    refine ⟨μ1, ?_, e2, e3⟩
    rw [sp_X10_ahead_107, if_neg q]
    simp only [ι_nat (show k < 100000 by omega), ix2 (show k < 174 by omega) (show 174 < 100000 by omega), sls, ι_one]
    exact e1
/-- a model that differs at rows 2 and 5 alone -/
theorem RR.same {nS nM hr : Nat} {σ δ μ μ' : St} {π : St × Int64} (h : RR nS nM hr σ δ π μ) (e1 : ∀ i, i < 174 → μ' 1 i = μ 1 i) (e : ∀ r, r ≠ 1 → r ≠ 2 → r ≠ 5 → μ' r = μ r) : RR nS nM hr σ δ π μ' := by
  obtain ⟨⟨r, b, i0, i1⟩, hh, hx, hs, hd, hz, ht, h0, hp, hD, hP⟩ := h
  refine ⟨⟨fun k i hk => ?_, ?_, i0, i1⟩, hh, hx, hs, ?_, ?_, ?_, h0, hp, ?_, ?_⟩
  · obtain ⟨n2, n5, n1⟩ := rowD hk
    rw [r k i hk]
    by_cases g : (ρ k i).1 = 1
    · rw [g]; exact (e1 _ (n1 g)).symm
    · rw [e _ g n2 n5]
  · unfold Bo; rw [e 10 (by decide) (by decide) (by decide)]; exact b
  · unfold Dp; rw [e 4 (by decide) (by decide) (by decide)]; exact hd
  · unfold Sz; rw [e 12 (by decide) (by decide) (by decide)]; exact hz
  · unfold Tt; rw [e 13 (by decide) (by decide) (by decide)]; exact ht
  · unfold RDm; rw [e 0 (by decide) (by decide) (by decide), e 15 (by decide) (by decide) (by decide), e 16 (by decide) (by decide) (by decide)]; exact hD
  · unfold RPm; rw [e 0 (by decide) (by decide) (by decide), e 17 (by decide) (by decide) (by decide)]; exact hP
theorem ah_model {c H : Nat} (hc : c < 24) (hH : H < 49) {μ μ1 μ2 μ3 : St} {x : Int32} (a2 : sp_X10_in (ι H) 1 48 = some 1) (k1 : sp_X10_ahead_33 (ι c) (ι H) 200 0 (th (th μ 0) 0) = sp_X10_ahead_60 (ι c) (ι H) 200 0 μ1) (q3 : sp_X10_ahead_60 (ι c) (ι H) 200 0 μ1 = sp_X10_ahead_60 (ι c) (ι H) (200 - H) (ι H) μ2) (hx : μ2 1 c + μ2 1 (24 + c) + μ2 1 (48 + c) = x) (w1 : sp_X10_ahead_107 x 200 0 μ2 = some (x, μ3)) : sp_X10_ahead (ι c) (ι H) μ = some (x, μ3) := by
  rw [sp_X10_ahead, nc10 c hc, b1s, fl1, b2s, if_pos rfl, a2, b1s, fl1, b2s, if_pos rfl, k1, q3]
  obtain ⟨n, hn⟩ : ∃ n, 200 - H = n + 1 := ⟨199 - H, by omega⟩
  rw [hn, sp_X10_ahead_60, if_pos (show ι H ≤ ι H from Int32.le_refl _), i0, i24, i48, ix (show c < 174 by omega) (by omega), ix (show 24 + c < 174 by omega) (by omega), ix (show 48 + c < 174 by omega) (by omega), ι_nat (show c < 100000 by omega), ι_nat (show 24 + c < 100000 by omega), ι_nat (show 48 + c < 100000 by omega), hx, sls]
  exact w1
theorem ah_class {c H : Nat} (hc : c < 24) {σ τ τ1 τ2 : St} (a1 : sp_X9_needRange (ι H) 1 48 = some (.inl ())) (t1 : sp_X0_becomeLike τ σ = some τ1) (q1 : sp_X0_letPass (ι H) τ1 = some τ2) : sp_X9_ahead (ι c) (ι H) σ τ = some (.inl (τ2 4 c + τ2 5 c + τ2 6 c, τ2)) := by
  rw [sp_X9_ahead, nc9 c hc, bxl, a1, bxl, t1, b1s, q1, b1s, sp_X2_oilOf]
  simp only [ι_nat (show c < 100000 by omega), ix2 hc (show 24 < 100000 by omega), b1s]
theorem c_ahead {nS nM hr : Nat} {σ δ μ : St} {π : St × Int64} (h : RR nS nM hr σ δ π μ) (p1 p2 : Int32) (τ : St) (ν : Nat → Int32) (ω : Nat → Int64) : ∃ z9, st_28 p1 p2 σ τ ν δ π ω μ = some z9 ∧ Rel z9 := by
  have hnS : nS ≤ 4 := h.1.2.2.1.2.1.1
  have hnM : nM ≤ 20 := h.1.2.2.1.2.2.1.1
  have hh := h.2.1
  rcases nn24 p1 with ⟨c, hc, rfl⟩ | ⟨a1, a2⟩
  rotate_left
  · refine ⟨_, e3_ex (fun s w m => (σ, s, ν, δ, π, w, m)) (k := 1) (c := 1) (v := 0) (μ' := th μ 1) ?_ rfl ?_ rfl (by decide), nS, nM, hr, h.th⟩
    · rw [sp_X9_ahead, a1, bxr]
    · rw [sp_X10_ahead, a2, b1s, fl0, b2s, if_neg (by decide)]
  rcases nrg p2 1 48 with ⟨l, u, a1, a2⟩ | ⟨a1, a2⟩
  rotate_left
  · refine ⟨_, e3_ex (fun s w m => (σ, s, ν, δ, π, w, m)) (k := 2) (c := 2) (v := 0) (μ' := th (th μ 0) 2) ?_ rfl ?_ rfl (by decide), nS, nM, hr, h.th.th⟩
    · rw [sp_X9_ahead, nc9 c hc, bxl, a1, bxr]
    · rw [sp_X10_ahead, nc10 c hc, b1s, fl1, b2s, if_pos rfl, a2, b1s, fl0, b2s, if_neg (by decide)]
  replace l : (1 : Int) ≤ p2.toInt := l
  obtain ⟨H, hH, rfl⟩ := nat_of (show (0 : Int) ≤ p2.toInt by omega) (show p2.toInt ≤ (48 : Int) from u)
  have H48 : H ≤ 48 := by omega
  have h' := (h.th (x := 0)).th (x := 0)
  obtain ⟨τ1, t1, t2⟩ := like τ σ
  obtain ⟨μ1, k1, k2, k3⟩ := ah33 (ι c) (ι H) 174 0 200 (th (th μ 0) 0) (th (th μ 0) 0) (by omega) (by omega) (fun _ _ => rfl) (fun i hi => absurd hi (by omega))
  have J : Jn False nS nM hr (100000 * (nS : Int)) τ1 μ1 := by
    refine ⟨fun k i hk => ?_, fun m hm g => ?_, h'.1.2.2.1.cg t2, h'.1.2.2.2.cg t2⟩
    · rw [t2 k i (Or.inl hk), k2 _ (rowD hk.up).1]
      exact h'.1.1 k i hk.up
    · have m20 : m < 20 := by omega
      rw [t2 15 m (Or.inl m20)] at g
      rw [t2 16 m (Or.inl m20), t2 17 m (Or.inr ⟨rfl, m20⟩), k2 10 (by decide)]
      exact h'.1.2.1 m hm g
  obtain ⟨τ2, μ2, q1, q2, q3, q4, -, -⟩ := pass_eq (by omega) (H := H) (by omega) H 0 200 200 hr τ1 μ1 (by omega) (by omega) (by omega) J (fun f => f.elim) (by omega)
  have kE := keep_pass 200 (ι 0) _ _ _ q2
  have m4 : τ2 4 c = μ2 1 c := q4.1 4 c hc
  have m5 : τ2 5 c = μ2 1 (24 + c) := q4.1 5 c hc
  have m6 : τ2 6 c = μ2 1 (48 + c) := q4.1 6 c hc
  obtain ⟨μ3, w1, w2, w3⟩ := ah107 (τ2 4 c + τ2 5 c + τ2 6 c) 174 0 200 μ2 μ2 (by omega) (by omega) (fun _ _ => rfl) (fun i hi => absurd hi (by omega))
  have E0 : ∀ r, r ≠ 1 → r ≠ 2 → r ≠ 5 → μ3 r = (th (th μ 0) 0) r := fun r r1 r2 r5 => (w2 r r1).trans ((kE r r1 r5).trans (k2 r r2))
  have z1 := ah_class (τ := τ) hc a1 t1 q1
  have z2 := ah_model hc (by omega) a2 k1 (q3 (ι c) 200 (by omega)) (by rw [← m4, ← m5, ← m6]) w1
  have z3 : RR nS nM hr σ δ π μ3 := h'.same (fun i hi => by rw [w3 i hi, kE 2 (by decide) (by decide)]; exact k3 i hi) E0
  have z4 : μ3 0 28 = 0 := congrFun (E0 0 (by decide) (by decide) (by decide)) 28
  exact ⟨_, e3_ok (fun s w m => (σ, s, ν, δ, π, w, m)) z1 z2 z4, nS, nM, hr, z3⟩
