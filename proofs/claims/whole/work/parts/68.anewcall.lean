theorem anewShore {nS nM hr : Nat} {K : Int} (hK : K ≤ 400000) {σ μ : St} (h : Jn True nS nM hr K σ μ) {c : Nat} (hc : c < 24) (g : ¬ σ 2 c = 0) (hh : hr + 1 < 3001) : ∃ v, (∀ ν, ∃ ν', sp_X5_strandedOf (ι c) σ ν = some (v, ν')) ∧ sp_X10_nextAnew_37 (ι c) (if tdN (hr + 1) = 6 then 1 else 0) μ = some (v, μ) := by
  obtain ⟨r, -, i0, -⟩ := id h
  have e3 : ∀ d, d < 24 → σ 2 d = μ 3 d := fun d hd => r 2 d hd
  obtain ⟨k, hk, ek⟩ := kd i0 hc
  obtain ⟨x, x1, x2⟩ := landV hK h hc hh
  have m : ∀ p, sp_X10_nextAnew_37 (ι c) p μ = (if p = 0 then some (x, μ) else (if oI (low (σ 2) c) = -1 then some (x, μ) else some (x - bk (σ 2 c) x, μ))) := by
    intro p
    unfold sp_X10_nextAnew_37
    rw [ix hc (by omega), ι_nat (by omega), if_neg (by rw [← e3 c hc]; exact g), x2, b1s, low10 hc, b1s, ← low_congr e3 hc, back10 hc hk ((e3 c hc).symm.trans ek), b1s, ← e3 c hc]
  have s0 : ∀ ν, ∃ ν', sp_X5_landedOn (ι c) σ ν = some (x, ν') := x1
  by_cases t : tdN (hr + 1) = 6
  · by_cases l : oI (low (σ 2) c) = -1
    · refine ⟨x, fun ν => ?_, by rw [m, if_pos t, if_neg (by decide), if_pos l]⟩
      obtain ⟨ν', a⟩ := s0 ν
      refine ⟨ν', ?_⟩
      unfold sp_X5_strandedOf
      rw [a, b2s, high9 i0 hh, b1s, if_pos t, if_neg (by decide), low9 hc, b1s, if_pos l]
      unfold sp_X5_strandedOf_32 sp_X5_strandedOf_33
      rw [if_pos rfl]
    · refine ⟨x - bk (σ 2 c) x, fun ν => ?_, by rw [m, if_pos t, if_neg (by decide), if_neg l]⟩
      obtain ⟨ν', a⟩ := s0 ν
      refine ⟨ν', ?_⟩
      unfold sp_X5_strandedOf
      rw [a, b2s, high9 i0 hh, b1s, if_pos t, if_neg (by decide), low9 hc, b1s, if_neg l]
      unfold sp_X5_strandedOf_33
      rw [if_neg (by decide), backOf9 i0 hc, b1s]
  · refine ⟨x, fun ν => ?_, by rw [m, if_neg t, if_pos rfl]⟩
    obtain ⟨ν', a⟩ := s0 ν
    refine ⟨ν', ?_⟩
    unfold sp_X5_strandedOf
    rw [a, b2s, high9 i0 hh, b1s, if_neg t, if_pos rfl]
    unfold sp_X5_strandedOf_32 sp_X5_strandedOf_33
    rw [if_pos rfl]
theorem anewWater {nS nM hr : Nat} {K : Int} (hK : K ≤ 400000) {σ μ : St} (h : Jn True nS nM hr K σ μ) {c : Nat} (hc : c < 24) (g : σ 2 c = 0) (hh : hr + 1 < 3001) : ∃ v, (∀ ν, ∃ ν', sp_X5_floatingOf (ι c) σ ν = some (v, ν')) ∧ sp_X10_nextAnew_37 (ι c) (if tdN (hr + 1) = 6 then 1 else 0) μ = some (v, μ) := by
  obtain ⟨r, -, i0, -⟩ := id h
  have e3 : μ 3 c = σ 2 c := (r 2 c hc).symm
  have hM := i0.2.2.1.1
  obtain ⟨w, hw, e5⟩ := i0.2.2.2.1
  have m5 : μ 0 5 = ι w := (r 0 5 (Or.inr (Or.inl rfl))).symm.trans e5
  obtain ⟨F, T, G, H, k1, k2, k3, k4, k5⟩ := weighV hK h hc g hh
  obtain ⟨G', H', g1, g2, g3⟩ := fromV hK h hc hw e5 hh
  have m : ∀ p, sp_X10_nextAnew_37 (ι c) p μ = sp_X10_nextAnew_137 (ι c) p (F - G + G') 200 (T - H + H') 0 μ := by
    intro p
    unfold sp_X10_nextAnew_37
    rw [ix hc (by omega), ι_nat (by omega), if_pos (by rw [e3]; exact g), m5, op10 w hw, bs10 c hc _ (op_lt w hw), b1s, k2, b1s, k4, b1s, g1, b1s, sls, k3, b1s, k5, b1s, g2, b1s, sls]
  have lp : ∀ ν, ∃ z ν', sp_X5_floatingOf_61 σ (ι c) (F - G + G') 200 (T - H + H') 0 ν = b1 (sp_X5_leftBySkimmers (ι c) (F - G + G') z σ) (fun x => some (x, ν')) ∧ sp_X10_nextAnew_137 (ι c) (if tdN (hr + 1) = 6 then 1 else 0) (F - G + G') 200 (T - H + H') 0 μ = sp_X10_nextAnew_223 (ι c) 200 (F - G + G') z 0 μ := fun ν => backLoop hK h hc hh (F - G + G') 4 0 200 200 (T - H + H') ν (by omega) (by omega) (by omega)
  obtain ⟨z0, ν0, -, y2⟩ := lp (fun _ => 0)
  obtain ⟨x, x1, x2⟩ := skimLoop h hc nM 0 200 200 (F - G + G') z0 (by omega) (by omega) (by omega)
  have fin : ∀ ν, ∃ ν', sp_X5_floatingOf_61 σ (ι c) (F - G + G') 200 (T - H + H') 0 ν = some (x, ν') := by
    intro ν
    obtain ⟨z, ν', q1, q2⟩ := lp ν
    obtain ⟨x', w1, w2⟩ := skimLoop h hc nM 0 200 200 (F - G + G') z (by omega) (by omega) (by omega)
    have ex : x' = x := by
      have a := (q2.symm.trans y2)
      have b : some (x', μ) = some (x, μ) := (w2.symm.trans a).trans x2
      exact congrArg Prod.fst (Option.some.inj b)
    refine ⟨ν', ?_⟩
    rw [q1, show sp_X5_leftBySkimmers (ι c) (F - G + G') z σ = some x' from w1, b1s, ex]
  refine ⟨x, fun ν => ?_, (m _).trans (y2.trans x2)⟩
  obtain ⟨ν1, a1, a2, a3, a4, a5⟩ := k1 ν
  rcases g3 with ⟨f0, rfl, rfl⟩ | ⟨d, hd, fd, kk⟩
  · obtain ⟨ν', b1'⟩ := fin ν1
    refine ⟨ν', ?_⟩
    rw [Int32.add_zero, Int32.add_zero] at b1'
    unfold sp_X5_floatingOf
    rw [a1, b1s, sls, sls, against9 hc hw e5, b1s, f0, show oI none = -1 from rfl, if_pos rfl, a2, a3, a4, a5]
    exact b1'
  · obtain ⟨ν2, c1, c2, c3⟩ := kk ν1
    obtain ⟨ν', b1'⟩ := fin ν2
    refine ⟨ν', ?_⟩
    unfold sp_X5_floatingOf
    rw [a1, b1s, sls, sls, against9 hc hw e5, b1s, fd, show oI (some d) = ι d from rfl, if_neg (oI_ne hd), c1, b1s, sls, sls, a2, a3, a4, a5, c2, c3]
    exact b1'
theorem c_nextAnew {nS nM hr : Nat} {σ δ μ : St} {π : St × Int64} (h : RR nS nM hr σ δ π μ) (p1 : Int32) (τ : St) (ν : Nat → Int32) (ω : Nat → Int64) : ∃ z9, st_29 p1 σ τ ν δ π ω μ = some z9 ∧ Rel z9 := by
  have hh := h.2.1
  have hnS := h.1.2.2.1.2.1.1
  rcases nn24 p1 with ⟨c, hc, rfl⟩ | ⟨a1, a2⟩
  rotate_left
  · refine ⟨_, e3_ex (fun s w m => (σ, τ, s, δ, π, w, m)) (k := 1) (c := 1) (v := 0) (μ' := th μ 1) ?_ rfl ?_ rfl (by decide), nS, nM, hr, h.th⟩
    · rw [sp_X9_nextAnew, a1, bxr]
    · rw [sp_X10_nextAnew, a2, b1s, fl0, b2s, if_neg (by decide)]
  have h' := h.th (x := 0)
  have m168 : (th μ 0) 1 168 = ι hr := (h'.1.1 0 4 (Or.inl rfl)).symm.trans h'.1.2.2.1.1.2
  have t6 := tdN_le (hr + 1)
  have m : sp_X10_nextAnew (ι c) μ = sp_X10_nextAnew_37 (ι c) (if tdN (hr + 1) = 6 then 1 else 0) (th μ 0) := by
    rw [sp_X10_nextAnew, nc10 c hc, b1s, fl1, b2s, if_pos rfl, n168, m168, ι_one, td10 _ (by omega), b1s]
    by_cases g : tdN (hr + 1) = 6
    · rw [if_pos (show ι (tdN (hr + 1)) = 6 by rw [g]; rfl), if_pos g]
    · rw [if_neg (show ¬ ι (tdN (hr + 1)) = 6 by rw [show (6 : Int32) = ι 6 from rfl, ι_inj (by omega) (by omega)]; exact g), if_neg g]
  by_cases g : σ 2 c = 0
  · obtain ⟨v, v1, v2⟩ := anewWater (by omega) h'.1 hc g (by omega)
    obtain ⟨ν', w1⟩ := v1 ν
    refine ⟨_, e3_ok (fun s w m => (σ, τ, s, δ, π, w, m)) (v := v) (a' := ν') (μ' := th μ 0) ?_ (m.trans v2) rfl, nS, nM, hr, h'⟩
    rw [sp_X9_nextAnew, nc9 c hc, bxl, isWater9 hc, b1s, if_pos g, if_neg (by decide), w1, b2s]
  · obtain ⟨v, v1, v2⟩ := anewShore (by omega) h'.1 hc g (by omega)
    obtain ⟨ν', w1⟩ := v1 ν
    refine ⟨_, e3_ok (fun s w m => (σ, τ, s, δ, π, w, m)) (v := v) (a' := ν') (μ' := th μ 0) ?_ (m.trans v2) rfl, nS, nM, hr, h'⟩
    rw [sp_X9_nextAnew, nc9 c hc, bxl, isWater9 hc, b1s, if_neg g, if_pos rfl, w1, b2s]
