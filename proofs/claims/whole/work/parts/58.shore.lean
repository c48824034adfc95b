theorem and1 {a : Int32} (h : a = 0 ∨ a = 1) : a &&& 1 = a := by rcases h with rfl | rfl <;> rfl
theorem ite01 {P : Prop} [Decidable P] {a : Int32} (h : a = 0 ∨ a = 1) : (if P then a else 0) = 0 ∨ (if P then a else 0) = 1 := by
  by_cases g : P
  · rw [if_pos g]; exact h
  · rw [if_neg g]; exact Or.inl rfl
theorem ite00 {P : Prop} [Decidable P] {a : Int32} (h : a = 0) : (if P then a else 0) = 0 := by
  by_cases g : P
  · rw [if_pos g]; exact h
  · rw [if_neg g]
theorem and0' (a : Int32) : a &&& 0 = 0 := Int32.and_zero
/-- ships there: class and reference -/
theorem shipsAt {nS : Nat} (hS : nS ≤ 4) {σ μ : St} (e10 : σ 10 0 = ι nS) (m7 : μ 0 7 = ι nS) (e11 : ∀ s, s < 4 → μ 6 s = σ 11 s) (p k : Int32) :
    ∀ (j s n n' : Nat) (acc : Int32), s + j = nS → j < n → j < n' → (acc = 0 ∨ acc = 1) → ∃ b : Int32, (b = 0 ∨ b = 1) ∧ sp_X8_isAnyAt_2 σ p n (ι s) = some b ∧ (b = 0 → ∀ t, s ≤ t → t < nS → ¬ σ 11 t = p) ∧ sp_X10_shore_50 p k n' acc (ι s) μ = sp_X10_shore_87 p k 200 (if b = 0 then acc else 0) 0 μ := by
  intro j
  induction j with
  | zero =>
    intro s n n' acc h1 h2 h3 ha
    obtain ⟨n, rfl⟩ : ∃ q, n = q + 1 := ⟨n - 1, by omega⟩
    obtain ⟨n', rfl⟩ : ∃ q, n' = q + 1 := ⟨n' - 1, by omega⟩
    have q : ι nS ≤ ι s := by rw [ι_le (by omega) (by omega)]; omega
    refine ⟨0, Or.inl rfl, ?_, fun _ t h1 h2 => by omega, ?_⟩
    · rw [sp_X8_isAnyAt_2, e10, if_pos q]
    · rw [sp_X10_shore_50, m7, if_pos q, if_pos rfl]
  | succ j ih =>
    intro s n n' acc h1 h2 h3 ha
    obtain ⟨n, rfl⟩ : ∃ q, n = q + 1 := ⟨n - 1, by omega⟩
    obtain ⟨n', rfl⟩ : ∃ q, n' = q + 1 := ⟨n' - 1, by omega⟩
    have q : ¬ ι nS ≤ ι s := by rw [ι_le (by omega) (by omega)]; omega
    by_cases g : σ 11 s = p
    · obtain ⟨b, hb, -, -, b4⟩ := ih (s + 1) n n' 0 (by omega) (by omega) (by omega) (Or.inl rfl)
      refine ⟨1, Or.inr rfl, ?_, fun q => absurd q (by decide), ?_⟩
      · rw [sp_X8_isAnyAt_2, e10, if_neg q]
        simp only [ι_nat (show s < 100000 by omega), ix2 (show s < 4 by omega) (show 4 < 100000 by omega), if_pos g]
      · rw [sp_X10_shore_50, m7, if_neg q]
        simp only [ι_nat (show s < 100000 by omega), ix2 (show s < 4 by omega) (show 4 < 100000 by omega), e11 s (by omega), if_pos g, sls, and0', ι_one, b4]
        rw [if_neg (show ¬ (1 : Int32) = 0 by decide)]
        by_cases g2 : b = 0
        · rw [if_pos g2]
        · rw [if_neg g2]
    · obtain ⟨b, hb, b2, b3, b4⟩ := ih (s + 1) n n' acc (by omega) (by omega) (by omega) ha
      refine ⟨b, hb, ?_, fun z t h1 h2 => ?_, ?_⟩
      · rw [sp_X8_isAnyAt_2, e10, if_neg q]
        simp only [ι_nat (show s < 100000 by omega), ix2 (show s < 4 by omega) (show 4 < 100000 by omega), if_neg g, ι_one, b2]
      · by_cases e : t = s
        · subst e; exact g
        · exact b3 z t (by omega) h2
      · rw [sp_X10_shore_50, m7, if_neg q]
        simp only [ι_nat (show s < 100000 by omega), ix2 (show s < 4 by omega) (show 4 < 100000 by omega), e11 s (by omega), if_neg g, sls, and1 ha, ι_one, b4]
/-- skimmers there -/
theorem skimAt {nM : Nat} (hM : nM ≤ 20) {σ μ : St} (e14 : σ 14 0 = ι nM) (m10 : μ 0 10 = ι nM) (e15 : ∀ m, m < 20 → μ 8 m = σ 15 m) (e16 : ∀ m, m < 20 → μ 9 m = σ 16 m) (p k : Int32) :
    ∀ (j s n n' : Nat) (acc : Int32), s + j = nM → j < n → j < n' → (acc = 0 ∨ acc = 1) → ∃ b : Int32, (b = 0 ∨ b = 1) ∧ sp_X4_isSkimmerAt_2 σ p n (ι s) = some b ∧ sp_X10_shore_87 p k n' acc (ι s) μ = sp_X10_shore_87 p k 1 (if b = 0 then acc else 0) (ι nM) μ := by
  intro j
  induction j with
  | zero =>
    intro s n n' acc h1 h2 h3 ha
    obtain ⟨n, rfl⟩ : ∃ q, n = q + 1 := ⟨n - 1, by omega⟩
    obtain ⟨n', rfl⟩ : ∃ q, n' = q + 1 := ⟨n' - 1, by omega⟩
    have es : s = nM := by omega
    subst es
    have q : ι s ≤ ι s := by rw [ι_le (by omega) (by omega)]; omega
    refine ⟨0, Or.inl rfl, ?_, ?_⟩
    · rw [sp_X4_isSkimmerAt_2, e14, if_pos q]
    · rw [sp_X10_shore_87, sp_X10_shore_87, m10, if_pos q, if_pos q, if_pos rfl]
  | succ j ih =>
    intro s n n' acc h1 h2 h3 ha
    obtain ⟨n, rfl⟩ : ∃ q, n = q + 1 := ⟨n - 1, by omega⟩
    obtain ⟨n', rfl⟩ : ∃ q, n' = q + 1 := ⟨n' - 1, by omega⟩
    have q : ¬ ι nM ≤ ι s := by rw [ι_le (by omega) (by omega)]; omega
    have sk : sp_X4_isSkimmer (ι s) p σ = some (if σ 15 s = 1 then (if σ 16 s = p then 1 else 0) else 0) := by
      unfold sp_X4_isSkimmer
      simp only [ι_nat (show s < 100000 by omega), ix2 (show s < 20 by omega) (show 20 < 100000 by omega)]
      by_cases u : σ 15 s = 1
      · rw [if_pos u, if_pos u]
        by_cases v : σ 16 s = p
        · rw [if_pos v, if_pos v]
        · rw [if_neg v, if_neg v]
      · rw [if_neg u, if_neg u]
    have no : ¬ (σ 15 s = 1 ∧ σ 16 s = p) → ∃ b : Int32, (b = 0 ∨ b = 1) ∧ sp_X4_isSkimmerAt_2 σ p (n + 1) (ι s) = some b ∧ sp_X10_shore_87 p k (n' + 1) acc (ι s) μ = sp_X10_shore_87 p k 1 (if b = 0 then acc else 0) (ι nM) μ := by
      intro w
      obtain ⟨b, hb, b2, b4⟩ := ih (s + 1) n n' acc (by omega) (by omega) (by omega) ha
      have z : (if σ 15 s = 1 then (if σ 16 s = p then (1 : Int32) else 0) else 0) = 0 := by
        by_cases u : σ 15 s = 1
        · rw [if_pos u, if_neg (fun v => w ⟨u, v⟩)]
        · rw [if_neg u]
      refine ⟨b, hb, ?_, ?_⟩
      · rw [sp_X4_isSkimmerAt_2, e14, if_neg q, sk, z, b1s, if_pos rfl, ι_one, b2]
      · rw [← b4, sp_X10_shore_87, m10, if_neg q]
        simp only [ι_nat (show s < 100000 by omega), ix2 (show s < 20 by omega) (show 20 < 100000 by omega), e15 s (by omega), e16 s (by omega), sls, and1 ha, ι_one]
        by_cases u : σ 15 s = 1
        · rw [if_pos u, if_neg (fun v => w ⟨u, v⟩)]
        · rw [if_neg u]
    by_cases u : σ 15 s = 1
    · by_cases v : σ 16 s = p
      · obtain ⟨b, hb, -, b4⟩ := ih (s + 1) n n' 0 (by omega) (by omega) (by omega) (Or.inl rfl)
        refine ⟨1, Or.inr rfl, ?_, ?_⟩
        · rw [sp_X4_isSkimmerAt_2, e14, if_neg q, sk, if_pos u, if_pos v, b1s, if_neg (by decide)]
        · rw [sp_X10_shore_87, m10, if_neg q]
          simp only [ι_nat (show s < 100000 by omega), ix2 (show s < 20 by omega) (show 20 < 100000 by omega), e15 s (by omega), e16 s (by omega), if_pos u, if_pos v, sls, and0', ι_one, b4]
          rw [if_neg (show ¬ (1 : Int32) = 0 by decide)]
          by_cases g2 : b = 0
          · rw [if_pos g2]
          · rw [if_neg g2]
      · exact no (fun w => v w.2)
    · exact no (fun w => u w.1)
/-- the end of shore in the reference -/
theorem sh_end (p k : Int32) {c : Nat} (hc : c < 24) {nM : Nat} {μ : St} (m10 : μ 0 10 = ι nM) : sp_X10_shore_87 (ι c) k 1 1 (ι nM) μ = some (μ 3 c, stU (stU (stU (stU (stU (th μ 0) 3 c k) 4 c 20) 1 (72 + c) 0) 1 (96 + c) 0) 1 (120 + c) 0) := by
  have q : ι nM ≤ ι nM := Int32.le_refl _
  rw [sp_X10_shore_87, m10, if_pos q, fl1, b2s, if_pos rfl]
  simp only [ι_nat (show c < 100000 by omega), ix2 hc (show 24 < 100000 by omega), sls, i72, i96, i120, ι_nat (show 72 + c < 100000 by omega), ι_nat (show 96 + c < 100000 by omega), ι_nat (show 120 + c < 100000 by omega), ix2 (show 72 + c < 174 by omega) (show 174 < 100000 by omega), ix2 (show 96 + c < 174 by omega) (show 174 < 100000 by omega), ix2 (show 120 + c < 174 by omega) (show 174 < 100000 by omega), th_k3]
theorem sh_end0 (p k : Int32) {nM : Nat} {μ : St} (m10 : μ 0 10 = ι nM) : sp_X10_shore_87 p k 1 0 (ι nM) μ = some (0, th μ 3) := by
  have q : ι nM ≤ ι nM := Int32.le_refl _
  rw [sp_X10_shore_87, m10, if_pos q, fl0, b2s, if_neg (by decide)]
theorem bec9 {c : Nat} (hc : c < 24) (k : Int32) (σ : St) : sp_X2_become (ι c) k σ = some (stU (stU (stU (stU (stU σ 2 c k) 3 c (if k = 0 then 20 else 0)) 7 c 0) 8 c 0) 9 c 0) := by
  unfold sp_X2_become sp_X2_become_22
  simp only [ι_nat (show c < 100000 by omega), ix2 hc (show 24 < 100000 by omega), sls]
  by_cases g : k = 0
  · rw [if_pos g, if_pos g]
  · rw [if_neg g, if_neg g]
theorem c_shore {nS nM hr : Nat} {σ δ μ : St} {π : St × Int64} (h : RR nS nM hr σ δ π μ) (p1 p2 : Int32) (τ : St) (ν : Nat → Int32) (ω : Nat → Int64) : ∃ z9, st_0 p1 p2 σ τ ν δ π ω μ = some z9 ∧ Rel z9 := by
  have hR := h.1.1
  have hnS : nS ≤ 4 := h.1.2.2.1.2.1.1
  have hnM : nM ≤ 20 := h.1.2.2.1.2.2.1.1
  have e10 : σ 10 0 = ι nS := h.1.2.2.1.2.1.2
  have e14 : σ 14 0 = ι nM := h.1.2.2.1.2.2.1.2
  have m7 : μ 0 7 = ι nS := (hR 10 0 rfl).symm.trans e10
  have m10 : μ 0 10 = ι nM := (hR 14 0 rfl).symm.trans e14
  have e04 : σ 0 4 = ι hr := h.1.2.2.1.1.2
  have m168 : μ 1 168 = ι hr := (hR 0 4 (Or.inl rfl)).symm.trans e04
  have hh := h.2.1
  rcases nn24 p1 with ⟨c, hc, rfl⟩ | ⟨a1, a2⟩
  rotate_left
  · refine ⟨_, e3_ex (fun s w m => (s, τ, ν, δ, π, w, m)) (k := 1) (c := 1) (v := 0) (μ' := th μ 1) ?_ rfl ?_ rfl (by decide), nS, nM, hr, h.th⟩
    · rw [sp_X9_shore, a1, bxr]
    · rw [sp_X10_shore, a2, b1s, fl0, b2s, if_neg (by decide)]
  rcases nrg p2 0 3 with ⟨l, u, a1, a2⟩ | ⟨a1, a2⟩
  rotate_left
  · refine ⟨_, e3_ex (fun s w m => (s, τ, ν, δ, π, w, m)) (k := 2) (c := 2) (v := 0) (μ' := th (th μ 0) 2) ?_ rfl ?_ rfl (by decide), nS, nM, hr, h.th.th⟩
    · rw [sp_X9_shore, nc9 c hc, bxl, a1, bxr]
    · rw [sp_X10_shore, nc10 c hc, b1s, fl1, b2s, if_pos rfl, a2, b1s, fl0, b2s, if_neg (by decide)]
  obtain ⟨k, hk, rfl⟩ := nat_of (show (0 : Int) ≤ p2.toInt from l) (show p2.toInt ≤ (3 : Int) from u)
  have hk4 : k < 4 := by omega
  have h' := (h.th (x := 0)).th (x := 0)
  obtain ⟨acc, hacc, eacc⟩ : ∃ acc : Int32, (acc = 0 ∨ acc = 1) ∧ acc = (if hr = 0 then 1 else 0) := by
    by_cases g : hr = 0
    · exact ⟨1, Or.inr rfl, by rw [if_pos g]⟩
    · exact ⟨0, Or.inl rfl, by rw [if_neg g]⟩
  obtain ⟨b, hb, b2, b3, b4⟩ := shipsAt (σ := σ) (μ := th (th μ 0) 0) hnS e10 m7 (fun s hs => (hR 11 s hs).symm) (ι c) (ι k) nS 0 200 200 acc (by omega) (by omega) (by omega) hacc
  obtain ⟨d, hd, d2, d4⟩ := skimAt (σ := σ) (μ := th (th μ 0) 0) hnM e14 m10 (fun s hs => (hR 15 s hs).symm) (fun s hs => (hR 16 s hs).symm) (ι c) (ι k) nM 0 200 200 (if b = 0 then acc else 0) (by omega) (by omega) (by omega) (ite01 hacc)
  have hm : sp_X10_shore (ι c) (ι k) μ = sp_X10_shore_87 (ι c) (ι k) 1 (if d = 0 then (if b = 0 then acc else 0) else 0) (ι nM) (th (th μ 0) 0) := by
    rw [sp_X10_shore, nc10 c hc, b1s, fl1, b2s, if_pos rfl, a2, b1s, fl1, b2s, if_pos rfl, n168, show (th (th μ 0) 0) 1 168 = ι hr from m168, ← d4]
    by_cases g : hr = 0
    · subst g
      rw [if_pos (show ι 0 = 0 from rfl)]
      rw [if_pos rfl] at eacc
      subst eacc
      exact b4
    · rw [if_neg (show ¬ ι hr = 0 from fun e => g ((ι_inj (by omega) (by omega)).mp (show ι hr = ι 0 from e)))]
      rw [if_neg g] at eacc
      subst eacc
      exact b4
  have bad : (if d = 0 then (if b = 0 then acc else 0) else 0) = 0 → sp_X9_shore (ι c) (ι k) σ = some (.inr 3) → ∃ z9, st_0 (ι c) (ι k) σ τ ν δ π ω μ = some z9 ∧ Rel z9 := by
    intro z hc9
    refine ⟨_, e3_ex (fun s w m => (s, τ, ν, δ, π, w, m)) (k := 3) (c := 3) (v := 0) (μ' := th (th (th μ 0) 0) 3) hc9 rfl ?_ rfl (by decide), nS, nM, hr, h'.th⟩
    rw [hm, z]
    exact sh_end0 _ _ (μ := th (th μ 0) 0) m10
  by_cases g0 : hr = 0
  · have hs0 : σ 0 4 = 0 := by rw [e04, g0]; rfl
    by_cases gb : b = 0
    · by_cases gd : d = 0
      · subst gb; subst gd
        rw [if_pos g0] at eacc
        subst eacc
        subst g0
        refine ⟨_, e3_ok (fun s w m => (s, τ, ν, δ, π, w, m)) (v := σ 2 c) (a' := stU (stU (stU (stU (stU σ 2 c (ι k)) 3 c (if ι k = 0 then 20 else 0)) 7 c 0) 8 c 0) 9 c 0) (μ' := stU (stU (stU (stU (stU (th (th (th μ 0) 0) 0) 3 c (ι k)) 4 c 20) 1 (72 + c) 0) 1 (96 + c) 0) 1 (120 + c) 0) ?_ ?_ rfl, nS, nM, 0, u_shore h'.th hc hk4 (fun s hs => b3 rfl s (Nat.zero_le _) hs)⟩
        · rw [sp_X9_shore, nc9 c hc, bxl, a1, bxl, if_pos hs0, show sp_X8_isAnyAt (ι c) σ = some 0 from b2, b1s, if_pos rfl, show sp_X4_isSkimmerAt (ι c) σ = some 0 from d2, b1s, if_pos rfl, ix hc (by omega), ι_nat (by omega), sls, bec9 hc, b1s]
        · rw [hm, if_pos rfl, if_pos rfl, sh_end (ι c) (ι k) hc (μ := th (th μ 0) 0) m10]
          rw [show (th (th μ 0) 0) 3 c = σ 2 c from (hR 2 c hc).symm]
      · refine bad (by rw [if_neg gd]) ?_
        rw [sp_X9_shore, nc9 c hc, bxl, a1, bxl, if_pos hs0, show sp_X8_isAnyAt (ι c) σ = some b from b2, b1s, if_pos gb, show sp_X4_isSkimmerAt (ι c) σ = some d from d2, b1s, if_neg gd]
        rfl
    · refine bad (ite00 (if_neg gb)) ?_
      rw [sp_X9_shore, nc9 c hc, bxl, a1, bxl, if_pos hs0, show sp_X8_isAnyAt (ι c) σ = some b from b2, b1s, if_neg gb]
      rfl
  · have hs0 : ¬ σ 0 4 = 0 := by rw [e04]; exact fun e => g0 ((ι_inj (by omega) (by omega)).mp (show ι hr = ι 0 from e))
    rw [if_neg g0] at eacc
    refine bad (ite00 (ite00 eacc)) ?_
    rw [sp_X9_shore, nc9 c hc, bxl, a1, bxl, if_neg hs0]
