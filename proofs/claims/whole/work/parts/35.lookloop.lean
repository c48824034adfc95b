theorem go_v {nS nM hr : Nat} {K : Int} (hK : K ≤ 400000) {σ : St} (h0 : I0 nS nM hr σ) (h1 : I1 nS nM K σ) {c w : Nat} (hc : c < 24) (hw : w < 4) : 0 ≤ (gof σ (bs c w) (bl (σ 4 c) (σ 0 6))).toInt ∧ (gof σ (bs c w) (bl (σ 4 c) (σ 0 6))).toInt ≤ (σ 4 c).toInt ∧ 0 ≤ (got σ (bs c w) (bl (σ 4 c) (σ 0 6)) (bl (σ 5 c) (σ 0 6))).toInt ∧ (got σ (bs c w) (bl (σ 4 c) (σ 0 6)) (bl (σ 5 c) (σ 0 6))).toInt ≤ (σ 5 c).toInt ∧
    (∀ d, bs c w = some d → ¬ σ 2 d = 0 → (σ 6 d).toInt + (gof σ (bs c w) (bl (σ 4 c) (σ 0 6))).toInt + (got σ (bs c w) (bl (σ 4 c) (σ 0 6)) (bl (σ 5 c) (σ 0 6))).toInt ≤ (tabH (σ 2 d)).toInt) ∧ (bl (σ 4 c) (σ 0 6)).toInt + (bl (σ 5 c) (σ 0 6)).toInt ≤ 400000 ∧ 0 ≤ (bl (σ 4 c) (σ 0 6)).toInt ∧ 0 ≤ (bl (σ 5 c) (σ 0 6)).toInt := by
  obtain ⟨s, hs, e6⟩ := h0.2.2.2.2.1
  obtain ⟨b1, b2, b3, b4⟩ := h1.b4 hc
  obtain ⟨-, f0, f1⟩ := bl_v (f := σ 4 c) (s := s) b2 (by omega) hs
  obtain ⟨-, t0, t1⟩ := bl_v (f := σ 5 c) (s := s) b3 (by omega) hs
  rw [← e6] at f0 f1 t0 t1
  generalize bl (σ 4 c) (σ 0 6) = f at *
  generalize bl (σ 5 c) (σ 0 6) = t at *
  cases hb : bs c w with
  | none => exact ⟨f0, f1, t0, t1, (fun d hd => by cases hd), by omega, f0, t0⟩
  | some d =>
    have hd := bs_lt hc hw hb
    obtain ⟨k, hk, ek⟩ := kd h0 hd
    have r6 := h1.2.2.1 d hd
    have hH := tabH_v hk
    rw [← ek] at hH
    have w1 : (tabH (σ 2 d) - σ 6 d).toInt = (tabH (σ 2 d)).toInt - (σ 6 d).toInt := t_sub (by omega) (by omega)
    unfold got gof
    by_cases g : σ 2 d = 0
    · simp only [if_pos g]
      exact ⟨f0, f1, t0, t1, fun d2 hd2 hn => by cases hd2; exact absurd g hn, by omega, f0, t0⟩
    · simp only [if_neg g]
      have w2 : (iMin f (tabH (σ 2 d) - σ 6 d)).toInt = min f.toInt ((tabH (σ 2 d)).toInt - (σ 6 d).toInt) := by rw [iMin_int, w1]
      have w3 : (tabH (σ 2 d) - σ 6 d - iMin f (tabH (σ 2 d) - σ 6 d)).toInt = (tabH (σ 2 d)).toInt - (σ 6 d).toInt - min f.toInt ((tabH (σ 2 d)).toInt - (σ 6 d).toInt) := by rw [t_sub (by rw [w1, w2]; omega) (by rw [w1, w2]; omega), w1, w2]
      rw [iMin_int t, w3, w2]
      refine ⟨by omega, by omega, by omega, by omega, fun d2 hd2 hn => ?_, by omega, f0, t0⟩
      cases hd2
      omega
theorem dec_c {σ : St} (F T : Int32) (y : Option Nat) : (∃ z, dec σ F T y = (F, T, z) ∧ (z = none ∨ z = y)) ∨ dec σ F T y = (0, 0, none) := by
  unfold dec
  by_cases q : F + T ≤ 0
  · rw [if_pos q]; exact Or.inl ⟨none, rfl, Or.inl rfl⟩
  · rw [if_neg q]
    cases y with
    | none => exact Or.inl ⟨none, rfl, Or.inl rfl⟩
    | some b =>
      dsimp only
      by_cases p : σ 18 b < σ 0 6
      · rw [if_pos p]; exact Or.inl ⟨some b, rfl, Or.inr rfl⟩
      · rw [if_neg p]; exact Or.inr rfl
/-- what goes, found for the cells below c -/
def Gp (w c : Nat) (σ μ : St) : Prop := ∀ a, a < c → σ 24 a = μ 5 a ∧ σ 25 a = μ 5 (24 + a) ∧ 0 ≤ (σ 24 a).toInt ∧ (σ 24 a).toInt ≤ (σ 4 a).toInt ∧ 0 ≤ (σ 25 a).toInt ∧ (σ 25 a).toInt ≤ (σ 5 a).toInt ∧ ∀ d, bs a w = some d → ¬ σ 2 d = 0 → (σ 6 d).toInt + (σ 24 a).toInt + (σ 25 a).toInt ≤ (tabH (σ 2 d)).toInt
theorem not5 {e : Prop} {j : Nat} : ∀ a b, Dm e a b → ρ a b ≠ (5, j) := by
  intro a b hab q
  have h := ρb_ρ (dmu a b hab)
  rw [q] at h
  have h5 : ρb (5, j) = (24, j) ∨ ρb (5, j) = (25, j - 24) := by
    simp only [ρb]
    by_cases g : j < 24
    · rw [if_pos g]; exact Or.inl rfl
    · rw [if_neg g]; exact Or.inr rfl
  rcases h5 with h5 | h5
  · rw [h5] at h
    cases h
    exact hab
  · rw [h5] at h
    cases h
    exact hab
theorem goJ {e : Prop} {nS nM hr : Nat} {K : Int} {σ μ : St} (h : Jn e nS nM hr K σ μ) {c : Nat} (q : Int32 × Int32 × Option Nat) (hb : ∀ b, q.2.2 = some b → b < nM ∧ σ 15 b = 0) : Jn e nS nM hr K (fwS σ c q) (loM μ c q) := by
  obtain ⟨r1, r2, r3, r4⟩ := h
  have hM : nM ≤ 20 := r3.2.2.1.1
  unfold fwS loM
  have key : Jn e nS nM hr K (brk 20 0 σ q.2.2) (brk 1 148 μ q.2.2) := by
    cases hq : q.2.2 with
    | none => exact ⟨r1, r2, r3, r4⟩
    | some b =>
      obtain ⟨b1, b2⟩ := hb b hq
      unfold brk
      dsimp only
      rw [Nat.zero_add]
      refine ⟨r1.upd dmu (k := 20) (i := b) (Or.inl (show b < 20 by omega)) (fun _ => rfl), (r2.left rfl).right (by decide), r3.oth rfl, r4.s20 (fun _ e1 => ?_) (fun e2 => by omega)⟩
      rw [b2] at e1
      cases e1
  obtain ⟨k1, k2, k3, k4⟩ := key
  refine ⟨?_, (((k2.left rfl).left rfl).right (by decide)).right (by decide), (k3.oth rfl).oth rfl, (k4.oth rfl).oth rfl⟩
  exact (((k1.left (k := 24) (i := c) (fun d => d)).left (k := 25) (i := c) (fun d => d)).right not5).right not5
theorem brk_o {k o k2 i2 : Nat} {σ : St} {z : Option Nat} (h : k2 ≠ k) : brk k o σ z k2 i2 = σ k2 i2 := by
  cases z with
  | none => rfl
  | some b => exact stU_k h
theorem fwS_o {σ : St} {c k i : Nat} {q : Int32 × Int32 × Option Nat} (h1 : k ≠ 20) (h2 : k ≠ 24) (h3 : k ≠ 25) : fwS σ c q k i = σ k i := by
  unfold fwS
  rw [stU_k h3, stU_k h2, brk_o h1]
theorem loM_5 {μ : St} {c a : Nat} {q : Int32 × Int32 × Option Nat} (h1 : a ≠ c) (h2 : a ≠ 24 + c) : loM μ c q 5 a = μ 5 a := by
  unfold loM
  rw [stU_i h2, stU_i h1, brk_o (by decide)]
theorem goG {w c : Nat} {σ μ : St} (h : Gp w c σ μ) (hc : c < 24) {q : Int32 × Int32 × Option Nat} (a1 : 0 ≤ q.1.toInt) (a2 : q.1.toInt ≤ (σ 4 c).toInt) (a3 : 0 ≤ q.2.1.toInt) (a4 : q.2.1.toInt ≤ (σ 5 c).toInt) (a5 : ∀ d, bs c w = some d → ¬ σ 2 d = 0 → (σ 6 d).toInt + q.1.toInt + q.2.1.toInt ≤ (tabH (σ 2 d)).toInt) : Gp w (c + 1) (fwS σ c q) (loM μ c q) := by
  intro a ha
  have o4 : ∀ d, fwS σ c q 4 d = σ 4 d := fun d => fwS_o (by decide) (by decide) (by decide)
  have o5 : ∀ d, fwS σ c q 5 d = σ 5 d := fun d => fwS_o (by decide) (by decide) (by decide)
  have o2 : ∀ d, fwS σ c q 2 d = σ 2 d := fun d => fwS_o (by decide) (by decide) (by decide)
  have o6 : ∀ d, fwS σ c q 6 d = σ 6 d := fun d => fwS_o (by decide) (by decide) (by decide)
  simp only [o2, o4, o5, o6]
  by_cases e : a = c
  · subst e
    have v24 : fwS σ a q 24 a = q.1 := by unfold fwS; rw [stU_k (by decide), stU_same]
    have v25 : fwS σ a q 25 a = q.2.1 := by unfold fwS; rw [stU_same]
    have w24 : loM μ a q 5 a = q.1 := by unfold loM; rw [stU_i (by omega), stU_same]
    have w25 : loM μ a q 5 (24 + a) = q.2.1 := by unfold loM; rw [stU_same]
    rw [v24, v25, w24, w25]
    exact ⟨rfl, rfl, a1, a2, a3, a4, a5⟩
  · have v24 : fwS σ c q 24 a = σ 24 a := by unfold fwS; rw [stU_k (by decide), stU_i e, brk_o (by decide)]
    have v25 : fwS σ c q 25 a = σ 25 a := by unfold fwS; rw [stU_i e, stU_k (by decide), brk_o (by decide)]
    rw [v24, v25, loM_5 e (by omega), loM_5 (by omega) (by omega)]
    exact h a (by omega)
/-- one cell looked at, on both sides -/
theorem look_step {e : Prop} {nS nM hr : Nat} {K : Int} (hK : K ≤ 400000) {σ μ : St} (h : Jn e nS nM hr K σ μ) {c w : Nat} (hc : c < 24) (hw : w < 4) (e5 : σ 0 5 = ι w) (hg : Gp w c σ μ) : ∃ q, sp_X0_findWhatGoes (ι c) σ = some (fwS σ c q) ∧ sp_X10_look (ι c) μ = some (loM μ c q) ∧ Jn e nS nM hr K (fwS σ c q) (loM μ c q) ∧ Gp w (c + 1) (fwS σ c q) (loM μ c q) := by
  obtain ⟨r1, r2, r3, r4⟩ := id h
  obtain ⟨⟨hh, h04⟩, ⟨hS, h10⟩, ⟨hM, h14⟩, -⟩ := id r3
  have m5 : μ 0 5 = ι w := (r1 0 5 (Or.inr (Or.inl rfl))).symm.trans e5
  have m6 : μ 0 6 = σ 0 6 := (r1 0 6 (Or.inr (Or.inr rfl))).symm
  have m3 : ∀ d, d < 24 → μ 3 d = σ 2 d := fun d hd => (r1 2 d hd).symm
  have m11 : ∀ b, b < 20 → μ 11 b = σ 18 b := fun b hb => (r1 18 b hb).symm
  obtain ⟨y, y1, y2, y3⟩ := boom_eq hM h14 ((r1 14 0 rfl).symm.trans h14) (fun m hm => (r1 15 m (show m < 20 by omega)).symm) (fun m hm => (r1 20 m (show m < 20 by omega)).symm) r2 hc hw nM 0 200 200 (by omega) (by omega) (by omega)
  have yc : sp_X4_boomOn (ι c) (ι w) σ = some (oI y) := by
    unfold sp_X4_boomOn
    rw [bs9 c hc w hw, op9 w hw]
    exact y1
  have ym : sp_X10_boomOn (ι (bor c w)) μ = some (oI y) := y2
  have y20 : ∀ b, y = some b → b < 20 := fun b hb => by have := (y3 b hb).1; omega
  obtain ⟨f0, f1, t0, t1, sh, lim, bf0, bt0⟩ := go_v hK r3 r4 hc hw
  obtain ⟨g1, g2⟩ := room_gof (σ := σ) (to := bs c w) (f := bl (σ 4 c) (σ 0 6)) (t := bl (σ 5 c) (σ 0 6)) bf0 bt0 lim
  have c1 := fw9 r3 hc hw e5 yc y20 g1 g2
  have c2 := look10 r3 hc hw m5 m6 m3 (r1 4 c hc).symm (r1 5 c hc).symm (fun d hd => (r1 6 d hd).symm)
  generalize hF : gof σ (bs c w) (bl (σ 4 c) (σ 0 6)) = F at *
  generalize hT : got σ (bs c w) (bl (σ 4 c) (σ 0 6)) (bl (σ 5 c) (σ 0 6)) = T at *
  have hb : ∀ b, (dec σ F T y).2.2 = some b → b < nM ∧ σ 15 b = 0 := by
    intro b hb
    rcases dec_c (σ := σ) F T y with ⟨z, hz, hz2⟩ | hz
    · rw [hz] at hb
      rcases hz2 with rfl | rfl
      · cases hb
      · exact ⟨(y3 b hb).1, (y3 b hb).2.1⟩
    · rw [hz] at hb; cases hb
  have hv : 0 ≤ (dec σ F T y).1.toInt ∧ (dec σ F T y).1.toInt ≤ (σ 4 c).toInt ∧ 0 ≤ (dec σ F T y).2.1.toInt ∧ (dec σ F T y).2.1.toInt ≤ (σ 5 c).toInt ∧ ∀ d, bs c w = some d → ¬ σ 2 d = 0 → (σ 6 d).toInt + (dec σ F T y).1.toInt + (dec σ F T y).2.1.toInt ≤ (tabH (σ 2 d)).toInt := by
    rcases dec_c (σ := σ) F T y with ⟨z, hz, -⟩ | hz
    · rw [hz]; exact ⟨f0, f1, t0, t1, sh⟩
    · rw [hz]
      have z0 : (0 : Int32).toInt = 0 := rfl
      have b4 := r4.b4 hc
      refine ⟨by rw [z0]; omega, by rw [z0]; omega, by rw [z0]; omega, by rw [z0]; omega, fun d hd hn => ?_⟩
      have := (r4.2.2.1 d (bs_lt hc hw hd)).2
      rw [z0]; omega
  refine ⟨dec σ F T y, c1, ?_, goJ h _ hb, goG hg hc hv.1 hv.2.1 hv.2.2.1 hv.2.2.2.1 hv.2.2.2.2⟩
  rw [c2]
  by_cases k : σ 2 c = 0
  · exact lo94w (nS := nS) (nM := nM) (hr := hr) hc hw ((m3 c hc).trans k) m5 m6 m11 ym y20 F T
  · have z4 := (r4.1 c hc).2 k
    have z5 := (r4.2.1 c hc).2 k
    have zF : F = 0 := Int32.toInt_inj.mp (show F.toInt = 0 by omega)
    have zT : T = 0 := Int32.toInt_inj.mp (show T.toInt = 0 by omega)
    subst zF; subst zT
    rw [lo94s hc (by rw [m3 c hc]; exact k) (by decide)]
    unfold dec
    rw [if_pos (by decide)]
theorem goF {σ : St} {c : Nat} {q : Int32 × Int32 × Option Nat} : Fr (fwS σ c q) σ := by
  unfold fwS
  refine Fr.st (Fr.st ?_ rfl) rfl
  cases q.2.2 with
  | none => exact Fr.rf
  | some b => exact Fr.rf.st rfl
/-- all cells looked at, on both sides -/
theorem look_eq {e : Prop} {nS nM hr : Nat} {K : Int} (hK : K ≤ 400000) {w : Nat} (hw : w < 4) : ∀ (j c n n' : Nat) (σ μ : St), c + j = 24 → j < n → j < n' → Jn e nS nM hr K σ μ → σ 0 5 = ι w → Gp w c σ μ → ∃ σ' μ', sp_X0_drift_2 n (ι c) σ = sp_X0_drift_21 200 (0 : Int32) σ' ∧ sp_X10_hour_149 n' (ι c) μ = sp_X10_hour_168 200 (0 : Int32) μ' ∧ Jn e nS nM hr K σ' μ' ∧ σ' 0 5 = ι w ∧ Gp w 24 σ' μ' ∧ Fr σ' σ := by
  intro j
  induction j with
  | zero =>
    intro c n n' σ μ h1 h2 h3 h e5 hg
    obtain ⟨n, rfl⟩ : ∃ q, n = q + 1 := ⟨n - 1, by omega⟩
    obtain ⟨n', rfl⟩ : ∃ q, n' = q + 1 := ⟨n' - 1, by omega⟩
    have hc : c = 24 := by omega
    subst hc
    have q : (24 : Int32) ≤ ι 24 := by decide
    exact ⟨σ, μ, by rw [sp_X0_drift_2, if_pos q], by rw [sp_X10_hour_149, if_pos q], h, e5, hg, Fr.rf⟩
  | succ j ih =>
    intro c n n' σ μ h1 h2 h3 h e5 hg
    obtain ⟨n, rfl⟩ : ∃ q, n = q + 1 := ⟨n - 1, by omega⟩
    obtain ⟨n', rfl⟩ : ∃ q, n' = q + 1 := ⟨n' - 1, by omega⟩
    have hc : c < 24 := by omega
    have q : ¬ (24 : Int32) ≤ ι c := by rw [show (24 : Int32) = ι 24 from rfl, ι_le (by omega) (by omega)]; omega
    obtain ⟨d, c1, c2, c3, c4⟩ := look_step hK h hc hw e5 hg
    obtain ⟨σ', μ', g1, g2, g3⟩ := ih (c + 1) n n' _ _ (by omega) (by omega) (by omega) c3 (by rw [fwS_o (by decide) (by decide) (by decide)]; exact e5) c4
    refine ⟨σ', μ', ?_, ?_, g3.1, g3.2.1, g3.2.2.1, g3.2.2.2.tr goF⟩
    · rw [sp_X0_drift_2, if_neg q, c1]
      simp only [b1, ι_one]
      exact g1
    · rw [sp_X10_hour_149, if_neg q, c2]
      simp only [b1, ι_one]
      exact g2
