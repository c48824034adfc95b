theorem lowS_w {κ : Nat → Int32} {c w : Nat} {y : Option Nat} (hy : ∀ e, y = some e → κ e = 0) : ∀ e, lowS κ c w y = some e → κ e = 0 := by
  intro e he
  unfold lowS at he
  cases hb : bs c w with
  | none => rw [hb] at he; exact hy e he
  | some d =>
    rw [hb] at he
    dsimp only at he
    by_cases h : κ d = 0
    · rw [if_pos h] at he
      cases y with
      | none => cases he; exact h
      | some f =>
        dsimp only at he
        by_cases h2 : f ≤ d
        · rw [if_pos h2] at he; exact hy e he
        · rw [if_neg h2] at he; cases he; exact h
    · rw [if_neg h] at he; exact hy e he
theorem low_w {κ : Nat → Int32} {c d : Nat} (h : low κ c = some d) : κ d = 0 :=
  lowS_w (lowS_w (lowS_w (lowS_w (fun e he => by cases he)))) d h
theorem bk0 (p : Int32) : bk 0 p = 0 := by unfold bk; rw [if_pos (by decide)]
theorem gbJ {e : Prop} {nS nM hr : Nat} {K : Int} (hK : K ≤ 400000) {σ μ : St} (h : Jn e nS nM hr K σ μ) {c : Nat} (hc : c < 24) : Jn e nS nM hr K (match low (σ 2) c with | none => σ | some d => stU (stU σ 6 c (σ 6 c - bk (σ 2 c) (σ 6 c))) 5 d (σ 5 d + bk (σ 2 c) (σ 6 c))) (if σ 2 c = 0 then μ else match low (σ 2) c with | none => μ | some d => stU (stU μ 1 (48 + c) (μ 1 (48 + c) - bk (σ 2 c) (μ 1 (48 + c)))) 1 (24 + d) (μ 1 (24 + d) + bk (σ 2 c) (μ 1 (48 + c)))) := by
  obtain ⟨r1, r2, r3, r4⟩ := id h
  cases hl : low (σ 2) c with
  | none =>
    dsimp only
    by_cases g : σ 2 c = 0
    · rw [if_pos g]; exact h
    · rw [if_neg g]; exact h
  | some d =>
    have hd := low_ok hc d hl
    have hdw : σ 2 d = 0 := low_w hl
    dsimp only
    by_cases g : σ 2 c = 0
    · rw [if_pos g, g, bk0, Int32.sub_zero, Int32.add_zero, stU_self, stU_self]
      exact h
    · rw [if_neg g]
      have e6 : σ 6 c = μ 1 (48 + c) := r1 6 c hc
      have e5 : σ 5 d = μ 1 (24 + d) := r1 5 d hd
      rw [← e6, ← e5]
      obtain ⟨k, hk, ek⟩ := kd r3 hc
      have b6 := r4.2.2.1 c hc
      have bv := bk_v (p := σ 6 c) hk b6.1
      rw [← ek] at bv
      obtain ⟨p1, p2, p3, p4⟩ := r4.b4 hd
      have q1 := r4.b4 hc
      generalize bk (σ 2 c) (σ 6 c) = b at *
      have w1 : (σ 6 c - b).toInt = (σ 6 c).toInt - b.toInt := t_sub (by omega) (by omega)
      have w2 : (σ 5 d + b).toInt = (σ 5 d).toInt + b.toInt := t_add (by omega) (by omega)
      refine ⟨(r1.upd dmu (k := 6) (i := c) (Or.inl hc) (fun _ => rfl)).upd dmu (k := 5) (i := d) (Or.inl hd) (fun _ => rfl), (((r2.left rfl).left rfl).right (by decide)).right (by decide), (r3.oth rfl).oth rfl, ?_⟩
      have s1 := r4.s6 (c := c) (x := σ 6 c - b) hc (by omega) (by omega)
      have s2 := s1.s5 (c := d) (x := σ 5 d + b) hd (by omega) (fun q => absurd (by rw [stU_k (by decide)]; exact hdw) q)
      rw [stU_k (by decide), w1, w2] at s2
      exact s2.mono (by omega)
theorem gbF {σ : St} {c : Nat} : Fr (match low (σ 2) c with | none => σ | some d => stU (stU σ 6 c (σ 6 c - bk (σ 2 c) (σ 6 c))) 5 d (σ 5 d + bk (σ 2 c) (σ 6 c))) σ := by
  cases low (σ 2) c with
  | none => exact Fr.rf
  | some d => exact (Fr.rf.st rfl).st rfl
/-- what all shores give back at high tide, on both sides -/
theorem back_eq {e : Prop} {nS nM hr : Nat} {K : Int} (hK : K ≤ 400000) (ht : tdN hr = 6) : ∀ (j c n n' : Nat) (σ μ : St), c + j = 24 → j < n → j < n' → Jn e nS nM hr K σ μ → ∃ σ' μ', sp_X0_giveBack_2 n (ι c) σ = some σ' ∧ sp_X10_hour_187 n' (ι c) μ = sp_X10_hour_278 200 (0 : Int32) μ' ∧ Jn e nS nM hr K σ' μ' ∧ Fr σ' σ := by
  intro j
  induction j with
  | zero =>
    intro c n n' σ μ h1 h2 h3 h
    obtain ⟨n, rfl⟩ : ∃ q, n = q + 1 := ⟨n - 1, by omega⟩
    obtain ⟨n', rfl⟩ : ∃ q, n' = q + 1 := ⟨n' - 1, by omega⟩
    have hc : c = 24 := by omega
    subst hc
    have q : (24 : Int32) ≤ ι 24 := by decide
    exact ⟨σ, μ, by rw [sp_X0_giveBack_2, if_pos q], by rw [sp_X10_hour_187, if_pos q], h, Fr.rf⟩
  | succ j ih =>
    intro c n n' σ μ h1 h2 h3 h
    obtain ⟨n, rfl⟩ : ∃ q, n = q + 1 := ⟨n - 1, by omega⟩
    obtain ⟨n', rfl⟩ : ∃ q, n' = q + 1 := ⟨n' - 1, by omega⟩
    have hc : c < 24 := by omega
    obtain ⟨r1, r2, r3, r4⟩ := id h
    obtain ⟨σ', μ', g1, g2, g3⟩ := ih (c + 1) n n' _ _ (by omega) (by omega) (by omega) (gbJ hK h hc)
    exact ⟨σ', μ', by rw [gb9 r3 hc]; exact g1, by rw [gb10 r3 hc (fun d hd => r1 2 d hd) ((r1 0 4 (Or.inl rfl)).symm.trans r3.1.2) ht]; exact g2, g3.1, g3.2.tr gbF⟩
theorem back_no {nS nM hr : Nat} {σ μ : St} (h : I0 nS nM hr σ) (h168 : μ 1 168 = ι hr) (ht : ¬ tdN hr = 6) : sp_X10_hour_187 200 (0 : Int32) μ = sp_X10_hour_278 200 (0 : Int32) μ := by
  have hh := h.1.1
  have q := tdN_le hr
  rw [show (200 : Nat) = 199 + 1 from rfl, sp_X10_hour_187, if_neg (by decide), n168, h168, td10 hr (by omega)]
  simp only [b1]
  rw [if_neg (by rw [show (6 : Int32) = ι 6 from rfl, ι_inj (by omega) (by omega)]; exact ht)]
