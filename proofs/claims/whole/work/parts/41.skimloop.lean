theorem sk_v {p f t st ta : Int32} (p0 : 0 ≤ p.toInt) (p1 : p.toInt ≤ 500) (f0 : 0 ≤ f.toInt) (t0 : 0 ≤ t.toInt) (s1 : st.toInt ≤ 5000) (a0 : 0 ≤ ta.toInt) (a1 : ta.toInt ≤ st.toInt) :
    0 ≤ (sf p f (st - ta)).toInt ∧ (sf p f (st - ta)).toInt ≤ f.toInt ∧ 0 ≤ (sth p (sf p f (st - ta)) t (st - ta)).toInt ∧ (sth p (sf p f (st - ta)) t (st - ta)).toInt ≤ t.toInt ∧ ta.toInt + (sf p f (st - ta)).toInt + (sth p (sf p f (st - ta)) t (st - ta)).toInt ≤ st.toInt := by
  have w1 : (st - ta).toInt = st.toInt - ta.toInt := t_sub (by omega) (by omega)
  have v : (sf p f (st - ta)).toInt = min (min p.toInt f.toInt) (st.toInt - ta.toInt) := by unfold sf; rw [iMin_int, iMin_int, w1]
  generalize sf p f (st - ta) = F at *
  have w2 : (p - F).toInt = p.toInt - F.toInt := t_sub (by omega) (by omega)
  have w3 : ((p - F) / 2).toInt = (p.toInt - F.toInt) / 2 := by rw [t_div (by omega) (by decide), w2]; rfl
  have w4 : (st - ta - F).toInt = st.toInt - ta.toInt - F.toInt := by rw [t_sub (by omega) (by omega), w1]
  have u : (sth p F t (st - ta)).toInt = min (min ((p.toInt - F.toInt) / 2) t.toInt) (st.toInt - ta.toInt - F.toInt) := by unfold sth; rw [iMin_int, iMin_int, w3, w4]
  rw [u]
  omega
theorem skJ {e : Prop} {nS nM hr : Nat} {K : Int} (hK : K ≤ 400000) {σ μ : St} (h : Jn e nS nM hr K σ μ) {m c : Nat} (hm : m < nM) (hm20 : m < 20) (hc : c < 24) {F T : Int32} (f0 : 0 ≤ F.toInt) (f1 : F.toInt ≤ (σ 4 c).toInt) (t0 : 0 ≤ T.toInt) (t1 : T.toInt ≤ (σ 5 c).toInt) (a0 : 0 ≤ (σ 20 m).toInt) (st : (σ 20 m).toInt + F.toInt + T.toInt ≤ (σ 19 m).toInt) (s5 : (σ 19 m).toInt ≤ 5000) : Jn e nS nM hr K (skS 4 c 5 c 20 m F T σ) (skS 1 c 1 (24 + c) 1 (148 + m) F T μ) := by
  obtain ⟨r1, r2, r3, r4⟩ := h
  obtain ⟨b1, b2, b3, b4⟩ := r4.b4 hc
  have z4 := (r4.1 c hc).2
  have z5 := (r4.2.1 c hc).2
  have w1 : (σ 4 c - F).toInt = (σ 4 c).toInt - F.toInt := t_sub (by omega) (by omega)
  have w2 : (σ 5 c - T).toInt = (σ 5 c).toInt - T.toInt := t_sub (by omega) (by omega)
  have w3 : (F + T).toInt = F.toInt + T.toInt := t_add (by omega) (by omega)
  have w4 : (σ 20 m + (F + T)).toInt = (σ 20 m).toInt + F.toInt + T.toInt := by rw [t_add (by omega) (by omega), w3]; omega
  unfold skS
  refine ⟨?_, ((((((r2.left rfl).left rfl).left rfl).right (by decide)).right (by decide)).right (by decide)), ((r3.oth rfl).oth rfl).oth rfl, ?_⟩
  · exact ((r1.upd dmu (k := 4) (i := c) (Or.inl hc) (fun _ => by rw [show σ 4 c = μ 1 c from r1 4 c hc])).upd dmu (k := 5) (i := c) (Or.inl hc) (fun _ => by rw [show σ 5 c = μ 1 (24 + c) from r1 5 c hc])).upd dmu (k := 20) (i := m) (Or.inl hm20) (fun _ => by rw [show σ 20 m = μ 1 (148 + m) from r1 20 m hm20])
  · have s1 := r4.s4 (c := c) (x := σ 4 c - F) hc (by omega) (fun q => by have := z4 q; omega)
    have s2 := s1.s5 (c := c) (x := σ 5 c - T) hc (by omega) (fun q => by rw [stU_k (by decide)] at q; have := z5 q; omega)
    rw [stU_k (by decide), w1, w2] at s2
    refine (s2.mono (K2 := K) (by omega)).s20 (fun _ _ => ?_) (fun q => by omega)
    rw [stU_k (by decide), stU_k (by decide), w4]
    omega
/-- the skimmers of an hour, on both sides -/
theorem skim_eq {e : Prop} {nS nM hr : Nat} {K : Int} (hK : K ≤ 400000) : ∀ (j m n n' : Nat) (σ μ : St), m + j = nM → j < n → j < n' → Jn e nS nM hr K σ μ → ∃ σ' μ', sp_X0_skim_2 n (ι m) σ = some σ' ∧ sp_X10_hour_278 n' (ι m) μ = sp_X10_hour_309 200 (0 : Int32) μ' ∧ Jn e nS nM hr K σ' μ' ∧ Fr σ' σ := by
  intro j
  induction j with
  | zero =>
    intro m n n' σ μ h1 h2 h3 h
    obtain ⟨n, rfl⟩ : ∃ q, n = q + 1 := ⟨n - 1, by omega⟩
    obtain ⟨n', rfl⟩ : ∃ q, n' = q + 1 := ⟨n' - 1, by omega⟩
    obtain ⟨r1, r2, r3, r4⟩ := id h
    obtain ⟨-, -, ⟨hM, h14⟩, -⟩ := id r3
    have h10 : μ 0 10 = ι nM := (r1 14 0 rfl).symm.trans h14
    have q : ι nM ≤ ι m := by rw [ι_le (by omega) (by omega)]; omega
    exact ⟨σ, μ, by rw [sp_X0_skim_2, h14, if_pos q], by rw [sp_X10_hour_278, h10, if_pos q], h, Fr.rf⟩
  | succ j ih =>
    intro m n n' σ μ h1 h2 h3 h
    obtain ⟨n, rfl⟩ : ∃ q, n = q + 1 := ⟨n - 1, by omega⟩
    obtain ⟨n', rfl⟩ : ∃ q, n' = q + 1 := ⟨n' - 1, by omega⟩
    obtain ⟨r1, r2, r3, r4⟩ := id h
    obtain ⟨-, -, ⟨hM, h14⟩, -, -, -, -, -, hsk⟩ := id r3
    have h10 : μ 0 10 = ι nM := (r1 14 0 rfl).symm.trans h14
    have hm : m < nM := by omega
    have hm20 : m < 20 := by omega
    have q : ¬ ι nM ≤ ι m := by rw [ι_le (by omega) (by omega)]; omega
    have e8 : μ 8 m = σ 15 m := (r1 15 m hm20).symm
    by_cases g : σ 15 m = 1
    · obtain ⟨⟨c, hc, h16⟩, ⟨P, hP, h18⟩, ⟨Q, hQ, h19⟩⟩ := hsk m hm g
      obtain ⟨b1, b2, b3, b4⟩ := r4.b4 hc
      obtain ⟨a0, a1⟩ := (r4.2.2.2.2.1 m hm20).1 hm g
      have e18 : (σ 18 m).toInt = P := by rw [h18, ι_toInt (by omega)]
      have e19 : (σ 19 m).toInt = Q := by rw [h19, ι_toInt (by omega)]
      obtain ⟨v1, v2, v3, v4, v5⟩ := sk_v (p := σ 18 m) (f := σ 4 c) (t := σ 5 c) (st := σ 19 m) (ta := σ 20 m) (by omega) (by omega) b2 b3 (by omega) a0 a1
      obtain ⟨σ', μ', g1, g2, g3⟩ := ih (m + 1) n n' _ _ (by omega) (by omega) (by omega) (skJ hK h hm hm20 hc v1 v2 v3 v4 a0 v5 (by omega))
      refine ⟨σ', μ', by rw [sk9 hM h14 hm g hc h16 rfl rfl]; exact g1, ?_, g3.1, g3.2.tr (((Fr.rf.st rfl).st rfl).st rfl)⟩
      rw [sp_X10_hour_278, h10, if_neg q]
      simp only [ι_nat (show m < 100000 by omega), ix2 hm20 (show 20 < 100000 by omega), e8, g]
      rw [if_pos trivial, sk10 hm20 hc ((r1 16 m hm20).symm.trans h16) (by rw [← show σ 18 m = μ 11 m from r1 18 m hm20, ← show σ 4 c = μ 1 c from r1 4 c hc, ← show σ 19 m = μ 12 m from r1 19 m hm20, ← show σ 20 m = μ 1 (148 + m) from r1 20 m hm20]) (by rw [← show σ 18 m = μ 11 m from r1 18 m hm20, ← show σ 5 c = μ 1 (24 + c) from r1 5 c hc, ← show σ 19 m = μ 12 m from r1 19 m hm20, ← show σ 20 m = μ 1 (148 + m) from r1 20 m hm20])]
      simp only [b1, ι_one]
      exact g2
    · obtain ⟨σ', μ', g1, g2, g3⟩ := ih (m + 1) n n' σ μ (by omega) (by omega) (by omega) h
      refine ⟨σ', μ', ?_, ?_, g3⟩
      · rw [sp_X0_skim_2, h14, if_neg q]
        simp only [ι_nat (show m < 100000 by omega), ix2 hm20 (show 20 < 100000 by omega), ι_one]
        rw [if_neg g]
        exact g1
      · rw [sp_X10_hour_278, h10, if_neg q]
        simp only [ι_nat (show m < 100000 by omega), ix2 hm20 (show 20 < 100000 by omega), e8, ι_one]
        rw [if_neg g]
        exact g2
