/-! weather -/
theorem dmu {e : Prop} : ∀ k i, Dm e k i → Dg True k i := fun _ _ h => Or.inl h.up
def wea (σ : St) (c : Nat) : St :=
  let a := σ 4 c / 20
  let σ1 := stU σ 4 c (σ 4 c - a)
  let σ2 := stU σ1 23 2 (σ1 23 2 + a)
  let t := σ2 4 c / 10
  let σ3 := stU σ2 4 c (σ2 4 c - t)
  let σ4 := stU σ3 5 c (σ3 5 c + t)
  let k := σ4 5 c / 50
  let σ5 := stU σ4 5 c (σ4 5 c - k)
  stU σ5 23 3 (σ5 23 3 + k)
def weaM (μ : St) (c : Nat) : St :=
  let a := μ 1 c / 20
  let μ1 := stU μ 1 c (μ 1 c - a)
  let μ2 := stU μ1 1 171 (μ1 1 171 + a)
  let t := μ2 1 c / 10
  let μ3 := stU μ2 1 c (μ2 1 c - t)
  let μ4 := stU μ3 1 (24 + c) (μ3 1 (24 + c) + t)
  let k := μ4 1 (24 + c) / 50
  let μ5 := stU μ4 1 (24 + c) (μ4 1 (24 + c) - k)
  stU μ5 1 172 (μ5 1 172 + k)
theorem wea9 {σ : St} {c n : Nat} (hc : c < 24) : sp_X0_weather_2 (n + 1) (ι c) σ = sp_X0_weather_2 n (ι (c + 1)) (wea σ c) := by
  have q : ¬ (24 : Int32) ≤ ι c := by rw [show (24 : Int32) = ι 24 from rfl, ι_le (by omega) (by omega)]; omega
  rw [sp_X0_weather_2, if_neg q]
  simp only [ι_nat (show c < 100000 by omega), ix2 hc (show 24 < 100000 by omega), sl, ι_one]
  rfl
theorem i0 (c : Nat) : (0 : Int32) + ι c = ι c := by rw [show (0 : Int32) = ι 0 from rfl, ι_add, Nat.zero_add]
theorem i24 (c : Nat) : (24 : Int32) + ι c = ι (24 + c) := ι_add 24 c
theorem i48 (c : Nat) : (48 : Int32) + ι c = ι (48 + c) := ι_add 48 c
theorem i72 (c : Nat) : (72 : Int32) + ι c = ι (72 + c) := ι_add 72 c
theorem i96 (c : Nat) : (96 : Int32) + ι c = ι (96 + c) := ι_add 96 c
theorem i120 (c : Nat) : (120 : Int32) + ι c = ι (120 + c) := ι_add 120 c
theorem i144 (c : Nat) : (144 : Int32) + ι c = ι (144 + c) := ι_add 144 c
theorem i148 (c : Nat) : (148 : Int32) + ι c = ι (148 + c) := ι_add 148 c
theorem n168 : (168 : Int32).toNatClampNeg = 168 := by decide
theorem n169 : (169 : Int32).toNatClampNeg = 169 := by decide
theorem n170 : (170 : Int32).toNatClampNeg = 170 := by decide
theorem n171 : (171 : Int32).toNatClampNeg = 171 := by decide
theorem n172 : (172 : Int32).toNatClampNeg = 172 := by decide
theorem n173 : (173 : Int32).toNatClampNeg = 173 := by decide
theorem wea10 {μ : St} {c : Nat} (hc : c < 24) : sp_X10_weather (ι c) μ = some (weaM μ c) := by
  unfold sp_X10_weather
  simp only [i0, i24, n171, n172, ι_nat (show c < 100000 by omega), ι_nat (show 24 + c < 100000 by omega), ix2 (show c < 174 by omega) (show 174 < 100000 by omega), ix2 (show 24 + c < 174 by omega) (show 174 < 100000 by omega), sl]
  rfl
/-- what weather takes -/
def wa (f : Int32) : Int32 := f / 20
def wt (f : Int32) : Int32 := (f - wa f) / 10
def wk (f t : Int32) : Int32 := (t + wt f) / 50
def weaS (k4 i4 k5 i5 ka ia kb ib : Nat) (σ : St) : St :=
  stU (stU (stU (stU σ k4 i4 (σ k4 i4 - wa (σ k4 i4) - wt (σ k4 i4))) k5 i5 (σ k5 i5 + wt (σ k4 i4) - wk (σ k4 i4) (σ k5 i5))) ka ia (σ ka ia + wa (σ k4 i4))) kb ib (σ kb ib + wk (σ k4 i4) (σ k5 i5))
theorem wea_S {σ : St} {c : Nat} : wea σ c = weaS 4 c 5 c 23 2 23 3 σ := by
  have e1 : wea σ c = stU (stU (stU (stU (stU (stU σ 4 c (σ 4 c - wa (σ 4 c))) 23 2 (σ 23 2 + wa (σ 4 c))) 4 c (σ 4 c - wa (σ 4 c) - wt (σ 4 c))) 5 c (σ 5 c + wt (σ 4 c))) 5 c (σ 5 c + wt (σ 4 c) - wk (σ 4 c) (σ 5 c))) 23 3 (σ 23 3 + wk (σ 4 c) (σ 5 c)) := by
    unfold wea wk wt wa
    simp [stU_ite]
  rw [e1]
  unfold weaS
  funext k i
  simp only [stU_ite]
  by_cases h1 : k = 4
  · subst h1; by_cases g : i = c <;> simp [g]
  · by_cases h2 : k = 5
    · subst h2; by_cases g : i = c <;> simp [g]
    · by_cases h3 : k = 23
      · subst h3; simp
      · simp [h1, h2, h3]
theorem weaM_S {μ : St} {c : Nat} (hc : c < 24) : weaM μ c = weaS 1 c 1 (24 + c) 1 171 1 172 μ := by
  have n1 : ¬ 24 + c = c := by omega
  have n2 : ¬ c = 24 + c := by omega
  have n3 : ¬ c = 171 := by omega
  have n4 : ¬ 24 + c = 171 := by omega
  have n5 : ¬ c = 172 := by omega
  have n6 : ¬ 24 + c = 172 := by omega
  have n7 : ¬ 171 = c := by omega
  have n8 : ¬ 172 = c := by omega
  have n9 : ¬ 171 = 24 + c := by omega
  have n0 : ¬ 172 = 24 + c := by omega
  have e1 : weaM μ c = stU (stU (stU (stU (stU (stU μ 1 c (μ 1 c - wa (μ 1 c))) 1 171 (μ 1 171 + wa (μ 1 c))) 1 c (μ 1 c - wa (μ 1 c) - wt (μ 1 c))) 1 (24 + c) (μ 1 (24 + c) + wt (μ 1 c))) 1 (24 + c) (μ 1 (24 + c) + wt (μ 1 c) - wk (μ 1 c) (μ 1 (24 + c)))) 1 172 (μ 1 172 + wk (μ 1 c) (μ 1 (24 + c))) := by
    unfold weaM wk wt wa
    simp [stU_ite, n1, n2, n3, n4, n5, n6, n7, n8, n9, n0]
  rw [e1]
  unfold weaS
  funext k i
  simp only [stU_ite]
  by_cases h1 : k = 1
  · subst h1
    by_cases g1 : i = c
    · subst g1; simp [n1, n2, n3, n4, n5, n6]
    · by_cases g2 : i = 24 + c
      · subst g2; simp [n1, n4, n6]
      · simp [g1, g2]
  · simp [h1]
theorem weaR {e : Prop} {σ μ : St} (h : Rd (Dm e) σ μ) {c : Nat} (hc : c < 24) : Rd (Dm e) (wea σ c) (weaM μ c) := by
  rw [wea_S, weaM_S hc]
  have e4 : σ 4 c = μ 1 c := h 4 c hc
  have e5 : σ 5 c = μ 1 (24 + c) := h 5 c hc
  unfold weaS
  rw [← e4, ← e5]
  exact (((h.upd dmu (k := 4) (i := c) (Or.inl hc) (fun _ => rfl)).upd dmu (k := 5) (i := c) (Or.inl hc) (fun _ => rfl)).upd dmu (k := 23) (i := 2) (Or.inl ⟨trivial, by decide⟩) (fun d => by rw [show σ 23 2 = μ 1 171 from h 23 2 d])).upd dmu (k := 23) (i := 3) (Or.inl ⟨trivial, by decide⟩) (fun d => by rw [show σ 23 3 = μ 1 172 from h 23 3 d])
theorem wa_v {f : Int32} (h : 0 ≤ f.toInt) : (wa f).toInt = f.toInt / 20 := t_div h (by decide)
theorem wt_v {f : Int32} (h : 0 ≤ f.toInt) : (wt f).toInt = (f.toInt - f.toInt / 20) / 10 := by
  have h1 := wa_v h
  have h2 : f.toInt ≤ 2147483647 := Int32.toInt_le f
  have h3 : (f - wa f).toInt = f.toInt - f.toInt / 20 := by rw [t_sub (by omega) (by omega), h1]
  unfold wt
  rw [t_div (by omega) (by decide), h3]
  rfl
theorem wk_v {f t : Int32} (hf : 0 ≤ f.toInt) (ht : 0 ≤ t.toInt) (hb : f.toInt + t.toInt ≤ 1000000) : (wk f t).toInt = (t.toInt + (f.toInt - f.toInt / 20) / 10) / 50 := by
  have h1 := wt_v hf
  have h3 : (t + wt f).toInt = t.toInt + (f.toInt - f.toInt / 20) / 10 := by rw [t_add (by omega) (by omega), h1]
  unfold wk
  rw [t_div (by omega) (by decide), h3]
  rfl
theorem weaI {nS nM : Nat} {K : Int} (hK : K ≤ 400000) {σ : St} (h : I1 nS nM K σ) {c : Nat} (hc : c < 24) : I1 nS nM K (wea σ c) := by
  obtain ⟨b1, b2, b3, b4⟩ := h.b4 hc
  have va := wa_v b2
  have vt := wt_v b2
  have vk := wk_v b2 b3 (by omega)
  have z4 := (h.1 c hc).2
  have z5 := (h.2.1 c hc).2
  have v1 : (σ 4 c - wa (σ 4 c)).toInt = (σ 4 c).toInt - (wa (σ 4 c)).toInt := t_sub (by omega) (by omega)
  have v2 : (σ 4 c - wa (σ 4 c) - wt (σ 4 c)).toInt = (σ 4 c).toInt - (wa (σ 4 c)).toInt - (wt (σ 4 c)).toInt := by rw [t_sub (by omega) (by omega), v1]
  have v3 : (σ 5 c + wt (σ 4 c)).toInt = (σ 5 c).toInt + (wt (σ 4 c)).toInt := t_add (by omega) (by omega)
  have v4 : (σ 5 c + wt (σ 4 c) - wk (σ 4 c) (σ 5 c)).toInt = (σ 5 c).toInt + (wt (σ 4 c)).toInt - (wk (σ 4 c) (σ 5 c)).toInt := by rw [t_sub (by omega) (by omega), v3]
  rw [wea_S]
  unfold weaS
  refine I1.oth (I1.oth ?_ rfl) rfl
  have s1 := h.s4 (c := c) (x := σ 4 c - wa (σ 4 c) - wt (σ 4 c)) hc (by omega) (fun q => by have := z4 q; omega)
  have s2 := s1.s5 (c := c) (x := σ 5 c + wt (σ 4 c) - wk (σ 4 c) (σ 5 c)) hc (by omega) (fun q => by rw [stU_k (by decide)] at q; have a1 := z4 q; have a2 := z5 q; omega)
  rw [stU_k (by decide)] at s2
  exact s2.mono (by omega)
theorem wea0 {nS nM hr : Nat} {σ : St} (h : I0 nS nM hr σ) {c : Nat} : I0 nS nM hr (wea σ c) := by
  rw [wea_S]
  exact I0.oth (I0.oth (I0.oth (I0.oth h rfl) rfl) rfl) rfl
theorem weaB {nM : Nat} {σ μ : St} (h : Bo nM σ μ) {c : Nat} (hc : c < 24) : Bo nM (wea σ c) (weaM μ c) := by
  rw [wea_S, weaM_S hc]
  exact ((((((((h.left rfl).left rfl).left rfl).left rfl).right (by decide)).right (by decide)).right (by decide)).right (by decide))
theorem weaF {σ : St} {c : Nat} : Fr (wea σ c) σ := by
  rw [wea_S]
  exact (((Fr.rf.st rfl).st rfl).st rfl).st rfl
/-- .. -/
theorem weather_eq {e : Prop} {nS nM hr : Nat} {K : Int} (hK : K ≤ 400000) : ∀ (j c n n' : Nat) (σ μ : St), c + j = 24 → j < n → j < n' → Jn e nS nM hr K σ μ → ∃ σ' μ', sp_X0_weather_2 n (ι c) σ = some σ' ∧ sp_X10_hour_130 n' (ι c) μ = sp_X10_hour_149 200 (0 : Int32) μ' ∧ Jn e nS nM hr K σ' μ' ∧ Fr σ' σ := by
  intro j
  induction j with
  | zero =>
    intro c n n' σ μ h1 h2 h3 h
    obtain ⟨n, rfl⟩ : ∃ q, n = q + 1 := ⟨n - 1, by omega⟩
    obtain ⟨n', rfl⟩ : ∃ q, n' = q + 1 := ⟨n' - 1, by omega⟩
    have q : (24 : Int32) ≤ ι c := by rw [show (24 : Int32) = ι 24 from rfl, ι_le (by omega) (by omega)]; omega
    exact ⟨σ, μ, by rw [sp_X0_weather_2, if_pos q], by rw [sp_X10_hour_130, if_pos q], h, Fr.rf⟩
  | succ j ih =>
    intro c n n' σ μ h1 h2 h3 h
    obtain ⟨n, rfl⟩ : ∃ q, n = q + 1 := ⟨n - 1, by omega⟩
    obtain ⟨n', rfl⟩ : ∃ q, n' = q + 1 := ⟨n' - 1, by omega⟩
    have hc : c < 24 := by omega
    have q : ¬ (24 : Int32) ≤ ι c := by rw [show (24 : Int32) = ι 24 from rfl, ι_le (by omega) (by omega)]; omega
    obtain ⟨r1, r2, r3, r4⟩ := h
    obtain ⟨σ', μ', g1, g2, g3⟩ := ih (c + 1) n n' (wea σ c) (weaM μ c) (by omega) (by omega) (by omega) ⟨weaR r1 hc, weaB r2 hc, wea0 r3, weaI hK r4 hc⟩
    refine ⟨σ', μ', by rw [wea9 hc]; exact g1, ?_, g3.1, g3.2.tr weaF⟩
    rw [sp_X10_hour_130, if_neg q, wea10 hc]
    simp only [b1, ι_one]
    exact g2
