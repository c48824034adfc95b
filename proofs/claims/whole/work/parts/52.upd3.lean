theorem Tp_a {nM : Nat} {σ : St} (hp : Tp nM σ) {so ce po : Int32} (hk : so = 2 → ∃ p, p ≤ 50 ∧ po = ι p) {k : Nat} {x : Int32} (hkk : k = 17 ∨ k = 19 ∨ k = 21) : Tp (nM + 1) (stU (clA σ nM so ce po) k nM x) := by
  intro a ha g0
  have h15 : (stU (clA σ nM so ce po) k nM x) 15 a = (stU σ 15 nM so) 15 a := by
    rw [stU_k (by omega)]; rfl
  have h18 : (stU (clA σ nM so ce po) k nM x) 18 a = (stU σ 18 nM po) 18 a := by
    rw [stU_k (by omega)]; rfl
  rw [h15] at g0
  rw [h18]
  by_cases e : a = nM
  · subst e
    rw [stU_same] at g0 ⊢
    exact hk g0
  · rw [stU_i e] at g0 ⊢
    exact hp a (by omega) g0
theorem Bo_a {nM : Nat} {σ μ : St} (b : Bo nM σ μ) {so ce po : Int32} {k : Nat} {x : Int32} (hkk : k = 19 ∨ k = 21) (hs : ¬ so = 0) {μ' : St} (hm : μ' 10 = μ 10) : Bo (nM + 1) (stU (clA σ nM so ce po) k nM x) μ' := by
  intro a ha g0
  have h15 : (stU (clA σ nM so ce po) k nM x) 15 a = (stU σ 15 nM so) 15 a := by
    rw [stU_k (by omega)]; rfl
  have h16 : (stU (clA σ nM so ce po) k nM x) 16 a = (stU σ 16 nM ce) 16 a := by
    rw [stU_k (by omega)]; rfl
  have h17 : (stU (clA σ nM so ce po) k nM x) 17 a = σ 17 a := by
    rw [stU_k (by omega)]; rfl
  rw [h15] at g0
  rw [h16, h17, hm]
  by_cases e : a = nM
  · subst e; rw [stU_same] at g0; exact absurd g0 hs
  · rw [stU_i e] at g0 ⊢
    exact b a (by omega) g0
theorem u_boom {nS nM hr : Nat} {σ δ μ : St} {π : St × Int64} (h : RR nS nM hr σ δ π μ) (hn : nM < 20) {c w : Nat} (hc : c < 24) (hw : w < 4) (po : Int32) : RR nS (nM + 1) hr (stU (clA σ nM 0 (ι c) po) 17 nM (ι w)) δ π (moA (stU μ 10 nM (ι (bor c w))) nM 0 (ι c) po 0) := by
  obtain ⟨⟨r, b, i0, i1⟩, hh, hx, hs, hd, hz, ht, h0, hp, hD, hP⟩ := h
  have z12 : μ 12 nM = 0 := hz nM (Nat.le_refl _) hn
  have z19 : σ 19 nM = 0 := (r 19 nM hn).trans z12
  have r1 : Rd (Dm True) σ (stU μ 10 nM (ι (bor c w))) := r.out1 (fun e => by cases e)
  have r2 := a_Rd r1 hn (so := 0) (ce := ι c) (po := po)
  have em : moA (stU μ 10 nM (ι (bor c w))) nM 0 (ι c) po 0 = stU (stU (stU (stU (stU (stU μ 10 nM (ι (bor c w))) 8 nM 0) 9 nM (ι c)) 11 nM po) 14 nM (-1)) 0 10 (ι (nM + 1)) := by
    unfold moA
    rw [stU_noop (k := 12) (show (stU (stU (stU (stU μ 10 nM (ι (bor c w))) 8 nM 0) 9 nM (ι c)) 11 nM po) 12 nM = 0 from z12)]
  rw [em]
  have b' : Bo (nM + 1) (stU (clA σ nM 0 (ι c) po) 17 nM (ι w)) (stU (stU (stU (stU (stU (stU μ 10 nM (ι (bor c w))) 8 nM 0) 9 nM (ι c)) 11 nM po) 14 nM (-1)) 0 10 (ι (nM + 1))) := by
    intro a ha g0
    have g1 : (stU σ 15 nM 0) 15 a = 0 := g0
    show ∃ d v, d < 24 ∧ v < 4 ∧ (stU σ 16 nM (ι c)) 16 a = ι d ∧ (stU σ 17 nM (ι w)) 17 a = ι v ∧ (stU μ 10 nM (ι (bor c w))) 10 a = ι (bor d v)
    by_cases e : a = nM
    · subst e
      exact ⟨c, w, hc, hw, stU_same _ _ _ _, stU_same _ _ _ _, stU_same _ _ _ _⟩
    · rw [stU_i e] at g1
      rw [stU_i e, stU_i e, stU_i e]
      exact b a (by omega) g1
  exact ⟨⟨r2.left (k := 17) id, b', a_I0 i0 hn (so := 0) (st := 0) (fun q => absurd q (by decide)) (fun _ => z19) (Or.inl rfl) (fun q => absurd q (by decide)), a_I1 i1 hn (so := 0) (st := 0) (fun q => absurd q (by decide)) (fun _ => z19) (Or.inl rfl) (fun q => absurd q (by decide))⟩, hh, hx, hs, hd, fun a h1 h2 => hz a (by omega) h2, ht, h0, Tp_a hp (so := 0) (fun q => absurd q (by decide)) (Or.inl rfl), hD, hP⟩
theorem u_skimmer {nS nM hr : Nat} {σ δ μ : St} {π : St × Int64} (h : RR nS nM hr σ δ π μ) (hn : nM < 20) {c po st : Nat} (hc : c < 24) (hpo : po ≤ 500) (hst : st ≤ 5000) : RR nS (nM + 1) hr (stU (clA σ nM 1 (ι c) (ι po)) 19 nM (ι st)) δ π (moA μ nM 1 (ι c) (ι po) (ι st)) := by
  obtain ⟨⟨r, b, i0, i1⟩, hh, hx, hs, hd, hz, ht, h0, hp, hD, hP⟩ := h
  have r2 := (a_Rd r hn (so := 1) (ce := ι c) (po := ι po)).upd dmu (k := 19) (i := nM) (Or.inl hn) (x := ι st) (y := ι st) (fun _ => rfl)
  have em : moA μ nM 1 (ι c) (ι po) (ι st) = stU (stU (stU (stU (stU (stU μ 8 nM 1) 9 nM (ι c)) 11 nM (ι po)) 14 nM (-1)) 0 10 (ι (nM + 1))) 12 nM (ι st) := by
    unfold moA
    rw [stU_comm (k := 12) (k2 := 14) (by omega), stU_comm (k := 12) (k2 := 0) (by omega)]
  rw [em]
  refine ⟨⟨r2, Bo_a b (Or.inl rfl) (by decide) rfl, a_I0 i0 hn (so := 1) (st := ι st) (fun _ => ⟨⟨c, hc, rfl⟩, ⟨po, hpo, rfl⟩, ⟨st, hst, rfl⟩⟩) (fun q => absurd rfl q) (Or.inr (Or.inl rfl)) (fun _ => rfl), a_I1 i1 hn (so := 1) (st := ι st) (fun _ => by rw [ι_toInt (by omega)]; omega) (fun q => absurd rfl q) (Or.inr (Or.inl rfl)) (fun _ => rfl)⟩, hh, hx, hs, hd, fun a h1 h2 => ?_, ht, h0, Tp_a hp (so := 1) (fun q => absurd q (by decide)) (Or.inr (Or.inl rfl)), hD, hP⟩
  rw [stU_i (by omega)]
  exact hz a (by omega) h2
theorem u_team {nS nM hr : Nat} {σ δ μ : St} {π : St × Int64} (h : RR nS nM hr σ δ π μ) (hn : nM < 20) {po : Nat} (hpo : po ≤ 50) {x : Int32} (x1 : x = 0 ∨ x = 1) : RR nS (nM + 1) hr (stU (clA σ nM 2 (-1) (ι po)) 21 nM x) δ π (moA (stU μ 13 nM x) nM 2 (-1) (ι po) 0) := by
  obtain ⟨⟨r, b, i0, i1⟩, hh, hx, hs, hd, hz, ht, h0, hp, hD, hP⟩ := h
  have z12 : μ 12 nM = 0 := hz nM (Nat.le_refl _) hn
  have z19 : σ 19 nM = 0 := (r 19 nM hn).trans z12
  have r2 := (a_Rd r hn (so := 2) (ce := -1) (po := ι po)).upd dmu (k := 21) (i := nM) (Or.inl ⟨trivial, hn⟩) (x := x) (y := x) (fun _ => rfl)
  have em : moA (stU μ 13 nM x) nM 2 (-1) (ι po) 0 = stU (stU (stU (stU (stU (stU μ 8 nM 2) 9 nM (-1)) 11 nM (ι po)) 14 nM (-1)) 0 10 (ι (nM + 1))) 13 nM x := by
    unfold moA
    rw [stU_noop (k := 12) (show (stU (stU (stU (stU μ 13 nM x) 8 nM 2) 9 nM (-1)) 11 nM (ι po)) 12 nM = 0 from z12)]
    rw [stU_comm (k := 13) (k2 := 8) (by omega), stU_comm (k := 13) (k2 := 9) (by omega), stU_comm (k := 13) (k2 := 11) (by omega), stU_comm (k := 13) (k2 := 14) (by omega), stU_comm (k := 13) (k2 := 0) (by omega)]
  rw [em]
  exact ⟨⟨r2, Bo_a b (Or.inr rfl) (by decide) rfl, a_I0 i0 hn (so := 2) (st := 0) (fun q => absurd q (by decide)) (fun _ => z19) (Or.inr (Or.inr rfl)) (fun q => absurd q (by decide)), a_I1 i1 hn (so := 2) (st := 0) (fun q => absurd q (by decide)) (fun _ => z19) (Or.inr (Or.inr rfl)) (fun q => absurd q (by decide))⟩, hh, hx, hs, hd, fun a h1 h2 => hz a (by omega) h2, pt_upd (P := fun _ v => v = 0 ∨ v = 1) ht (fun _ => x1), h0, Tp_a hp (so := 2) (fun _ => ⟨po, hpo, rfl⟩) (Or.inr (Or.inr rfl)), hD, hP⟩
/-! oil that is taken by a call -/
theorem u_dis {nS nM hr : Nat} {σ δ μ : St} {π : St × Int64} (h : RR nS nM hr σ δ π μ) {c : Nat} (hc : c < 24) (g : σ 2 c = 0) (x : Int32) (hx0 : 0 ≤ x.toInt) (hx1 : x.toInt ≤ (σ 4 c).toInt) {i : Nat} (hi : i = 5 ∨ i = 6) : RR nS nM hr (stU (stU σ 4 c (σ 4 c - x)) 23 i (σ 23 i + x)) δ π (stU (stU μ 1 c (μ 1 c - x)) 0 (i + 13) (μ 0 (i + 13) + x)) := by
  obtain ⟨⟨r, b, i0, i1⟩, hh, hx, hs, hd, hz, ht, h0, hp, hD, hP⟩ := h
  have e4 : μ 1 c = σ 4 c := (r 4 c hc).symm
  have b4 := (i1.1 c hc).1
  have e1 : (σ 4 c - x).toInt = (σ 4 c).toInt - x.toInt := t_sub (by omega) (by have : (σ 4 c).toInt ≤ 2147483647 := Int32.toInt_le _; omega)
  have j1 := i1.s4 (c := c) (x := σ 4 c - x) hc (by omega) (fun q => absurd g q)
  have j2 : I1 nS nM (100000 * (nS : Int)) _ := j1.mono (by omega)
  have r1 := r.upd dmu (k := 4) (i := c) (Or.inl hc) (x := σ 4 c - x) (y := μ 1 c - x) (fun _ => by rw [e4])
  have z : Z0 hr (stU (stU σ 4 c (σ 4 c - x)) 23 i (σ 23 i + x)) := by
    intro hr0 a ha
    have q := h0 hr0 a ha
    show stU σ 4 c (σ 4 c - x) 4 a = 0 ∧ σ 5 a = 0 ∧ σ 6 a = 0
    refine ⟨?_, q.2⟩
    by_cases e : a = c
    · subst e
      rw [stU_same]
      refine Int32.toInt_inj.mp ?_
      rw [q.1] at e1 hx1 ⊢
      have z0 : (0 : Int32).toInt = 0 := rfl
      omega
    · rw [stU_i e]; exact q.1
  rcases hi with rfl | rfl
  · have e5 : σ 23 5 = μ 0 18 := r 23 5 ⟨trivial, by decide⟩
    exact ⟨⟨r1.upd dmu (k := 23) (i := 5) (Or.inl ⟨trivial, by decide⟩) (fun _ => by rw [e5]), ((((b.left rfl).left rfl).right (by decide)).right (by decide)), (i0.oth rfl).oth rfl, j2.oth rfl⟩, hh, hx, hs, hd, hz, ht, z, hp, hD, hP⟩
  · have e5 : σ 23 6 = μ 0 19 := r 23 6 ⟨trivial, by decide⟩
    exact ⟨⟨r1.upd dmu (k := 23) (i := 6) (Or.inl ⟨trivial, by decide⟩) (fun _ => by rw [e5]), ((((b.left rfl).left rfl).right (by decide)).right (by decide)), (i0.oth rfl).oth rfl, j2.oth rfl⟩, hh, hx, hs, hd, hz, ht, z, hp, hD, hP⟩
theorem u_clean {nS nM hr : Nat} {σ δ μ : St} {π : St × Int64} (h : RR nS nM hr σ δ π μ) {m c : Nat} (hm : m < nM) (hc : c < 24) (g15 : σ 15 m = 2) (x t : Int32) (hx0 : 0 ≤ x.toInt) (hx1 : x.toInt ≤ (σ 6 c).toInt) : RR nS nM hr (stU (stU (stU σ 20 m t) 22 m (ι hr)) 6 c (σ 6 c - x)) (stU δ 1 1 (δ 1 1 + x)) π (stU (stU (stU (stU μ 1 (48 + c) (μ 1 (48 + c) - x)) 15 1 (μ 15 1 + x)) 1 (148 + m) t) 14 m (ι hr)) := by
  obtain ⟨⟨r, b, i0, i1⟩, hh, hx, hs, hd, hz, ht, h0, hp, hD, hP⟩ := h
  have n20 := i0.2.2.1.1
  have e6 : μ 1 (48 + c) = σ 6 c := (r 6 c hc).symm
  obtain ⟨d1, d2, d3, d4⟩ := hD
  have b6 := i1.2.2.1 c hc
  have e1 : (σ 6 c - x).toInt = (σ 6 c).toInt - x.toInt := t_sub (by omega) (by have : (σ 6 c).toInt ≤ 2147483647 := Int32.toInt_le _; omega)
  have j0 : I1 nS nM (100000 * (nS : Int)) (stU (stU σ 20 m t) 22 m (ι hr)) := (i1.s20 (fun _ q => by rw [g15] at q; cases q) (fun q => absurd q (by omega))).oth rfl
  have j1 := j0.s6 (c := c) (x := σ 6 c - x) hc (by omega) (by show _ ≤ (tabH (σ 2 c)).toInt; omega)
  have j2 : I1 nS nM (100000 * (nS : Int)) _ := j1.mono (by show _ - (σ 6 c).toInt + _ ≤ _; omega)
  have em : stU (stU (stU (stU μ 1 (48 + c) (μ 1 (48 + c) - x)) 15 1 (μ 15 1 + x)) 1 (148 + m) t) 14 m (ι hr) = stU (stU (stU (stU μ 1 (148 + m) t) 14 m (ι hr)) 1 (48 + c) (μ 1 (48 + c) - x)) 15 1 (μ 15 1 + x) := by
    rw [stU_comm (k := 15) (k2 := 1) (by omega), stU_comm (k := 15) (k2 := 14) (by omega), stU_comm (k := 1) (i := 48 + c) (k2 := 1) (i2 := 148 + m) (by omega), stU_comm (k := 1) (i := 48 + c) (k2 := 14) (by omega)]
  rw [em]
  have r1 := (((r.upd dmu (k := 20) (i := m) (Or.inl (show m < 20 by omega)) (x := t) (y := t) (fun _ => rfl)).upd dmu (k := 22) (i := m) (Or.inl ⟨trivial, show m < 20 by omega⟩) (x := ι hr) (y := ι hr) (fun _ => rfl)).upd dmu (k := 6) (i := c) (Or.inl hc) (x := σ 6 c - x) (y := μ 1 (48 + c) - x) (fun _ => by rw [e6]))
  refine ⟨⟨r1.out1 (fun e => by cases e), (((((((b.left rfl).left rfl).left rfl).right (by decide)).right (by decide)).right (by decide)).right (by decide)), ((i0.oth rfl).oth rfl).oth rfl, j2⟩, hh, hx, hs, hd, hz, ht, ?_, hp, ⟨d1, d2, row_eq d3 (by rw [d3 1 (by decide)]), d4⟩, hP⟩
  intro hr0 a ha
  have q := h0 hr0 a ha
  show σ 4 a = 0 ∧ σ 5 a = 0 ∧ stU σ 6 c (σ 6 c - x) 6 a = 0
  refine ⟨q.1, q.2.1, ?_⟩
  by_cases e : a = c
  · subst e
    rw [stU_same]
    refine Int32.toInt_inj.mp ?_
    rw [q.2.2] at e1 hx1 ⊢
    have z0 : (0 : Int32).toInt = 0 := rfl
    omega
  · rw [stU_i e]; exact q.2.2
