/-! what each call does to the relation -/
theorem Rd.out1 {e : Prop} {σ μ : St} (h : Rd (Dm e) σ μ) {k i : Nat} {x : Int32} (hk : ρ (ρb (k, i)).1 (ρb (k, i)).2 ≠ (k, i)) : Rd (Dm e) σ (stU μ k i x) := by
  refine h.right (fun a b hab q => ?_)
  have h1 := ρb_ρ (dmu a b hab)
  rw [q] at h1
  rw [h1] at hk
  exact hk q
theorem Rd.out2 {e : Prop} {σ μ : St} (h : Rd (Dm e) σ μ) {k i : Nat} {x : Int32} (hk : ¬ Dm True (ρb (k, i)).1 (ρb (k, i)).2) : Rd (Dm e) σ (stU μ k i x) := by
  refine h.right (fun a b hab q => ?_)
  have h1 := ρb_ρ (dmu a b hab)
  rw [q] at h1
  rw [h1] at hk
  exact hk hab.up
theorem u_depth {nS nM hr : Nat} {σ δ μ : St} {π : St × Int64} (h : RR nS nM hr σ δ π μ) {c : Nat} (hc : c < 24) (g : σ 2 c = 0) {x : Int32} : RR nS nM hr (stU σ 3 c x) δ π (stU μ 4 c x) := by
  obtain ⟨⟨r, b, i0, i1⟩, hh, hx, hs, hd, hz, ht, h0, hp, hD, hP⟩ := h
  refine ⟨⟨(r.left (k := 3) id).out1 (fun e => by cases e), (b.left rfl).right (by decide), i0.oth rfl, i1.oth rfl⟩, hh, hx, hs, fun a ha => ?_, hz, ht, h0, hp, hD, hP⟩
  by_cases ea : a = c
  · subst ea
    rw [stU_same, stU_same, stU_k (by decide), if_pos g]
  · rw [stU_i ea, stU_i ea, stU_k (by decide)]
    exact hd a ha
theorem u_wind {nS nM hr : Nat} {σ δ μ : St} {π : St × Int64} (h : RR nS nM hr σ δ π μ) {x y : Nat} (hx4 : x < 4) (hy : y < 10) : RR nS nM hr (stU (stU σ 0 5 (ι x)) 0 6 (ι y)) δ π (stU (stU μ 0 5 (ι x)) 0 6 (ι y)) := by
  obtain ⟨⟨r, b, i0, i1⟩, hh, hx, hs, hd, hz, ht, h0, hp, hD, hP⟩ := h
  have i0' : I0 nS nM hr (stU (stU σ 0 5 (ι x)) 0 6 (ι y)) := ⟨i0.1, i0.2.1, i0.2.2.1, ⟨x, hx4, rfl⟩, ⟨y, hy, rfl⟩, i0.2.2.2.2.2⟩
  exact ⟨⟨(r.upd dmu (k := 0) (i := 5) (Or.inl (Or.inr (Or.inl rfl))) (fun _ => rfl)).upd dmu (k := 0) (i := 6) (Or.inl (Or.inr (Or.inr rfl))) (fun _ => rfl), ((((b.left rfl).left rfl).right (by decide)).right (by decide)), i0', (i1.oth rfl).oth rfl⟩, hh, hx, hs, hd, hz, ht, h0, hp, hD, hP⟩
theorem u_hole {nS nM hr : Nat} {σ δ μ : St} {π : St × Int64} (h : RR nS nM hr σ δ π μ) {s : Nat} (hs4 : s < 4) {y : Nat} (hy : y < 100) : RR nS nM hr (stU σ 13 s (ι y)) δ π (stU μ 7 s (ι y)) := by
  obtain ⟨⟨r, b, i0, i1⟩, hh, hx, hs, hd, hz, ht, h0, hp, hD, hP⟩ := h
  have i0' : I0 nS nM hr (stU σ 13 s (ι y)) := ⟨i0.1, i0.2.1, i0.2.2.1, i0.2.2.2.1, i0.2.2.2.2.1, i0.2.2.2.2.2.1, i0.2.2.2.2.2.2.1, pt_upd (P := fun _ v => ∃ r, r < 100 ∧ v = ι r) i0.2.2.2.2.2.2.2.1 (fun _ => ⟨y, hy, rfl⟩), i0.2.2.2.2.2.2.2.2⟩
  exact ⟨⟨r.upd dmu (k := 13) (i := s) (Or.inl hs4) (fun _ => rfl), (b.left rfl).right (by decide), i0', i1.oth rfl⟩, hh, hx, hs, hd, hz, ht, h0, hp, hD, hP⟩
theorem u_ship {nS nM hr : Nat} {σ δ μ : St} {π : St × Int64} (h : RR nS nM hr σ δ π μ) (hn : nS < 4) {c : Nat} (hc : c < 24) (g : σ 2 c = 0) {x : Int32} (x0 : 0 ≤ x.toInt) (x1 : x.toInt ≤ 100000) : RR (nS + 1) nM hr (stU (stU (stU σ 11 nS (ι c)) 12 nS x) 10 0 (ι (nS + 1))) δ π (stU (stU (stU μ 6 nS (ι c)) 1 (144 + nS) x) 0 7 (ι (nS + 1))) := by
  obtain ⟨⟨r, b, i0, i1⟩, hh, hx, hs, hd, hz, ht, h0, hp, hD, hP⟩ := h
  have q7 : ∀ s, s < nS + 1 → ∃ d, d < 24 ∧ (stU σ 11 nS (ι c)) 11 s = ι d ∧ σ 2 d = 0 := by
    intro s hs1
    by_cases e : s = nS
    · subst e; exact ⟨c, hc, stU_same _ _ _ _, g⟩
    · rw [stU_i e]; exact i0.2.2.2.2.2.2.1 s (by omega)
  have i0' : I0 (nS + 1) nM hr (stU (stU (stU σ 11 nS (ι c)) 12 nS x) 10 0 (ι (nS + 1))) := ⟨i0.1, ⟨by omega, stU_same _ _ _ _⟩, i0.2.2.1, i0.2.2.2.1, i0.2.2.2.2.1, i0.2.2.2.2.2.1, q7, i0.2.2.2.2.2.2.2.1, i0.2.2.2.2.2.2.2.2⟩
  have j1 : I1 (nS + 1) nM (100000 * (nS : Int)) (stU σ 11 nS (ι c)) := by
    obtain ⟨a1, a2, a3, a4, a5, a6⟩ := i1
    exact ⟨a1, a2, a3, fun s h1 => ⟨(a4 s h1).1, fun h2 => (a4 s h1).2 (by omega)⟩, a5, a6⟩
  have z12 : (σ 12 nS).toInt = 0 := (i1.2.2.2.1 nS hn).2 (Nat.le_refl _)
  have j2 := (j1.s12 (s := nS) (x := x) hn x0 (fun q => absurd q (by omega))).oth (k := 10) (i := 0) (x := ι (nS + 1)) rfl
  have j3 : I1 (nS + 1) nM (100000 * ((nS + 1 : Nat) : Int)) _ := j2.mono (by rw [show (stU σ 11 nS (ι c)) 12 nS = σ 12 nS from stU_k (by decide), z12]; omega)
  have e7 : μ 0 7 = σ 10 0 := (r 10 0 rfl).symm
  exact ⟨⟨((r.upd dmu (k := 11) (i := nS) (Or.inl hn) (fun _ => rfl)).upd dmu (k := 12) (i := nS) (Or.inl hn) (fun _ => rfl)).upd dmu (k := 10) (i := 0) (Or.inl rfl) (fun _ => rfl), ((((((b.left rfl).left rfl).left rfl).right (by decide)).right (by decide)).right (by decide)), i0', j3⟩, hh, hx, hs, hd, hz, ht, h0, hp, hD, hP⟩
theorem u_pump {nS nM hr : Nat} {σ δ μ : St} {π : St × Int64} (h : RR nS nM hr σ δ π μ) {s t : Nat} (hs4 : s < nS) (ht4 : t < nS) (hne : s ≠ t) {x : Int32} (x0 : 1 ≤ x.toInt) (x1 : x.toInt ≤ (σ 12 s).toInt) (x2 : (σ 12 t).toInt + x.toInt ≤ 100000) : RR nS nM hr (stU (stU σ 12 s (σ 12 s - x)) 12 t (σ 12 t + x)) δ π (stU (stU μ 1 (144 + s) (μ 1 (144 + s) - x)) 1 (144 + t) (μ 1 (144 + t) + x)) := by
  obtain ⟨⟨r, b, i0, i1⟩, hh, hx, hs, hd, hz, ht, h0, hp, hD, hP⟩ := h
  have n4 := i0.2.1.1
  have es : μ 1 (144 + s) = σ 12 s := (r 12 s (show s < 4 by omega)).symm
  have et : μ 1 (144 + t) = σ 12 t := (r 12 t (show t < 4 by omega)).symm
  have ns := (i1.2.2.2.1 s (by omega)).1
  have nt := (i1.2.2.2.1 t (by omega)).1
  have bs1 : (σ 12 s).toInt ≤ 2147483647 := Int32.toInt_le (σ 12 s)
  have e1 : (σ 12 s - x).toInt = (σ 12 s).toInt - x.toInt := t_sub (by omega) (by omega)
  have e2 : (σ 12 t + x).toInt = (σ 12 t).toInt + x.toInt := t_add (by omega) (by omega)
  have j1 := i1.s12 (s := s) (x := σ 12 s - x) (by omega) (by omega) (fun q => absurd q (by omega))
  have j2 := j1.s12 (s := t) (x := σ 12 t + x) (by omega) (by omega) (fun q => absurd q (by omega))
  have j3 : I1 nS nM (100000 * (nS : Int)) _ := j2.mono (by rw [show (stU σ 12 s (σ 12 s - x)) 12 t = σ 12 t from stU_i (Ne.symm hne)]; omega)
  exact ⟨⟨(r.upd dmu (k := 12) (i := s) (Or.inl (show s < 4 by omega)) (fun _ => by rw [es])).upd dmu (k := 12) (i := t) (Or.inl (show t < 4 by omega)) (fun _ => by rw [et]), ((((b.left rfl).left rfl).right (by decide)).right (by decide)), (i0.oth rfl).oth rfl, j3⟩, hh, hx, hs, hd, hz, ht, h0, hp, hD, hP⟩
theorem u_move {nS nM hr : Nat} {σ δ μ : St} {π : St × Int64} (h : RR nS nM hr σ δ π μ) {m c : Nat} (hm : m < nM) (hc : c < 24) (g : σ 15 m = 1) : RR nS nM hr (stU σ 16 m (ι c)) δ π (stU μ 9 m (ι c)) := by
  obtain ⟨⟨r, b, i0, i1⟩, hh, hx, hs, hd, hz, ht, h0, hp, hD, hP⟩ := h
  have n20 := i0.2.2.1.1
  have b' : Bo nM (stU σ 16 m (ι c)) (stU μ 9 m (ι c)) := by
    intro a ha g0
    have g1 : σ 15 a = 0 := g0
    have ne : a ≠ m := fun e => by rw [e, g] at g1; cases g1
    obtain ⟨d, w, q1, q2, q3, q4, q5⟩ := b a ha g1
    exact ⟨d, w, q1, q2, (stU_i ne).trans q3, q4, q5⟩
  have i0' : I0 nS nM hr (stU σ 16 m (ι c)) := by
    refine ⟨i0.1, i0.2.1, i0.2.2.1, i0.2.2.2.1, i0.2.2.2.2.1, i0.2.2.2.2.2.1, i0.2.2.2.2.2.2.1, i0.2.2.2.2.2.2.2.1, fun a ha g0 => ?_⟩
    obtain ⟨q1, q2⟩ := i0.2.2.2.2.2.2.2.2 a ha g0
    refine ⟨?_, q2⟩
    by_cases e : a = m
    · subst e; exact ⟨c, hc, stU_same _ _ _ _⟩
    · rw [stU_i e]; exact q1
  exact ⟨⟨r.upd dmu (k := 16) (i := m) (Or.inl (show m < 20 by omega)) (fun _ => rfl), b', i0', i1.oth rfl⟩, hh, hx, hs, hd, hz, ht, h0, hp, hD, hP⟩
theorem u_teach {nS nM hr : Nat} {σ δ μ : St} {π : St × Int64} (h : RR nS nM hr σ δ π μ) {m : Nat} (hm : m < 20) {x : Int32} (x1 : x = 0 ∨ x = 1) : RR nS nM hr (stU σ 21 m x) δ π (stU μ 13 m x) := by
  obtain ⟨⟨r, b, i0, i1⟩, hh, hx, hs, hd, hz, ht, h0, hp, hD, hP⟩ := h
  exact ⟨⟨r.upd dmu (k := 21) (i := m) (Or.inl ⟨trivial, hm⟩) (fun _ => rfl), (b.left rfl).right (by decide), i0.oth rfl, i1.oth rfl⟩, hh, hx, hs, hd, hz, pt_upd (P := fun _ v => v = 0 ∨ v = 1) ht (fun _ => x1), h0, hp, hD, hP⟩
theorem u_birds {nS nM hr : Nat} {σ δ μ : St} {π : St × Int64} (h : RR nS nM hr σ δ π μ) {c : Nat} (hc : c < 24) (g : ¬ σ 2 c = 0) {x : Int32} : RR nS nM hr (stU σ 7 c x) δ π (stU μ 1 (72 + c) x) := by
  obtain ⟨⟨r, b, i0, i1⟩, hh, hx, hs, hd, hz, ht, h0, hp, hD, hP⟩ := h
  refine ⟨⟨r.upd dmu (k := 7) (i := c) (Or.inl ⟨trivial, hc⟩) (fun _ => rfl), (b.left rfl).right (by decide), i0.oth rfl, i1.oth rfl⟩, hh, fun _ a ha g0 => ?_, hs, hd, hz, ht, h0, hp, hD, hP⟩
  have g1 : σ 2 a = 0 := g0
  have ne : a ≠ c := fun e => g (e ▸ g1)
  obtain ⟨q1, q2⟩ := hx trivial a ha g1
  exact ⟨(stU_i ne).trans q1, q2⟩
theorem u_wash {nS nM hr : Nat} {σ δ μ : St} {π : St × Int64} (h : RR nS nM hr σ δ π μ) {c : Nat} (hc : c < 24) (g : ¬ σ 2 c = 0) {x : Int32} : RR nS nM hr (stU σ 8 c x) δ π (stU μ 1 (96 + c) x) := by
  obtain ⟨⟨r, b, i0, i1⟩, hh, hx, hs, hd, hz, ht, h0, hp, hD, hP⟩ := h
  refine ⟨⟨r.upd dmu (k := 8) (i := c) (Or.inl ⟨trivial, hc⟩) (fun _ => rfl), (b.left rfl).right (by decide), i0.oth rfl, i1.oth rfl⟩, hh, fun _ a ha g0 => ?_, hs, hd, hz, ht, h0, hp, hD, hP⟩
  have g1 : σ 2 a = 0 := g0
  have ne : a ≠ c := fun e => g (e ▸ g1)
  obtain ⟨q1, q2, q3⟩ := hx trivial a ha g1
  exact ⟨q1, (stU_i ne).trans q2, q3⟩
theorem u_sign {nS nM hr : Nat} {σ δ μ : St} {π : St × Int64} (h : RR nS nM hr σ δ π μ) {c : Nat} (hc : c < 24) (g : ¬ σ 2 c = 0) {x : Nat} (x8 : x < 8) : RR nS nM hr (stU σ 9 c (ι x)) δ π (stU μ 1 (120 + c) (ι x)) := by
  obtain ⟨⟨r, b, i0, i1⟩, hh, hx, hs, hd, hz, ht, h0, hp, hD, hP⟩ := h
  refine ⟨⟨r.upd dmu (k := 9) (i := c) (Or.inl ⟨trivial, hc⟩) (fun _ => rfl), (b.left rfl).right (by decide), i0.oth rfl, i1.oth rfl⟩, hh, fun _ a ha g0 => ?_, pt_upd (P := fun _ v => ∃ s, s < 8 ∧ v = ι s) hs (fun _ => ⟨x, x8, rfl⟩), hd, hz, ht, h0, hp, hD, hP⟩
  have g1 : σ 2 a = 0 := g0
  have ne : a ≠ c := fun e => g (e ▸ g1)
  obtain ⟨q1, q2, q3⟩ := hx trivial a ha g1
  exact ⟨q1, q2, (stU_i ne).trans q3⟩
