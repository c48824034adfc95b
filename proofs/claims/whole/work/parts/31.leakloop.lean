theorem noteR {e : Prop} {σ μ : St} (h : Rd (Dm e) σ μ) (l hh : Int32) : Rd (Dm e) (noteS 23 1 23 0 l hh σ) (noteS 1 170 1 169 l hh μ) := by
  have k0 : Dg True 23 0 := Or.inl ⟨trivial, by decide⟩
  have k1 : Dg True 23 1 := Or.inl ⟨trivial, by decide⟩
  by_cases he : e
  · have v0 : σ 23 0 = μ 1 169 := h 23 0 ⟨he, by decide⟩
    have v1 : σ 23 1 = μ 1 170 := h 23 1 ⟨he, by decide⟩
    unfold noteS
    rw [← v0, ← v1]
    by_cases g : l ≤ 0
    · rw [if_pos g, if_pos g]; exact h.upd dmu (k := 23) (i := 0) k0 (fun _ => rfl)
    · rw [if_neg g, if_neg g]
      by_cases g2 : σ 23 1 = -1
      · rw [if_pos g2, if_pos g2]; exact (h.upd dmu (k := 23) (i := 0) k0 (fun _ => rfl)).upd dmu (k := 23) (i := 1) k1 (fun _ => rfl)
      · rw [if_neg g2, if_neg g2]; exact h.upd dmu (k := 23) (i := 0) k0 (fun _ => rfl)
  · have d : ∀ i, ¬ Dm e 23 i := fun i q => he q.1
    have d0 : ∀ a b, Dm e a b → ρ a b ≠ (1, 169) := fun a b hab q => by
      obtain ⟨rfl, rfl⟩ := ρ_inj (dmu a b hab) k0 (q.trans rfl)
      exact d 0 hab
    have d1 : ∀ a b, Dm e a b → ρ a b ≠ (1, 170) := fun a b hab q => by
      obtain ⟨rfl, rfl⟩ := ρ_inj (dmu a b hab) k1 (q.trans rfl)
      exact d 1 hab
    have hl : Rd (Dm e) (noteS 23 1 23 0 l hh σ) μ := by
      unfold noteS
      by_cases g : l ≤ 0
      · rw [if_pos g]; exact h.left (d 0)
      · rw [if_neg g]
        by_cases g2 : σ 23 1 = -1
        · rw [if_pos g2]; exact (h.left (d 0)).left (d 1)
        · rw [if_neg g2]; exact h.left (d 0)
    generalize noteS 23 1 23 0 l hh σ = σ1 at hl ⊢
    unfold noteS
    by_cases g : l ≤ 0
    · rw [if_pos g]; exact hl.right d0
    · rw [if_neg g]
      by_cases g2 : μ 1 170 = -1
      · rw [if_pos g2]; exact (hl.right d0).right d1
      · rw [if_neg g2]; exact hl.right d0
theorem note1 {nS nM : Nat} {K : Int} {σ : St} (h : I1 nS nM K σ) (l hh : Int32) : I1 nS nM K (noteS 23 1 23 0 l hh σ) := by
  unfold noteS
  by_cases g : l ≤ 0
  · rw [if_pos g]; exact h.oth rfl
  · rw [if_neg g]
    by_cases g2 : σ 23 1 = -1
    · rw [if_pos g2]; exact (h.oth rfl).oth rfl
    · rw [if_neg g2]; exact h.oth rfl
theorem note0 {nS nM hr : Nat} {σ : St} (h : I0 nS nM hr σ) (l hh : Int32) : I0 nS nM hr (noteS 23 1 23 0 l hh σ) := by
  unfold noteS
  by_cases g : l ≤ 0
  · rw [if_pos g]; exact h.oth rfl
  · rw [if_neg g]
    by_cases g2 : σ 23 1 = -1
    · rw [if_pos g2]; exact (h.oth rfl).oth rfl
    · rw [if_neg g2]; exact h.oth rfl
theorem noteB {nM : Nat} {σ μ : St} (h : Bo nM σ μ) (l hh l2 h2 : Int32) : Bo nM (noteS 23 1 23 0 l hh σ) (noteS 1 170 1 169 l2 h2 μ) := by
  have a : Bo nM (noteS 23 1 23 0 l hh σ) μ := by
    unfold noteS
    by_cases g : l ≤ 0
    · rw [if_pos g]; exact h.left rfl
    · rw [if_neg g]
      by_cases g2 : σ 23 1 = -1
      · rw [if_pos g2]; exact (h.left rfl).left rfl
      · rw [if_neg g2]; exact h.left rfl
  generalize noteS 23 1 23 0 l hh σ = σ1 at a ⊢
  unfold noteS
  by_cases g : l2 ≤ 0
  · rw [if_pos g]; exact a.right (by decide)
  · rw [if_neg g]
    by_cases g2 : μ 1 170 = -1
    · rw [if_pos g2]; exact (a.right (by decide)).right (by decide)
    · rw [if_neg g2]; exact a.right (by decide)
theorem I1.b12 {nS nM : Nat} {K : Int} {σ : St} (h : I1 nS nM K σ) {s : Nat} (hs : s < 4) : 0 ≤ (σ 12 s).toInt ∧ (σ 12 s).toInt ≤ K := by
  obtain ⟨a1, a2, a3, a4, a5, a6⟩ := h
  have b1 : 0 ≤ rs σ 4 24 := Sm_nn (fun i hi => (a1 i hi).1)
  have b2 : 0 ≤ rs σ 5 24 := Sm_nn (fun i hi => (a2 i hi).1)
  have b3 : 0 ≤ rs σ 6 24 := Sm_nn (fun i hi => (a3 i hi).1)
  have b4 : (σ 12 s).toInt ≤ rs σ 12 4 := Sm_le (f := fun i => (σ 12 i).toInt) (fun i hi => (a4 i hi).1) hs
  unfold tot at a6
  exact ⟨(a4 s hs).1, by omega⟩
theorem I1.p12 {nS nM : Nat} {K : Int} {σ : St} (h : I1 nS nM K σ) {s c : Nat} (hs : s < 4) (hc : c < 24) : (σ 12 s).toInt + (σ 4 c).toInt ≤ K := by
  obtain ⟨a1, a2, a3, a4, a5, a6⟩ := h
  have b1 : (σ 4 c).toInt ≤ rs σ 4 24 := Sm_le (f := fun i => (σ 4 i).toInt) (fun i hi => (a1 i hi).1) hc
  have b2 : 0 ≤ rs σ 5 24 := Sm_nn (fun i hi => (a2 i hi).1)
  have b3 : 0 ≤ rs σ 6 24 := Sm_nn (fun i hi => (a3 i hi).1)
  have b4 : (σ 12 s).toInt ≤ rs σ 12 4 := Sm_le (f := fun i => (σ 12 i).toInt) (fun i hi => (a4 i hi).1) hs
  unfold tot at a6
  omega
theorem lkJ {e : Prop} {nS nM hr : Nat} {K : Int} (hK : K ≤ 400000) {σ μ : St} (h : Jn e nS nM hr K σ μ) {s c : Nat} (hS : nS ≤ 4) (hs : s < nS) (hc : c < 24) (hw : σ 2 c = 0) {l : Int32} (l0 : 0 ≤ l.toInt) (l1 : l.toInt ≤ (σ 12 s).toInt) : Jn e nS nM hr K (lkS σ s c l) (lkM μ s c l) := by
  obtain ⟨r1, r2, r3, r4⟩ := h
  have hs4 : s < 4 := by omega
  have e04 : σ 0 4 = μ 1 168 := r1 0 4 (Or.inl rfl)
  obtain ⟨v0, v1⟩ := r4.b12 hs4
  have v2 := r4.p12 hs4 hc
  obtain ⟨-, v3, -, -⟩ := r4.b4 hc
  have w1 : (σ 12 s - l).toInt = (σ 12 s).toInt - l.toInt := t_sub (by omega) (by omega)
  have w2 : (σ 4 c + l).toInt = (σ 4 c).toInt + l.toInt := t_add (by omega) (by omega)
  unfold lkS lkM
  rw [e04]
  refine ⟨noteR ?_ _ _, noteB ((((r2.left rfl).left rfl).right (by decide)).right (by decide)) _ _ _ _, note0 ((r3.oth rfl).oth rfl) _ _, note1 ?_ _ _⟩
  · exact (r1.upd dmu (k := 12) (i := s) (Or.inl hs4) (fun _ => by rw [show σ 12 s = μ 1 (144 + s) from r1 12 s hs4])).upd dmu (k := 4) (i := c) (Or.inl hc) (fun _ => by rw [show σ 4 c = μ 1 c from r1 4 c hc])
  · have s1 := r4.s12 (s := s) (x := σ 12 s - l) hs4 (by omega) (fun q => by omega)
    have s2 := s1.s4 (c := c) (x := σ 4 c + l) hc (by omega) (fun q => absurd (by rw [stU_k (by decide)]; exact hw) q)
    rw [stU_k (by decide)] at s2
    exact s2.mono (by omega)
theorem lkF {σ : St} {s c : Nat} {l : Int32} : Fr (lkS σ s c l) σ := by
  unfold lkS noteS
  have h : Fr (stU (stU σ 12 s (σ 12 s - l)) 4 c (σ 4 c + l)) σ := (Fr.rf.st rfl).st rfl
  split
  · exact h.st rfl
  · split
    · exact (h.st rfl).st rfl
    · exact h.st rfl
/-- an hour's leaks, on both sides -/
theorem leak_eq {e : Prop} {nS nM hr : Nat} {K : Int} (hK : K ≤ 400000) : ∀ (j s n n' : Nat) (σ μ : St), s + j = nS → j < n → j < n' → Jn e nS nM hr K σ μ → ∃ σ' μ', sp_X0_leak_10 (ι (tdN hr)) n (ι s) σ = some σ' ∧ sp_X10_hour_14 n' (ι s) μ = sp_X10_hour_130 200 (0 : Int32) μ' ∧ Jn e nS nM hr K σ' μ' ∧ Fr σ' σ := by
  intro j
  induction j with
  | zero =>
    intro s n n' σ μ h1 h2 h3 h
    obtain ⟨n, rfl⟩ : ∃ q, n = q + 1 := ⟨n - 1, by omega⟩
    obtain ⟨n', rfl⟩ : ∃ q, n' = q + 1 := ⟨n' - 1, by omega⟩
    obtain ⟨r1, r2, r3, r4⟩ := id h
    obtain ⟨-, ⟨hS, h10⟩, -⟩ := id r3
    have h7 : μ 0 7 = ι nS := (r1 10 0 rfl).symm.trans h10
    have q : ι nS ≤ ι s := by rw [ι_le (by omega) (by omega)]; omega
    exact ⟨σ, μ, by rw [sp_X0_leak_10, h10, if_pos q], by rw [sp_X10_hour_14, h7, if_pos q], h, Fr.rf⟩
  | succ j ih =>
    intro s n n' σ μ h1 h2 h3 h
    obtain ⟨n, rfl⟩ : ∃ q, n = q + 1 := ⟨n - 1, by omega⟩
    obtain ⟨n', rfl⟩ : ∃ q, n' = q + 1 := ⟨n' - 1, by omega⟩
    obtain ⟨r1, r2, r3, r4⟩ := id h
    obtain ⟨⟨hh, h04⟩, ⟨hS, h10⟩, -, -, -, -, hcell, hrate, -⟩ := id r3
    have hs : s < nS := by omega
    have hs4 : s < 4 := by omega
    have h7 : μ 0 7 = ι nS := (r1 10 0 rfl).symm.trans h10
    obtain ⟨c, hc, h11, hw⟩ := hcell s hs
    have h6 : μ 6 s = ι c := (r1 11 s hs4).symm.trans h11
    have h168 : μ 1 168 = ι hr := (r1 0 4 (Or.inl rfl)).symm.trans h04
    obtain ⟨r, hrr, h13⟩ := hrate s hs4
    obtain ⟨v0, v1⟩ := r4.b12 hs4
    obtain ⟨l0, l1⟩ := lk_v (L := σ 12 s) (r := r) (t := tdN hr) v0 (by omega) hrr (tdN_le hr)
    rw [← h13] at l0 l1
    obtain ⟨σ', μ', g1, g2, g3⟩ := ih (s + 1) n n' _ _ (by omega) (by omega) (by omega) (lkJ hK h hS hs hc hw l0 l1)
    refine ⟨σ', μ', by rw [lk9 hS h10 hs hc h11]; exact g1, ?_, g3.1, g3.2.tr lkF⟩
    rw [lk10 hS h7 hs hc h6 (by omega) h168, ← show σ 12 s = μ 1 (144 + s) from r1 12 s hs4, ← show σ 13 s = μ 7 s from r1 13 s hs4]
    exact g2
