/-! the invariant -/
def Sm : Nat → (Nat → Int) → Int
  | 0, _ => 0
  | n + 1, f => Sm n f + f n
theorem Sm_congr {f g : Nat → Int} : ∀ {n : Nat}, (∀ i, i < n → f i = g i) → Sm n f = Sm n g
  | 0, _ => rfl
  | n + 1, h => by
    show Sm n f + f n = Sm n g + g n
    rw [Sm_congr (fun i hi => h i (by omega)), h n (by omega)]
theorem Sm_set {f g : Nat → Int} {i : Nat} : ∀ {n : Nat}, i < n → (∀ j, j ≠ i → g j = f j) → Sm n g = Sm n f - f i + g i
  | 0, h, _ => absurd h (by omega)
  | n + 1, hi, h => by
    show Sm n g + g n = Sm n f + f n - f i + g i
    by_cases e : i = n
    · subst e
      rw [Sm_congr (f := g) (g := f) (fun j hj => h j (by omega))]
      omega
    · rw [Sm_set (f := f) (g := g) (show i < n by omega) h, h n (by omega)]
      omega
theorem Sm_nn {f : Nat → Int} : ∀ {n : Nat}, (∀ i, i < n → 0 ≤ f i) → 0 ≤ Sm n f
  | 0, _ => Int.le_refl 0
  | n + 1, h => by
    have h1 := Sm_nn (n := n) (fun i hi => h i (by omega))
    have h2 := h n (by omega)
    show 0 ≤ Sm n f + f n
    omega
theorem Sm_le {f : Nat → Int} {i : Nat} : ∀ {n : Nat}, (∀ i, i < n → 0 ≤ f i) → i < n → f i ≤ Sm n f
  | 0, _, h => absurd h (by omega)
  | n + 1, h, hi => by
    have h1 := Sm_nn (n := n) (fun i hi => h i (by omega))
    have h2 := h n (by omega)
    show f i ≤ Sm n f + f n
    by_cases e : i = n
    · subst e; omega
    · have := Sm_le (f := f) (i := i) (n := n) (fun i hi => h i (by omega)) (by omega)
      omega
/-- a row's sum -/
def rs (σ : St) (k n : Nat) : Int := Sm n (fun i => (σ k i).toInt)
theorem rs_upd {σ : St} {k i n : Nat} {x : Int32} (hi : i < n) : rs (stU σ k i x) k n = rs σ k n - (σ k i).toInt + x.toInt := by
  unfold rs
  rw [Sm_set (f := fun i => (σ k i).toInt) hi (fun j hj => by rw [stU_i hj]), stU_same]
theorem rs_oth {σ : St} {k i k2 n : Nat} {x : Int32} (h : k2 ≠ k) : rs (stU σ k i x) k2 n = rs σ k2 n := Sm_congr (fun j _ => by rw [stU_k h])
def tot (σ : St) : Int := rs σ 12 4 + rs σ 4 24 + rs σ 5 24 + rs σ 6 24
/-- what hours don't change -/
def I0 (nS nM hr : Nat) (σ : St) : Prop :=
  (hr < 3000 ∧ σ 0 4 = ι hr) ∧   (nS ≤ 4 ∧ σ 10 0 = ι nS) ∧ (nM ≤ 20 ∧ σ 14 0 = ι nM) ∧ (∃ w, w < 4 ∧ σ 0 5 = ι w) ∧ (∃ s, s < 10 ∧ σ 0 6 = ι s) ∧ (∀ c, c < 24 → ∃ k, k < 4 ∧ σ 2 c = ι k) ∧
  (∀ s, s < nS → ∃ c, c < 24 ∧ σ 11 s = ι c ∧ σ 2 c = 0) ∧ (∀ s, s < 4 → ∃ r, r < 100 ∧ σ 13 s = ι r) ∧
  (∀ m, m < nM → σ 15 m = 1 → (∃ c, c < 24 ∧ σ 16 m = ι c) ∧ (∃ p, p ≤ 500 ∧ σ 18 m = ι p) ∧ (∃ q, q ≤ 5000 ∧ σ 19 m = ι q))
/-- how much is where; K: at most so much in all -/
def I1 (nS nM : Nat) (K : Int) (σ : St) : Prop :=
  (∀ c, c < 24 → 0 ≤ (σ 4 c).toInt ∧ (¬ σ 2 c = 0 → (σ 4 c).toInt = 0)) ∧ (∀ c, c < 24 → 0 ≤ (σ 5 c).toInt ∧ (¬ σ 2 c = 0 → (σ 5 c).toInt = 0)) ∧
  (∀ c, c < 24 → 0 ≤ (σ 6 c).toInt ∧ (σ 6 c).toInt ≤ (tabH (σ 2 c)).toInt) ∧ (∀ s, s < 4 → 0 ≤ (σ 12 s).toInt ∧ (nS ≤ s → (σ 12 s).toInt = 0)) ∧
  (∀ m, m < 20 → (m < nM → σ 15 m = 1 → 0 ≤ (σ 20 m).toInt ∧ (σ 20 m).toInt ≤ (σ 19 m).toInt) ∧ (nM ≤ m → (σ 20 m).toInt = 0)) ∧ tot σ ≤ K
theorem I1.mono {nS nM : Nat} {K K2 : Int} {σ : St} (h : I1 nS nM K σ) (hk : K ≤ K2) : I1 nS nM K2 σ := ⟨h.1, h.2.1, h.2.2.1, h.2.2.2.1, h.2.2.2.2.1, Int.le_trans h.2.2.2.2.2 hk⟩
theorem pt_upd {σ : St} {k i n : Nat} {x : Int32} {P : Nat → Int32 → Prop} (h : ∀ c, c < n → P c (σ k c)) (hx : i < n → P i x) : ∀ c, c < n → P c (stU σ k i x k c) := by
  intro c hc
  by_cases e : c = i
  · subst e; rw [stU_same]; exact hx hc
  · rw [stU_i e]; exact h c hc
theorem I1.s4 {nS nM : Nat} {K : Int} {σ : St} {c : Nat} {x : Int32} (h : I1 nS nM K σ) (hc : c < 24) (h0 : 0 ≤ x.toInt) (hz : ¬ σ 2 c = 0 → x.toInt = 0) : I1 nS nM (K - (σ 4 c).toInt + x.toInt) (stU σ 4 c x) := by
  obtain ⟨a1, a2, a3, a4, a5, a6⟩ := h
  refine ⟨?_, a2, a3, a4, a5, ?_⟩
  · exact pt_upd (P := fun c v => 0 ≤ v.toInt ∧ (¬ σ 2 c = 0 → v.toInt = 0)) a1 (fun _ => ⟨h0, hz⟩)
  · unfold tot at a6 ⊢
    rw [rs_upd hc, rs_oth (by decide), rs_oth (by decide), rs_oth (by decide)]
    omega
theorem I1.s5 {nS nM : Nat} {K : Int} {σ : St} {c : Nat} {x : Int32} (h : I1 nS nM K σ) (hc : c < 24) (h0 : 0 ≤ x.toInt) (hz : ¬ σ 2 c = 0 → x.toInt = 0) : I1 nS nM (K - (σ 5 c).toInt + x.toInt) (stU σ 5 c x) := by
  obtain ⟨a1, a2, a3, a4, a5, a6⟩ := h
  refine ⟨a1, ?_, a3, a4, a5, ?_⟩
  · exact pt_upd (P := fun c v => 0 ≤ v.toInt ∧ (¬ σ 2 c = 0 → v.toInt = 0)) a2 (fun _ => ⟨h0, hz⟩)
  · unfold tot at a6 ⊢
    rw [rs_upd hc, rs_oth (by decide), rs_oth (by decide), rs_oth (by decide)]
    omega
theorem I1.s6 {nS nM : Nat} {K : Int} {σ : St} {c : Nat} {x : Int32} (h : I1 nS nM K σ) (hc : c < 24) (h0 : 0 ≤ x.toInt) (hz : x.toInt ≤ (tabH (σ 2 c)).toInt) : I1 nS nM (K - (σ 6 c).toInt + x.toInt) (stU σ 6 c x) := by
  obtain ⟨a1, a2, a3, a4, a5, a6⟩ := h
  refine ⟨a1, a2, ?_, a4, a5, ?_⟩
  · exact pt_upd (P := fun c v => 0 ≤ v.toInt ∧ v.toInt ≤ (tabH (σ 2 c)).toInt) a3 (fun _ => ⟨h0, hz⟩)
  · unfold tot at a6 ⊢
    rw [rs_upd hc, rs_oth (by decide), rs_oth (by decide), rs_oth (by decide)]
    omega
theorem I1.s12 {nS nM : Nat} {K : Int} {σ : St} {s : Nat} {x : Int32} (h : I1 nS nM K σ) (hs : s < 4) (h0 : 0 ≤ x.toInt) (hz : nS ≤ s → x.toInt = 0) : I1 nS nM (K - (σ 12 s).toInt + x.toInt) (stU σ 12 s x) := by
  obtain ⟨a1, a2, a3, a4, a5, a6⟩ := h
  refine ⟨a1, a2, a3, ?_, a5, ?_⟩
  · exact pt_upd (P := fun s v => 0 ≤ v.toInt ∧ (nS ≤ s → v.toInt = 0)) a4 (fun _ => ⟨h0, hz⟩)
  · unfold tot at a6 ⊢
    rw [rs_upd hs, rs_oth (by decide), rs_oth (by decide), rs_oth (by decide)]
    omega
theorem I1.s20 {nS nM : Nat} {K : Int} {σ : St} {m : Nat} {x : Int32} (h : I1 nS nM K σ) (hz : m < nM → σ 15 m = 1 → 0 ≤ x.toInt ∧ x.toInt ≤ (σ 19 m).toInt) (hn : nM ≤ m → x.toInt = 0) : I1 nS nM K (stU σ 20 m x) := by
  obtain ⟨a1, a2, a3, a4, a5, a6⟩ := h
  refine ⟨a1, a2, a3, a4, ?_, ?_⟩
  · exact pt_upd (P := fun m v => (m < nM → σ 15 m = 1 → 0 ≤ v.toInt ∧ v.toInt ≤ (σ 19 m).toInt) ∧ (nM ≤ m → v.toInt = 0)) a5 (fun _ => ⟨hz, hn⟩)
  · unfold tot at a6 ⊢
    rw [rs_oth (by decide), rs_oth (by decide), rs_oth (by decide), rs_oth (by decide)]
    omega
/-- the rows that I1 speaks of -/
def oth1 (k : Nat) : Bool := !(k == 2 || k == 4 || k == 5 || k == 6 || k == 12 || k == 15 || k == 19 || k == 20)
theorem I1.oth {nS nM : Nat} {K : Int} {σ : St} {k i : Nat} {x : Int32} (h : I1 nS nM K σ) (hk : oth1 k = true) : I1 nS nM K (stU σ k i x) := by
  have q : ∀ j, oth1 j = false → stU σ k i x j = σ j := by
    intro j hj
    funext a
    refine stU_k ?_
    rintro rfl
    rw [hj] at hk
    cases hk
  obtain ⟨a1, a2, a3, a4, a5, a6⟩ := h
  unfold I1 tot rs
  rw [q 2 rfl, q 4 rfl, q 5 rfl, q 6 rfl, q 12 rfl, q 15 rfl, q 19 rfl, q 20 rfl]
  exact ⟨a1, a2, a3, a4, a5, a6⟩
def oth0 (k i : Nat) : Bool := !(k == 2 || k == 10 || k == 11 || k == 13 || k == 14 || k == 15 || k == 16 || k == 18 || k == 19 || (k == 0 && (i == 4 || i == 5 || i == 6)))
theorem I0.oth {nS nM hr : Nat} {σ : St} {k i : Nat} {x : Int32} (h : I0 nS nM hr σ) (hk : oth0 k i = true) : I0 nS nM hr (stU σ k i x) := by
  have q : ∀ j a, oth0 j a = false → stU σ k i x j a = σ j a := by
    intro j a hj
    rw [stU_ite, if_neg]
    rintro ⟨rfl, rfl⟩
    rw [hj] at hk
    cases hk
  have qf : ∀ j, (∀ a, oth0 j a = false) → stU σ k i x j = σ j := fun j hj => funext (fun a => q j a (hj a))
  unfold I0
  rw [qf 2 (fun _ => rfl), qf 11 (fun _ => rfl), qf 13 (fun _ => rfl), qf 15 (fun _ => rfl), qf 16 (fun _ => rfl), qf 18 (fun _ => rfl), qf 19 (fun _ => rfl), q 10 0 rfl, q 14 0 rfl, q 0 4 rfl, q 0 5 rfl, q 0 6 rfl]
  exact h
def oth2 (k : Nat) : Bool := !(k == 15 || k == 16 || k == 17)
theorem Bo.left {nM : Nat} {σ μ : St} {k i : Nat} {x : Int32} (h : Bo nM σ μ) (hk : oth2 k = true) : Bo nM (stU σ k i x) μ := by
  have q : ∀ j, oth2 j = false → stU σ k i x j = σ j := by
    intro j hj
    funext a
    refine stU_k ?_
    rintro rfl
    rw [hj] at hk
    cases hk
  unfold Bo
  rw [q 15 rfl, q 16 rfl, q 17 rfl]
  exact h
theorem Bo.right {nM : Nat} {σ μ : St} {k i : Nat} {x : Int32} (h : Bo nM σ μ) (hk : k ≠ 10) : Bo nM σ (stU μ k i x) := by
  intro m hm hs
  obtain ⟨c, w, h1, h2, h3, h4, h5⟩ := h m hm hs
  exact ⟨c, w, h1, h2, h3, h4, by rw [stU_k (Ne.symm hk)]; exact h5⟩
/-- all of it -/
def Jn (e : Prop) (nS nM hr : Nat) (K : Int) (σ μ : St) : Prop := Rd (Dm e) σ μ ∧ Bo nM σ μ ∧ I0 nS nM hr σ ∧ I1 nS nM K σ
theorem I1.b4 {nS nM : Nat} {K : Int} {σ : St} (h : I1 nS nM K σ) {c : Nat} (hc : c < 24) : (σ 4 c).toInt + (σ 5 c).toInt + (σ 6 c).toInt ≤ K ∧ 0 ≤ (σ 4 c).toInt ∧ 0 ≤ (σ 5 c).toInt ∧ 0 ≤ (σ 6 c).toInt := by
  obtain ⟨a1, a2, a3, a4, a5, a6⟩ := h
  have b1 : 0 ≤ rs σ 12 4 := Sm_nn (fun i hi => (a4 i hi).1)
  have b2 : (σ 4 c).toInt ≤ rs σ 4 24 := Sm_le (f := fun i => (σ 4 i).toInt) (fun i hi => (a1 i hi).1) hc
  have b3 : (σ 5 c).toInt ≤ rs σ 5 24 := Sm_le (f := fun i => (σ 5 i).toInt) (fun i hi => (a2 i hi).1) hc
  have b4 : (σ 6 c).toInt ≤ rs σ 6 24 := Sm_le (f := fun i => (σ 6 i).toInt) (fun i hi => (a3 i hi).1) hc
  unfold tot at a6
  exact ⟨by omega, (a1 c hc).1, (a2 c hc).1, (a3 c hc).1⟩
/-- kinds, birds, oiled, signatures are left as they are -/
def Fr (σ' σ : St) : Prop := σ' 2 = σ 2 ∧ σ' 7 = σ 7 ∧ σ' 8 = σ 8 ∧ σ' 9 = σ 9 ∧ σ' 3 = σ 3
theorem Fr.rf {σ : St} : Fr σ σ := ⟨rfl, rfl, rfl, rfl, rfl⟩
theorem Fr.tr {a b c : St} (h : Fr a b) (g : Fr b c) : Fr a c := ⟨h.1.trans g.1, h.2.1.trans g.2.1, h.2.2.1.trans g.2.2.1, h.2.2.2.1.trans g.2.2.2.1, h.2.2.2.2.trans g.2.2.2.2⟩
def oth3 (k : Nat) : Bool := !(k == 2 || k == 7 || k == 8 || k == 9 || k == 3)
theorem Fr.st {σ' σ : St} {k i : Nat} {x : Int32} (h : Fr σ' σ) (hk : oth3 k = true) : Fr (stU σ' k i x) σ := by
  have q : ∀ j, oth3 j = false → stU σ' k i x j = σ' j := by
    intro j hj
    funext a
    refine stU_k ?_
    rintro rfl
    rw [hj] at hk
    cases hk
  exact ⟨(q 2 rfl).trans h.1, (q 7 rfl).trans h.2.1, (q 8 rfl).trans h.2.2.1, (q 9 rfl).trans h.2.2.2.1, (q 3 rfl).trans h.2.2.2.2⟩
