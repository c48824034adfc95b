theorem nD21 : ¬ Dm True (ρb (0, 21)).1 (ρb (0, 21)).2 := fun q => absurd (show (8 : Nat) < 7 from q.2) (by decide)
theorem nD22 : ¬ Dm True (ρb (0, 22)).1 (ρb (0, 22)).2 := fun q => absurd (show (9 : Nat) < 7 from q.2) (by decide)
theorem nD24 : ¬ Dm True (ρb (0, 24)).1 (ρb (0, 24)).2 := fun q => absurd (show (11 : Nat) < 7 from q.2) (by decide)
theorem nD26 : ¬ Dm True (ρb (0, 26)).1 (ρb (0, 26)).2 := fun q => absurd (show (13 : Nat) < 7 from q.2) (by decide)
theorem nD27 : ¬ Dm True (ρb (0, 27)).1 (ρb (0, 27)).2 := fun q => absurd (show (14 : Nat) < 7 from q.2) (by decide)
theorem stU_noop {σ : St} {k i : Nat} {x : Int32} (h : σ k i = x) : stU σ k i x = σ := by rw [← h, stU_self]
theorem Sm_bd {f : Nat → Int} {B : Int} : ∀ {n : Nat}, (∀ i, i < n → f i ≤ B) → Sm n f ≤ B * n
  | 0, _ => by show (0 : Int) ≤ B * 0; omega
  | n + 1, h => by
    have h1 := Sm_bd (n := n) (fun i hi => h i (by omega))
    have h2 := h n (by omega)
    show Sm n f + f n ≤ B * ((n + 1 : Nat) : Int)
    rw [Int.natCast_add, Int.mul_add]
    show Sm n f + f n ≤ B * n + B * 1
    omega
theorem u_D {nS nM hr : Nat} {σ δ μ : St} {π : St × Int64} (h : RR nS nM hr σ δ π μ) {δ' μ' : St} (hr' : Rd (Dm True) σ μ') (hb : Bo nM σ μ') (h3 : μ' 3 = μ 3 ∧ μ' 4 = μ 4 ∧ μ' 12 = μ 12 ∧ μ' 13 = μ 13 ∧ μ' 17 = μ 17 ∧ μ' 0 24 = μ 0 24 ∧ μ' 0 26 = μ 0 26 ∧ μ' 0 27 = μ 0 27) (hD : RDm δ' μ') : RR nS nM hr σ δ' π μ' := by
  obtain ⟨⟨r, b, i0, i1⟩, hh, hx, hs, hd, hz, ht, h0, hp, hD0, hP⟩ := h
  obtain ⟨e3, e4, e12, e13, e17, e24, e26, e27⟩ := h3
  refine ⟨⟨hr', hb, i0, i1⟩, hh, hx, hs, ?_, ?_, ?_, h0, hp, hD, ?_⟩
  · unfold Dp; rw [e4]; exact hd
  · unfold Sz; rw [e12]; exact hz
  · unfold Tt; rw [e13]; exact ht
  · unfold RPm; rw [e17, e24, e26, e27]; exact hP
theorem row_eq {δ μ : St} {k k2 i n : Nat} {x y : Int32} (h : ∀ j, j < n → δ k j = μ k2 j) (e : x = y) : ∀ j, j < n → stU δ k i x k j = stU μ k2 i y k2 j := by
  intro j hj
  by_cases q : j = i
  · subst q; rw [stU_same, stU_same]; exact e
  · rw [stU_i q, stU_i q]; exact h j hj
theorem u_site {nS nM hr : Nat} {σ δ μ : St} {π : St × Int64} (h : RR nS nM hr σ δ π μ) {n : Nat} (hn : n < 3) {x y : Int32} : RR nS nM hr σ (stU (stU (stU δ 2 (2 * n) x) 2 (2 * n + 1) y) 0 0 (ι (n + 1))) π (stU (stU (stU μ 16 (2 * n) x) 16 (2 * n + 1) y) 0 22 (ι (n + 1))) := by
  have r := h.1.1
  have b := h.1.2.1
  obtain ⟨-, d2, d3, d4⟩ := h.2.2.2.2.2.2.2.2.2.1
  exact u_D h (((r.out1 (fun e => by cases e)).out1 (fun e => by cases e)).out2 nD22) (((b.right (by decide)).right (by decide)).right (by decide)) ⟨rfl, rfl, rfl, rfl, rfl, rfl, rfl, rfl⟩ ⟨⟨n + 1, by omega, stU_same _ _ _ _, stU_same _ _ _ _⟩, d2, d3, row_eq (row_eq d4 rfl) rfl⟩
theorem u_deliver {nS nM hr : Nat} {σ δ μ : St} {π : St × Int64} (h : RR nS nM hr σ δ π μ) {j i : Nat} (hj : j < 2) (hi : i < 6) {x : Int32} : RR nS nM hr σ (stU (stU (stU δ 1 j (δ 1 j - x)) 2 i (δ 2 i - x)) 0 3 (δ 0 3 + x)) π (stU (stU (stU μ 15 j (μ 15 j - x)) 0 21 (μ 0 21 + x)) 16 i (μ 16 i - x)) := by
  have r := h.1.1
  have b := h.1.2.1
  obtain ⟨d1, d2, d3, d4⟩ := h.2.2.2.2.2.2.2.2.2.1
  refine u_D h (((r.out1 (fun e => by cases e)).out2 nD21).out1 (fun e => by cases e)) (((b.right (by decide)).right (by decide)).right (by decide)) ⟨rfl, rfl, rfl, rfl, rfl, rfl, rfl, rfl⟩ ⟨d1, ?_, row_eq d3 (by rw [d3 j hj]), row_eq d4 (by rw [d4 i hi])⟩
  show δ 0 3 + x = μ 0 21 + x
  rw [d2]
theorem u_P {nS nM hr : Nat} {σ δ μ : St} {π : St × Int64} (h : RR nS nM hr σ δ π μ) {π' : St × Int64} {μ' : St} (hr' : Rd (Dm True) σ μ') (hb : Bo nM σ μ') (h3 : μ' 3 = μ 3 ∧ μ' 4 = μ 4 ∧ μ' 12 = μ 12 ∧ μ' 13 = μ 13 ∧ μ' 15 = μ 15 ∧ μ' 16 = μ 16 ∧ μ' 0 21 = μ 0 21 ∧ μ' 0 22 = μ 0 22) (hP : RPm π' μ') : RR nS nM hr σ δ π' μ' := by
  obtain ⟨⟨r, b, i0, i1⟩, hh, hx, hs, hd, hz, ht, h0, hp, hD0, hP0⟩ := h
  obtain ⟨e3, e4, e12, e13, e15, e16, e21, e22⟩ := h3
  refine ⟨⟨hr', hb, i0, i1⟩, hh, hx, hs, ?_, ?_, ?_, h0, hp, ?_, hP⟩
  · unfold Dp; rw [e4]; exact hd
  · unfold Sz; rw [e12]; exact hz
  · unfold Tt; rw [e13]; exact ht
  · unfold RDm; rw [e15, e16, e21, e22]; exact hD0
theorem u_layers {nS nM hr : Nat} {σ δ μ : St} {π : St × Int64} (h : RR nS nM hr σ δ π μ) {a b : Nat} (ha : a ≤ 10000000) (hb : b ≤ 10000000) : RR nS nM hr σ δ (stU (stU π.1 0 1 (Int32.ofNat a)) 0 2 (Int32.ofNat b), π.2) (stU (stU μ 0 26 (Int32.ofNat a)) 0 27 (Int32.ofNat b)) := by
  have r := h.1.1
  have bo := h.1.2.1
  obtain ⟨n, p1, p2, p3, p4, p5, p6, p7⟩ := h.2.2.2.2.2.2.2.2.2.2
  exact u_P h ((r.out2 nD26).out2 nD27) ((bo.right (by decide)).right (by decide)) ⟨rfl, rfl, rfl, rfl, rfl, rfl, rfl, rfl⟩ ⟨n, p1, p2, p3, ⟨a, ha, rfl, rfl⟩, ⟨b, hb, rfl, rfl⟩, p6, p7⟩
theorem u_claim {nS nM hr : Nat} {σ δ μ : St} {π : St × Int64} (h : RR nS nM hr σ δ π μ) {n : Nat} (hn : n < 20) (e0 : π.1 0 0 = ι n) {x : Int32} (x1 : 1 ≤ x.toInt) (x2 : x.toInt ≤ 1000000) : RR nS nM hr σ δ (stU (stU π.1 1 n x) 0 0 (ι (n + 1)), π.2 + x.toInt64) (stU (stU μ 17 n x) 0 24 (ι (n + 1))) := by
  have r := h.1.1
  have bo := h.1.2.1
  obtain ⟨n', p1, p2, p3, p4, p5, p6, p7⟩ := h.2.2.2.2.2.2.2.2.2.2
  have en : n' = n := (ι_inj (by omega) (by omega)).mp (p2.symm.trans e0)
  subst en
  have s0 : 0 ≤ Sm n' (fun i => (μ 17 i).toInt) := Sm_nn (fun i hi => by have := (p6 i hi).2.1; omega)
  have s1 : Sm n' (fun i => (μ 17 i).toInt) ≤ 1000000 * n' := Sm_bd (fun i hi => (p6 i hi).2.2)
  refine u_P h ((r.out1 (fun e => by cases e)).out2 nD24) ((bo.right (by decide)).right (by decide)) ⟨rfl, rfl, rfl, rfl, rfl, rfl, rfl, rfl⟩ ⟨n' + 1, by omega, rfl, rfl, p4, p5, fun i hi => ?_, ?_⟩
  · show stU π.1 1 n' x 1 i = stU μ 17 n' x 17 i ∧ 1 ≤ (stU μ 17 n' x 17 i).toInt ∧ (stU μ 17 n' x 17 i).toInt ≤ 1000000
    by_cases e : i = n'
    · subst e; rw [stU_same, stU_same]; exact ⟨rfl, x1, x2⟩
    · rw [stU_i e, stU_i e]; exact p6 i (by omega)
  · show (π.2 + x.toInt64).toInt = Sm n' (fun i => (stU μ 17 n' x 17 i).toInt) + (stU μ 17 n' x 17 n').toInt
    rw [stU_same, Sm_congr (f := fun i => (stU μ 17 n' x 17 i).toInt) (g := fun i => (μ 17 i).toInt) (fun i hi => by rw [stU_i (by omega)]), Int64.toInt_add, Int32.toInt_toInt64, p7]
    exact Int.bmod_eq_of_le (by omega) (by omega)
theorem u_carry {nS nM hr : Nat} {σ δ μ : St} {π : St × Int64} (h : RR nS nM hr σ δ π μ) {m : Nat} (hm : m < nM) (x : Int32) : RR nS nM hr (stU σ 20 m 0) (stU δ 1 0 (δ 1 0 + x)) π (stU (stU μ 1 (148 + m) 0) 15 0 (μ 15 0 + x)) := by
  obtain ⟨⟨r, b, i0, i1⟩, hh, hx, hs, hd, hz, ht, h0, hp, hD, hP⟩ := h
  have n20 := i0.2.2.1.1
  obtain ⟨d1, d2, d3, d4⟩ := hD
  have q := i1.2.2.2.2.1 m (by omega)
  exact ⟨⟨(r.upd dmu (k := 20) (i := m) (Or.inl (show m < 20 by omega)) (fun _ => rfl)).out1 (fun e => by cases e), ((b.left rfl).right (by decide)).right (by decide), i0.oth rfl, i1.s20 (fun g1 g2 => ⟨Int.le_refl 0, Int.le_trans (q.1 g1 g2).1 (q.1 g1 g2).2⟩) (fun _ => rfl)⟩, hh, hx, hs, hd, hz, ht, h0, hp, ⟨d1, d2, row_eq d3 (by rw [d3 0 (by decide)]), d4⟩, hP⟩
/-! a new mean -/
def clA (σ : St) (n : Nat) (so ce po : Int32) : St := stU (stU (stU (stU (stU σ 15 n so) 16 n ce) 18 n po) 22 n (-1)) 14 0 (ι (n + 1))
def moA (μ : St) (n : Nat) (so ce po st : Int32) : St := stU (stU (stU (stU (stU (stU μ 8 n so) 9 n ce) 11 n po) 12 n st) 14 n (-1)) 0 10 (ι (n + 1))
theorem a_Rd {σ μ : St} (r : Rd (Dm True) σ μ) {n : Nat} (hn : n < 20) {so ce po : Int32} : Rd (Dm True) (clA σ n so ce po) (stU (stU (stU (stU (stU μ 8 n so) 9 n ce) 11 n po) 14 n (-1)) 0 10 (ι (n + 1))) :=
  ((((r.upd dmu (k := 15) (i := n) (Or.inl hn) (fun _ => rfl)).upd dmu (k := 16) (i := n) (Or.inl hn) (fun _ => rfl)).upd dmu (k := 18) (i := n) (Or.inl hn) (fun _ => rfl)).upd dmu (k := 22) (i := n) (Or.inl ⟨trivial, hn⟩) (fun _ => rfl)).upd dmu (k := 14) (i := 0) (Or.inl rfl) (fun _ => rfl)
theorem a_I0 {nS nM hr : Nat} {σ : St} (i0 : I0 nS nM hr σ) (hn : nM < 20) {so ce po : Int32} {st : Int32} (hk : so = 1 → (∃ c, c < 24 ∧ ce = ι c) ∧ (∃ p, p ≤ 500 ∧ po = ι p) ∧ ∃ q, q ≤ 5000 ∧ st = ι q) {k : Nat} (hk2 : k ≠ 19 → σ 19 nM = st) {x : Int32} (hkk : k = 17 ∨ k = 19 ∨ k = 21) (hx : k = 19 → x = st) : I0 nS (nM + 1) hr (stU (clA σ nM so ce po) k nM x) := by
  refine ⟨?_, ?_, ?_, ?_, ?_, ?_, ?_, ?_, fun a ha g0 => ?_⟩
  case refine_9 =>
    have h15 : (stU (clA σ nM so ce po) k nM x) 15 a = (stU σ 15 nM so) 15 a := by
      rw [stU_k (by omega)]; rfl
    have h16 : (stU (clA σ nM so ce po) k nM x) 16 a = (stU σ 16 nM ce) 16 a := by
      rw [stU_k (by omega)]; rfl
    have h18 : (stU (clA σ nM so ce po) k nM x) 18 a = (stU σ 18 nM po) 18 a := by
      rw [stU_k (by omega)]; rfl
    rw [h15] at g0
    rw [h16, h18]
    by_cases e : a = nM
    · subst e
      rw [stU_same] at g0
      obtain ⟨q1, q2, q3⟩ := hk g0
      rw [stU_same, stU_same]
      refine ⟨q1, q2, ?_⟩
      by_cases e19 : k = 19
      · subst e19; rw [stU_same, hx rfl]; exact q3
      · rw [stU_k (by omega)]
        show ∃ q, q ≤ 5000 ∧ σ 19 a = ι q
        rw [hk2 e19]; exact q3
    · rw [stU_i e] at g0
      obtain ⟨q1, q2, q3⟩ := i0.2.2.2.2.2.2.2.2 a (by omega) g0
      rw [stU_i e, stU_i e]
      refine ⟨q1, q2, ?_⟩
      rw [show (stU (clA σ nM so ce po) k nM x) 19 a = σ 19 a by rw [stU_ite, if_neg (fun q => e q.2)]; rfl]
      exact q3
  all_goals rcases hkk with rfl | rfl | rfl
  all_goals first
    | exact i0.1
    | exact i0.2.1
    | exact ⟨by omega, rfl⟩
    | exact i0.2.2.2.1
    | exact i0.2.2.2.2.1
    | exact i0.2.2.2.2.2.1
    | exact i0.2.2.2.2.2.2.1
    | exact i0.2.2.2.2.2.2.2.1
theorem a_I1 {nS nM : Nat} {K : Int} {σ : St} (i1 : I1 nS nM K σ) (hn : nM < 20) {so ce po : Int32} {st : Int32} (hk : so = 1 → 0 ≤ st.toInt) {k : Nat} (hk2 : k ≠ 19 → σ 19 nM = st) {x : Int32} (hkk : k = 17 ∨ k = 19 ∨ k = 21) (hx : k = 19 → x = st) : I1 nS (nM + 1) K (stU (clA σ nM so ce po) k nM x) := by
  obtain ⟨a1, a2, a3, a4, a5, a6⟩ := i1
  refine ⟨?_, ?_, ?_, ?_, fun a ha => ?_, ?_⟩
  case refine_5 =>
    have h15 : (stU (clA σ nM so ce po) k nM x) 15 a = (stU σ 15 nM so) 15 a := by
      rw [stU_k (by omega)]; rfl
    have h20 : (stU (clA σ nM so ce po) k nM x) 20 a = σ 20 a := by
      rw [stU_k (by omega)]; rfl
    rw [h15, h20]
    by_cases e : a = nM
    · subst e
      have z := (a5 a ha).2 (Nat.le_refl _)
      refine ⟨fun _ g => ?_, fun q => absurd q (by omega)⟩
      rw [stU_same] at g
      rw [z]
      refine ⟨Int.le_refl 0, ?_⟩
      by_cases e19 : k = 19
      · subst e19; rw [stU_same, hx rfl]; exact hk g
      · rw [stU_k (by omega)]
        show 0 ≤ (σ 19 a).toInt
        rw [hk2 e19]; exact hk g
    · rw [stU_i e, show (stU (clA σ nM so ce po) k nM x) 19 a = σ 19 a by rw [stU_ite, if_neg (fun q => e q.2)]; rfl]
      exact ⟨fun g1 g2 => (a5 a ha).1 (by omega) g2, fun g => (a5 a ha).2 (by omega)⟩
  all_goals rcases hkk with rfl | rfl | rfl
  all_goals first
    | exact a1
    | exact a2
    | exact a3
    | exact a4
    | exact a6
