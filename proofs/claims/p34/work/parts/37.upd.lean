/-! what each act does to what holds -/
theorem I1.fix {nS nM : Nat} {K B W : Int} {σ : St} (hM : nM ≤ 20) (h : I1 nS nM K σ) (q : Cq nM B W σ) : I1 nS nM 400000 σ := by
  have a2 := sto_nn hM h
  obtain ⟨⟨b0, b2, b3, b4, b5, b6⟩, b7, b8, b9, b10⟩ := q
  refine ⟨h.1, h.2.1, h.2.2.1, h.2.2.2.1, h.2.2.2.2.1, ?_⟩
  unfold bk5 at b9
  unfold oil at b9
  unfold tot
  omega
theorem U_wind {nS nM hr : Nat} {B : Int} {σ δ : St} (h : Iv nS nM hr B σ δ) {x y : Nat} (hx : x < 4) (hy : y < 10) : Iv nS nM hr B (stU (stU σ 0 5 (ι x)) 0 6 (ι y)) δ := by
  obtain ⟨⟨i0, i1⟩, cq, ob, de, tp, wd⟩ := h
  have i0' : I0 nS nM hr (stU (stU σ 0 5 (ι x)) 0 6 (ι y)) := ⟨i0.1, i0.2.1, i0.2.2.1, ⟨x, hx, rfl⟩, ⟨y, hy, rfl⟩, i0.2.2.2.2.2⟩
  refine ⟨⟨i0', (i1.oth rfl).oth rfl⟩, cq.same (fun _ => rfl) ?_ ?_ ?_, ob, de, tp, wd⟩
  · rw [oil_o (by decide) (by decide) (by decide), oil_o (by decide) (by decide) (by decide)]
  · rw [sto_oth (by decide) (by decide), sto_oth (by decide) (by decide)]
  · rw [rs_oth (by decide), rs_oth (by decide)]
theorem U_hole {nS nM hr : Nat} {B : Int} {σ δ : St} (h : Iv nS nM hr B σ δ) {s y : Nat} (hy : y < 100) : Iv nS nM hr B (stU σ 13 s (ι y)) δ := by
  obtain ⟨⟨i0, i1⟩, cq, ob, de, tp, wd⟩ := h
  have i0' : I0 nS nM hr (stU σ 13 s (ι y)) := ⟨i0.1, i0.2.1, i0.2.2.1, i0.2.2.2.1, i0.2.2.2.2.1, i0.2.2.2.2.2.1, i0.2.2.2.2.2.2.1, pt_upd (P := fun _ v => ∃ r, r < 100 ∧ v = ι r) i0.2.2.2.2.2.2.2.1 (fun _ => ⟨y, hy, rfl⟩), i0.2.2.2.2.2.2.2.2⟩
  refine ⟨⟨i0', i1.oth rfl⟩, cq.same (fun _ => rfl) ?_ ?_ ?_, ob, de, tp, wd⟩
  · rw [oil_o (by decide) (by decide) (by decide)]
  · rw [sto_oth (by decide) (by decide)]
  · rw [rs_oth (by decide)]
theorem U_ship {nS nM hr : Nat} {B : Int} {σ δ : St} (h : Iv nS nM hr B σ δ) (hn : nS < 4) {c : Nat} (hc : c < 24) (g : σ 2 c = 0) {x : Int32} (x0 : 0 ≤ x.toInt) (xB : B + x.toInt ≤ 400000) : Iv (nS + 1) nM hr (B + x.toInt) (stU (stU (stU σ 11 nS (ι c)) 12 nS x) 10 0 (ι (nS + 1))) δ := by
  obtain ⟨⟨i0, i1⟩, cq, ob, de, tp, wd⟩ := h
  have q7 : ∀ s, s < nS + 1 → ∃ d, d < 24 ∧ (stU σ 11 nS (ι c)) 11 s = ι d ∧ σ 2 d = 0 := by
    intro s hs1
    by_cases e : s = nS
    · subst e; exact ⟨c, hc, stU_same _ _ _ _, g⟩
    · rw [stU_i e]; exact i0.2.2.2.2.2.2.1 s (by omega)
  have i0' : I0 (nS + 1) nM hr (stU (stU (stU σ 11 nS (ι c)) 12 nS x) 10 0 (ι (nS + 1))) := ⟨i0.1, ⟨by omega, stU_same _ _ _ _⟩, i0.2.2.1, i0.2.2.2.1, i0.2.2.2.2.1, i0.2.2.2.2.2.1, q7, i0.2.2.2.2.2.2.2.1, i0.2.2.2.2.2.2.2.2⟩
  have j1 : I1 (nS + 1) nM 400000 (stU σ 11 nS (ι c)) := by
    obtain ⟨a1, a2, a3, a4, a5, a6⟩ := i1
    exact ⟨a1, a2, a3, fun s h1 => ⟨(a4 s h1).1, fun h2 => (a4 s h1).2 (by omega)⟩, a5, a6⟩
  have z12 : (σ 12 nS).toInt = 0 := (i1.2.2.2.1 nS hn).2 (Nat.le_refl _)
  have j2 := (j1.s12 (s := nS) (x := x) hn x0 (fun q => absurd q (by omega))).oth (k := 10) (i := 0) (x := ι (nS + 1)) rfl
  have cq' : Cq nM (B + x.toInt) (Ws δ) (stU (stU (stU σ 11 nS (ι c)) 12 nS x) 10 0 (ι (nS + 1))) := by
    obtain ⟨bn, q2, q3, q4, q5⟩ := cq
    refine ⟨bn, q2, xB, ?_, ?_⟩
    · rw [oil_o (by decide) (by decide) (by decide), oil_o (by decide) (by decide) (by decide), oil_o (by decide) (by decide) (by decide), sto_oth (by decide) (by decide), sto_oth (by decide) (by decide), sto_oth (by decide) (by decide)]
      exact q4
    · rw [rs_oth (by decide), rs_upd hn, rs_oth (by decide)]
      have e1 : (stU σ 11 nS (ι c)) 12 nS = σ 12 nS := stU_k (by decide)
      have e2 : stU (stU (stU σ 11 nS (ι c)) 12 nS x) 10 0 (ι (nS + 1)) 23 0 = σ 23 0 := rfl
      rw [e1, e2, z12]
      omega
  exact ⟨⟨i0', j2.fix i0.2.2.1.1 cq'⟩, cq', ob, de, tp, wd⟩
/-! a new mean -/
def clA (σ : St) (n : Nat) (so ce po : Int32) : St := stU (stU (stU (stU (stU σ 15 n so) 16 n ce) 18 n po) 22 n (-1)) 14 0 (ι (n + 1))
theorem a_I0 {nS nM hr : Nat} {σ : St} (i0 : I0 nS nM hr σ) (hn : nM < 20) {so ce po : Int32} {k : Nat} {x : Int32} (hkk : k = 17 ∨ k = 19 ∨ k = 21) (hk : so = 1 → k = 19 ∧ (∃ c, c < 24 ∧ ce = ι c) ∧ (∃ p, p ≤ 500 ∧ po = ι p) ∧ ∃ q, q ≤ 5000 ∧ x = ι q) : I0 nS (nM + 1) hr (stU (clA σ nM so ce po) k nM x) := by
  refine ⟨?_, ?_, ?_, ?_, ?_, ?_, ?_, ?_, fun a ha g0 => ?_⟩
  case refine_9 =>
    have h15 : (stU (clA σ nM so ce po) k nM x) 15 a = (stU σ 15 nM so) 15 a := by
      rw [stU_k (by omega)]; rfl
    have h16 : (stU (clA σ nM so ce po) k nM x) 16 a = (stU σ 16 nM ce) 16 a := by
      rw [stU_k (by omega)]; rfl
    have h18 : (stU (clA σ nM so ce po) k nM x) 18 a = (stU σ 18 nM po) 18 a := by
      rw [stU_k (by omega)]; rfl
    rw [h15] at g0
    rw [h16, h18]
    by_cases e : a = nM
    · subst e
      rw [stU_same] at g0
      obtain ⟨q0, q1, q2, q3⟩ := hk g0
      subst q0
      rw [stU_same, stU_same]
      refine ⟨q1, q2, ?_⟩
      rw [stU_same]; exact q3
    · rw [stU_i e] at g0
      obtain ⟨q1, q2, q3⟩ := i0.2.2.2.2.2.2.2.2 a (by omega) g0
      rw [stU_i e, stU_i e]
      refine ⟨q1, q2, ?_⟩
      rw [show (stU (clA σ nM so ce po) k nM x) 19 a = σ 19 a by rw [stU_ite, if_neg (fun q => e q.2)]; rfl]
      exact q3
  all_goals rcases hkk with rfl | rfl | rfl
  all_goals first
    | exact i0.1
    | exact i0.2.1
    | exact ⟨by omega, rfl⟩
    | exact i0.2.2.2.1
    | exact i0.2.2.2.2.1
    | exact i0.2.2.2.2.2.1
    | exact i0.2.2.2.2.2.2.1
    | exact i0.2.2.2.2.2.2.2.1
theorem a_I1 {nS nM : Nat} {K : Int} {σ : St} (i1 : I1 nS nM K σ) (hn : nM < 20) {so ce po : Int32} {k : Nat} {x : Int32} (hkk : k = 17 ∨ k = 19 ∨ k = 21) (hk : so = 1 → k = 19 ∧ 0 ≤ x.toInt) : I1 nS (nM + 1) K (stU (clA σ nM so ce po) k nM x) := by
  obtain ⟨a1, a2, a3, a4, a5, a6⟩ := i1
  refine ⟨?_, ?_, ?_, ?_, fun a ha => ?_, ?_⟩
  case refine_5 =>
    have h15 : (stU (clA σ nM so ce po) k nM x) 15 a = (stU σ 15 nM so) 15 a := by
      rw [stU_k (by omega)]; rfl
    have h20 : (stU (clA σ nM so ce po) k nM x) 20 a = σ 20 a := by
      rw [stU_k (by omega)]; rfl
    rw [h15, h20]
    by_cases e : a = nM
    · subst e
      have z := (a5 a ha).2 (Nat.le_refl _)
      refine ⟨fun _ g => ?_, fun q => absurd q (by omega)⟩
      rw [stU_same] at g
      obtain ⟨q0, q1⟩ := hk g
      subst q0
      rw [z, stU_same]
      exact ⟨Int.le_refl 0, q1⟩
    · rw [stU_i e, show (stU (clA σ nM so ce po) k nM x) 19 a = σ 19 a by rw [stU_ite, if_neg (fun q => e q.2)]; rfl]
      exact ⟨fun g1 g2 => (a5 a ha).1 (by omega) g2, fun g => (a5 a ha).2 (by omega)⟩
  all_goals rcases hkk with rfl | rfl | rfl
  all_goals first
    | exact a1
    | exact a2
    | exact a3
    | exact a4
    | exact a6
theorem a_Tp {nM : Nat} {σ : St} (hp : Tp nM σ) {so ce po : Int32} (hk : so = 2 → ∃ p, p ≤ 50 ∧ po = ι p) {k : Nat} {x : Int32} (hkk : k = 17 ∨ k = 19 ∨ k = 21) : Tp (nM + 1) (stU (clA σ nM so ce po) k nM x) := by
  intro a ha g0
  have h15 : (stU (clA σ nM so ce po) k nM x) 15 a = (stU σ 15 nM so) 15 a := by
    rw [stU_k (by omega)]; rfl
  have h18 : (stU (clA σ nM so ce po) k nM x) 18 a = (stU σ 18 nM po) 18 a := by
    rw [stU_k (by omega)]; rfl
  rw [h15] at g0
  rw [h18]
  by_cases e : a = nM
  · subst e
    rw [stU_same] at g0 ⊢
    exact hk g0
  · rw [stU_i e] at g0 ⊢
    exact hp a (by omega) g0
theorem a_sto {nS nM : Nat} {K : Int} {σ : St} (i1 : I1 nS nM K σ) (hn : nM < 20) {so ce po : Int32} {k : Nat} {x : Int32} (hkk : k = 17 ∨ k = 19 ∨ k = 21) : sto (nM + 1) (stU (clA σ nM so ce po) k nM x) = sto nM σ := by
  have z := (i1.2.2.2.2.1 nM hn).2 (Nat.le_refl _)
  have h15 : ∀ a, (stU (clA σ nM so ce po) k nM x) 15 a = (stU σ 15 nM so) 15 a := fun a => by
    rw [stU_k (by omega)]; rfl
  have h20 : ∀ a, (stU (clA σ nM so ce po) k nM x) 20 a = σ 20 a := fun a => by
    rw [stU_k (by omega)]; rfl
  have e : sto nM (stU (clA σ nM so ce po) k nM x) = sto nM σ := Sm_congr (fun a ha => by
    rw [h15, h20, stU_i (by omega)])
  show sto nM (stU (clA σ nM so ce po) k nM x) + (if (stU (clA σ nM so ce po) k nM x) 15 nM = 1 then ((stU (clA σ nM so ce po) k nM x) 20 nM).toInt else 0) = _
  rw [e, h20, z]
  split <;> omega
theorem U_mean {nS nM hr : Nat} {B : Int} {σ δ : St} (h : Iv nS nM hr B σ δ) (hn : nM < 20) {so ce po : Int32} {k : Nat} {x : Int32} (hkk : k = 17 ∨ k = 19 ∨ k = 21) (hk : so = 1 → k = 19 ∧ (∃ c, c < 24 ∧ ce = ι c) ∧ (∃ p, p ≤ 500 ∧ po = ι p) ∧ ∃ q, q ≤ 5000 ∧ x = ι q) (hk2 : so = 2 → ∃ p, p ≤ 50 ∧ po = ι p) : Iv nS (nM + 1) hr B (stU (clA σ nM so ce po) k nM x) δ := by
  obtain ⟨⟨i0, i1⟩, cq, ob, de, tp, wd⟩ := h
  have o : ∀ j, j ≠ 14 → j ≠ 15 → j ≠ 16 → j ≠ 17 → j ≠ 18 → j ≠ 19 → j ≠ 21 → j ≠ 22 → ∀ a, stU (clA σ nM so ce po) k nM x j a = σ j a := fun j a1 a2 a3 a4 a5 a6 a7 a8 a => by
    unfold clA
    rw [stU_k (by omega), stU_k a1, stU_k a8, stU_k a5, stU_k a3, stU_k a2]
  have o' : ∀ j, (j = 2 ∨ j = 3 ∨ j = 4 ∨ j = 5 ∨ j = 6 ∨ j = 7 ∨ j = 8 ∨ j = 12 ∨ j = 23) → ∀ a, stU (clA σ nM so ce po) k nM x j a = σ j a := fun j hj a => o j (by omega) (by omega) (by omega) (by omega) (by omega) (by omega) (by omega) (by omega) a
  refine ⟨⟨a_I0 i0 hn hkk hk, a_I1 i1 hn hkk (fun e => ⟨(hk e).1, by obtain ⟨-, -, -, q, hq, eq⟩ := hk e; rw [eq, ι_toInt (by omega)]; omega⟩)⟩, ?_, ?_, ?_, a_Tp tp hk2 hkk, wd⟩
  · have eo : oil (stU (clA σ nM so ce po) k nM x) = oil σ := oil_k (o' 4 (by omega)) (o' 5 (by omega)) (o' 6 (by omega))
    have er : rs (stU (clA σ nM so ce po) k nM x) 12 4 = rs σ 12 4 := rs_k (o' 12 (by omega))
    unfold Cq Bn bk5 at *
    rw [o' 23 (by omega), o' 23 (by omega), o' 23 (by omega), o' 23 (by omega), o' 23 (by omega), o' 23 (by omega), eo, er, a_sto i1 hn hkk]
    exact cq
  · intro c hc
    rw [o' 8 (by omega), o' 7 (by omega)]
    exact ob c hc
  · intro c hc
    rw [o' 2 (by omega), o' 3 (by omega)]
    exact de c hc
theorem U_move {nS nM hr : Nat} {B : Int} {σ δ : St} (h : Iv nS nM hr B σ δ) {m c : Nat} (hm : m < nM) (hc : c < 24) : Iv nS nM hr B (stU σ 16 m (ι c)) δ := by
  obtain ⟨⟨i0, i1⟩, cq, ob, de, tp, wd⟩ := h
  have i0' : I0 nS nM hr (stU σ 16 m (ι c)) := by
    refine ⟨i0.1, i0.2.1, i0.2.2.1, i0.2.2.2.1, i0.2.2.2.2.1, i0.2.2.2.2.2.1, i0.2.2.2.2.2.2.1, i0.2.2.2.2.2.2.2.1, fun a ha g0 => ?_⟩
    obtain ⟨q1, q2⟩ := i0.2.2.2.2.2.2.2.2 a ha g0
    refine ⟨?_, q2⟩
    by_cases e : a = m
    · subst e; exact ⟨c, hc, stU_same _ _ _ _⟩
    · rw [stU_i e]; exact q1
  refine ⟨⟨i0', i1.oth rfl⟩, cq.same (fun _ => rfl) ?_ ?_ ?_, ob, de, tp, wd⟩
  · rw [oil_o (by decide) (by decide) (by decide)]
  · rw [sto_oth (by decide) (by decide)]
  · rw [rs_oth (by decide)]
theorem Ws_0 {δ : St} {x : Int32} : Ws (stU δ 1 0 x) = x.toInt + (δ 1 1).toInt := rfl
theorem Ws_1 {δ : St} {x : Int32} : Ws (stU δ 1 1 x) = (δ 1 0).toInt + x.toInt := rfl
theorem U_carry {nS nM hr : Nat} {B : Int} {σ δ : St} (h : Iv nS nM hr B σ δ) {m : Nat} (hm : m < nM) (g : σ 15 m = 1) : Iv nS nM hr B (stU σ 20 m 0) (stU δ 1 0 (δ 1 0 + σ 20 m)) ∧ (δ 1 0 + σ 20 m).toInt = (δ 1 0).toInt + (σ 20 m).toInt ∧ 0 ≤ (σ 20 m).toInt ∧ sto nM (stU σ 20 m 0) = sto nM σ - (σ 20 m).toInt := by
  obtain ⟨⟨i0, i1⟩, cq, ob, de, tp, wd⟩ := h
  have hM := i0.2.2.1.1
  obtain ⟨bn, p1, p2, p3, u0, u2, u3, u4, u5, u6, u7, u8, u9, u10⟩ := cq.bd ⟨i0, i1⟩
  have q := (i1.2.2.2.2.1 m (by omega)).1 hm g
  obtain ⟨w1, w2, w3⟩ := wd
  have wb : Ws δ = (δ 1 0).toInt + (δ 1 1).toInt := rfl
  have ls : (σ 20 m).toInt ≤ sto nM σ := by
    have := Sm_le (f := fun m => if σ 15 m = 1 then (σ 20 m).toInt else 0) (i := m) (n := nM) (fun i hi => by
      show 0 ≤ (if σ 15 i = 1 then (σ 20 i).toInt else 0)
      split
      · exact ((i1.2.2.2.2.1 i (by omega)).1 hi (by assumption)).1
      · exact Int.le_refl 0) hm
    have e : (if σ 15 m = 1 then (σ 20 m).toInt else 0) = (σ 20 m).toInt := if_pos g
    rw [← e]
    exact this
  have e1 : (δ 1 0 + σ 20 m).toInt = (δ 1 0).toInt + (σ 20 m).toInt := t_add (by omega) (by omega)
  have es : sto nM (stU σ 20 m 0) = sto nM σ - (σ 20 m).toInt := by
    rw [sto_20 hm g, show (0 : Int32).toInt = 0 from rfl]; omega
  refine ⟨⟨⟨i0.oth rfl, i1.s20 (fun _ _ => ⟨Int.le_refl 0, Int.le_trans q.1 q.2⟩) (fun _ => rfl)⟩, ?_, ob, de, tp, ?_⟩, e1, q.1, es⟩
  · obtain ⟨bn, q2, q3, q4, q5⟩ := cq
    refine ⟨bn, by rw [Ws_0]; omega, q3, ?_, ?_⟩
    · rw [oil_o (by decide) (by decide) (by decide), es, Ws_0, e1]
      show oil σ + (sto nM σ - (σ 20 m).toInt) + bk5 σ + _ = (σ 23 0).toInt
      omega
    · rw [rs_oth (by decide)]; exact q5
  · exact ⟨by rw [stU_same, e1]; omega, w2, w3⟩
theorem U_clean {nS nM hr : Nat} {B : Int} {σ δ : St} (h : Iv nS nM hr B σ δ) {m c : Nat} (hm : m < nM) (hc : c < 24) (g15 : σ 15 m = 2) (x t u : Int32) (hx0 : 0 ≤ x.toInt) (hx1 : x.toInt ≤ (σ 6 c).toInt) : Iv nS nM hr B (stU (stU (stU σ 20 m t) 22 m u) 6 c (σ 6 c - x)) (stU δ 1 1 (δ 1 1 + x)) ∧ (δ 1 1 + x).toInt = (δ 1 1).toInt + x.toInt := by
  obtain ⟨⟨i0, i1⟩, cq, ob, de, tp, wd⟩ := h
  have hM := i0.2.2.1.1
  obtain ⟨bn, p1, p2, p3, u0, u2, u3, u4, u5, u6, u7, u8, u9, u10⟩ := cq.bd ⟨i0, i1⟩
  obtain ⟨w1, w2, w3⟩ := wd
  have wb : Ws δ = (δ 1 0).toInt + (δ 1 1).toInt := rfl
  have b6 := i1.2.2.1 c hc
  have b4 := i1.b4 hc
  have e1 : (σ 6 c - x).toInt = (σ 6 c).toInt - x.toInt := t_sub (by omega) (by omega)
  have e2 : (δ 1 1 + x).toInt = (δ 1 1).toInt + x.toInt := t_add (by omega) (by omega)
  have n1 : ¬ σ 15 m = 1 := by rw [g15]; decide
  have j0 : I1 nS nM 400000 (stU (stU σ 20 m t) 22 m u) := (i1.s20 (fun _ q => absurd q n1) (fun q => absurd q (by omega))).oth rfl
  have j1 := j0.s6 (c := c) (x := σ 6 c - x) hc (by omega) (by show _ ≤ (tabH (σ 2 c)).toInt; omega)
  have j2 : I1 nS nM 400000 _ := j1.mono (K2 := 400000) (by show _ - (σ 6 c).toInt + _ ≤ _; omega)
  refine ⟨⟨⟨((i0.oth rfl).oth rfl).oth rfl, j2⟩, ?_, ob, de, tp, ⟨w1, by rw [stU_same, e2]; omega, w3⟩⟩, e2⟩
  obtain ⟨bn, q2, q3, q4, q5⟩ := cq
  refine ⟨bn, by rw [Ws_1, e2]; omega, q3, ?_, ?_⟩
  · rw [oil_6 hc, oil_o (by decide) (by decide) (by decide), oil_o (by decide) (by decide) (by decide), sto_oth (by decide) (by decide), sto_oth (by decide) (by decide), sto_no n1, Ws_1, e2, e1]
    show oil σ - (σ 6 c).toInt + ((σ 6 c).toInt - x.toInt) + sto nM σ + bk5 σ + _ = (σ 23 0).toInt
    omega
  · rw [rs_oth (by decide), rs_oth (by decide), rs_oth (by decide)]; exact q5
theorem U_use {nS nM hr : Nat} {B : Int} {σ δ : St} (h : Iv nS nM hr B σ δ) {c : Nat} (hc : c < 24) (g : σ 2 c = 0) (x y : Int32) (hx0 : 0 ≤ x.toInt) (hx1 : x.toInt ≤ (σ 4 c).toInt) (hy : y.toInt = (σ 4 c).toInt - x.toInt) {i : Nat} (hi : i = 5 ∨ i = 6) : Iv nS nM hr B (stU (stU σ 4 c y) 23 i (σ 23 i + x)) δ := by
  obtain ⟨⟨i0, i1⟩, cq, ob, de, tp, wd⟩ := h
  obtain ⟨⟨b0, b2, b3, b4, b5, b6⟩, p1, p2, p3, u0, u2, u3, u4, u5, u6, u7, u8, u9, u10⟩ := cq.bd ⟨i0, i1⟩
  have bb := i1.b4 hc
  have j1 := i1.s4 (c := c) (x := y) hc (by omega) (fun q => absurd g q)
  have j2 : I1 nS nM 400000 _ := j1.mono (K2 := 400000) (by omega)
  refine ⟨⟨(i0.oth rfl).oth (by rcases hi with rfl | rfl <;> rfl), j2.oth rfl⟩, ?_, ob, de, tp, wd⟩
  obtain ⟨bn, q2, q3, q4, q5⟩ := cq
  unfold bk5 at q4
  have eo : oil (stU (stU σ 4 c y) 23 i (σ 23 i + x)) = oil σ - x.toInt := by
    rw [oil_o (by decide) (by decide) (by decide), oil_4 hc, hy]; omega
  have es : sto nM (stU (stU σ 4 c y) 23 i (σ 23 i + x)) = sto nM σ := by
    rw [sto_oth (by decide) (by decide), sto_oth (by decide) (by decide)]
  have er : rs (stU (stU σ 4 c y) 23 i (σ 23 i + x)) 12 4 = rs σ 12 4 := by
    rw [rs_oth (by decide), rs_oth (by decide)]
  have eu : ∀ j, j ≠ i → stU (stU σ 4 c y) 23 i (σ 23 i + x) 23 j = σ 23 j := fun j hj => by rw [stU_i hj, stU_k (by decide)]
  have ev : stU (stU σ 4 c y) 23 i (σ 23 i + x) 23 i = σ 23 i + x := stU_same _ _ _ _
  unfold Cq Bn bk5
  rw [eo, es, er]
  rcases hi with rfl | rfl
  · have w : (σ 23 5 + x).toInt = (σ 23 5).toInt + x.toInt := t_add (by omega) (by omega)
    rw [eu 0 (by decide), eu 2 (by decide), eu 3 (by decide), eu 4 (by decide), ev, eu 6 (by decide), w]
    exact ⟨⟨b0, b2, b3, b4, by omega, b6⟩, q2, q3, by omega, q5⟩
  · have w : (σ 23 6 + x).toInt = (σ 23 6).toInt + x.toInt := t_add (by omega) (by omega)
    rw [eu 0 (by decide), eu 2 (by decide), eu 3 (by decide), eu 4 (by decide), eu 5 (by decide), ev, w]
    exact ⟨⟨b0, b2, b3, b4, b5, by omega⟩, q2, q3, by omega, q5⟩
theorem U_hour {nS nM hr : Nat} {B : Int} {σ δ : St} (h : Iv nS nM hr B σ δ) (hh : hr + 1 < 3000) {w : Nat} (hw : w < 4) (e5 : σ 0 5 = ι w) : Iv nS nM (hr + 1) B (hourF nS nM w hr σ) δ := by
  obtain ⟨i2, cq, ob, de, tp, wd⟩ := h
  have hK : (400000 : Int) ≤ 400000 := Int.le_refl _
  refine ⟨(stages hK i2 hh hw e5).2.2.2.2.2.2.2.1, hour_C hK i2 hh hw e5 cq, hour_B hK i2 hh hw e5 ob, fun c hc => ?_, fun m hm => ?_, wd⟩
  · rw [hourF_o (k := 2) rfl, hourF_o (k := 3) rfl]; exact de c hc
  · rw [hourF_o (k := 15) rfl, hourF_o (k := 18) rfl]; exact tp m hm
theorem U_hrs {nS nM : Nat} {B : Int} {δ : St} {w : Nat} (hw : w < 4) : ∀ (j hr : Nat) (σ : St), Iv nS nM hr B σ δ → hr + j < 3000 → σ 0 5 = ι w → Iv nS nM (hr + j) B (hrsF nS nM w j hr σ) δ
  | 0, _, _, h, _, _ => h
  | j + 1, hr, σ, h, hh, e5 => by
    have := U_hrs hw j (hr + 1) _ (U_hour h (by omega) hw e5) (by omega) (hour_w (Int.le_refl _) h.1 (by omega) hw e5)
    rw [show hr + (j + 1) = hr + 1 + j by omega]
    exact this
