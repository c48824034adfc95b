/-! rules -/
theorem kindB {nS nM hr : Nat} {σ : St} (i0 : I0 nS nM hr σ) {c : Nat} (hc : c < 24) (lo : Int32) : ∀ (j w n : Nat), w + j = 4 → j < n → ∃ b : Int32, (b = 0 ∨ b = 1) ∧ sp_X2_isKindBeside_3 σ (ι c) lo 3 n (ι w) = some b := by
  intro j
  induction j with
  | zero =>
    intro w n h1 h2
    obtain ⟨n, rfl⟩ : ∃ q, n = q + 1 := ⟨n - 1, by omega⟩
    have ew : w = 4 := by omega
    subst ew
    exact ⟨0, Or.inl rfl, by rw [sp_X2_isKindBeside_3, if_pos (by decide)]⟩
  | succ j ih =>
    intro w n h1 h2
    obtain ⟨n, rfl⟩ : ∃ q, n = q + 1 := ⟨n - 1, by omega⟩
    have hw : w < 4 := by omega
    have q9 : ¬ (3 : Int32) < ι w := by rw [show (3 : Int32) = ι 3 from rfl, ι_lt (by omega) (by omega)]; omega
    obtain ⟨b, hb, b9⟩ := ih (w + 1) n (by omega) (by omega)
    rw [sp_X2_isKindBeside_3, if_neg q9, bs9 c hc w hw, b1s]
    cases hbs : bs c w with
    | none =>
      rw [show oI none = -1 from rfl, if_pos rfl, ι_one]
      exact ⟨b, hb, b9⟩
    | some d =>
      have hd := bs_lt hc hw hbs
      rw [show oI (some d) = ι d from rfl, if_neg (oI_ne hd), ix hd (by omega), ι_nat (by omega), ix2 hd (by omega), ι_one]
      by_cases g1 : σ 2 d < lo
      · exact ⟨b, hb, by rw [if_pos g1]; exact b9⟩
      · rw [if_neg g1]
        by_cases g2 : 3 < σ 2 d
        · exact ⟨b, hb, by rw [if_pos g2]; exact b9⟩
        · exact ⟨1, Or.inr rfl, if_neg g2⟩
theorem two01 (P : Prop) [Decidable P] : ∃ b : Int32, (b = 0 ∨ b = 1) ∧ (if P then (some (0 : Int32)) else some 1) = some b := by
  by_cases h : P
  · exact ⟨0, Or.inl rfl, if_pos h⟩
  · exact ⟨1, Or.inr rfl, if_neg h⟩
theorem ag9 {nS nM hr : Nat} {σ : St} (i0 : I0 nS nM hr σ) {c : Nat} (hc : c < 24) {u : Nat} (r : Int32) : ∃ b : Int32, (b = 0 ∨ b = 1) ∧ sp_X7_isAgainst r (ι c) (ι u) σ = some b := by
  have r2 : ∀ y : Int32, ∃ b : Int32, (b = 0 ∨ b = 1) ∧ sp_X7_isAgainst_111 σ y = some b := by
    intro y
    unfold sp_X7_isAgainst_111 sp_X0_hasLeakedWithin
    by_cases q : σ 23 1 = -1
    · exact ⟨1, Or.inr rfl, by rw [if_pos q, b1s, if_pos rfl]⟩
    · by_cases q2 : y < σ 0 4 - σ 23 1
      · exact ⟨1, Or.inr rfl, by rw [if_neg q, if_pos q2, b1s, if_pos rfl]⟩
      · exact ⟨0, Or.inl rfl, by rw [if_neg q, if_neg q2, b1s, if_neg (by decide)]⟩
  have r5 : ∀ lo : Int32, ∃ b : Int32, (b = 0 ∨ b = 1) ∧ sp_X7_isAgainst_200 σ (ι c) lo = some b := by
    intro lo
    obtain ⟨b, hb, b9⟩ := kindB i0 hc lo 4 0 200 (by omega) (by omega)
    refine ⟨b, hb, ?_⟩
    unfold sp_X7_isAgainst_200 sp_X2_isKindBeside
    rw [show sp_X2_isKindBeside_3 σ (ι c) lo 3 200 0 = some b from b9, b1s, if_pos hb]
  have k9 : ∀ y : Int32, ∃ b : Int32, (b = 0 ∨ b = 1) ∧ sp_X7_isAgainst_9 σ r (ι c) y = some b := by
    intro y
    unfold sp_X7_isAgainst_9
    simp only [ι_nat (show c < 100000 by omega), ix2 hc (show 24 < 100000 by omega)]
    by_cases h1 : r = 1
    · rw [if_pos h1]
      by_cases hy : y = 0
      · rw [if_pos hy]; exact two01 _
      · rw [if_neg hy]; exact two01 _
    · rw [if_neg h1]
      by_cases h2 : r = 2
      · rw [if_pos h2]
        by_cases hy : y = 0
        · rw [if_pos hy]; exact r2 24
        · rw [if_neg hy]; exact r2 72
      · rw [if_neg h2]
        by_cases h3 : r = 3
        · rw [if_pos h3]; exact two01 _
        · rw [if_neg h3]
          by_cases h4 : r = 4
          · rw [if_pos h4]
            by_cases hy : y = 0
            · rw [if_pos hy]; exact two01 _
            · rw [if_neg hy]; exact two01 _
          · rw [if_neg h4]
            by_cases hy : y = 0
            · rw [if_pos hy]; exact r5 1
            · rw [if_neg hy]; exact r5 3
  unfold sp_X7_isAgainst
  by_cases hu : ι u = 0
  · rw [if_pos hu]; exact k9 1
  · rw [if_neg hu]; exact k9 0
/-- first, last, how many, of five -/
def fst5 (b1 b2 b3 b4 b5 : Int32) : Int32 := if b1 = 0 then (if b2 = 0 then (if b3 = 0 then (if b4 = 0 then (if b5 = 0 then 0 else 5) else 4) else 3) else 2) else 1
def lst5 (b1 b2 b3 b4 b5 : Int32) : Int32 := if b5 = 0 then (if b4 = 0 then (if b3 = 0 then (if b2 = 0 then (if b1 = 0 then 0 else 1) else 2) else 3) else 4) else 5
def mny5 (b1 b2 b3 b4 b5 : Int32) : Int32 := b1 + b2 + b3 + b4 + b5
theorem some_ite (c : Prop) [Decidable c] (a b : Int32) : (if c then some a else some b) = some (if c then a else b) := by
  by_cases h : c
  · rw [if_pos h, if_pos h]
  · rw [if_neg h, if_neg h]
theorem first_s {σ : St} {c u r b : Int32} (hr : ¬ (5 : Int32) < r) (e : sp_X7_isAgainst r c u σ = some b) (n : Nat) : sp_X7_first_2 σ c u (n + 1) r = if b = 0 then sp_X7_first_2 σ c u n (r + 1) else some r := by
  rw [sp_X7_first_2, if_neg hr, e, b1s]
theorem last_s {σ : St} {c u r b : Int32} (hr : ¬ r < (1 : Int32)) (e : sp_X7_isAgainst r c u σ = some b) (n : Nat) : sp_X7_last_2 σ c u (n + 1) r = if b = 0 then sp_X7_last_2 σ c u n (r + (-1)) else some r := by
  rw [sp_X7_last_2, if_neg hr, e, b1s]
theorem first9 {σ : St} {c u : Int32} {b1 b2 b3 b4 b5 : Int32} (e1 : sp_X7_isAgainst 1 c u σ = some b1) (e2 : sp_X7_isAgainst 2 c u σ = some b2) (e3 : sp_X7_isAgainst 3 c u σ = some b3) (e4 : sp_X7_isAgainst 4 c u σ = some b4) (e5 : sp_X7_isAgainst 5 c u σ = some b5) : sp_X7_first c u σ = some (fst5 b1 b2 b3 b4 b5) := by
  have k : ∀ n, sp_X7_first_2 σ c u (n + 6) 1 = some (fst5 b1 b2 b3 b4 b5) := by
    intro n
    have z : sp_X7_first_2 σ c u (n + 1) 6 = some 0 := by rw [sp_X7_first_2, if_pos (by decide)]
    rw [first_s (by decide) e1, show (1 : Int32) + 1 = 2 from rfl, first_s (by decide) e2, show (2 : Int32) + 1 = 3 from rfl, first_s (by decide) e3, show (3 : Int32) + 1 = 4 from rfl, first_s (by decide) e4, show (4 : Int32) + 1 = 5 from rfl, first_s (by decide) e5, show (5 : Int32) + 1 = 6 from rfl, z, some_ite, some_ite, some_ite, some_ite, some_ite]
    rfl
  exact k 194
theorem last9 {σ : St} {c u : Int32} {b1 b2 b3 b4 b5 : Int32} (e1 : sp_X7_isAgainst 1 c u σ = some b1) (e2 : sp_X7_isAgainst 2 c u σ = some b2) (e3 : sp_X7_isAgainst 3 c u σ = some b3) (e4 : sp_X7_isAgainst 4 c u σ = some b4) (e5 : sp_X7_isAgainst 5 c u σ = some b5) : sp_X7_last c u σ = some (lst5 b1 b2 b3 b4 b5) := by
  have k : ∀ n, sp_X7_last_2 σ c u (n + 6) 5 = some (lst5 b1 b2 b3 b4 b5) := by
    intro n
    have z : sp_X7_last_2 σ c u (n + 1) 0 = some 0 := by rw [sp_X7_last_2, if_pos (by decide)]
    rw [last_s (by decide) e5, show (5 : Int32) + (-1) = 4 from rfl, last_s (by decide) e4, show (4 : Int32) + (-1) = 3 from rfl, last_s (by decide) e3, show (3 : Int32) + (-1) = 2 from rfl, last_s (by decide) e2, show (2 : Int32) + (-1) = 1 from rfl, last_s (by decide) e1, show (1 : Int32) + (-1) = 0 from rfl, z, some_ite, some_ite, some_ite, some_ite, some_ite]
    rfl
  exact k 194
theorem many_s {σ : St} {c u y r b : Int32} (hr : ¬ (5 : Int32) < r) (e : sp_X7_isAgainst r c u σ = some b) (hb : b = 0 ∨ b = 1) (n : Nat) : sp_X7_howMany_5 σ c u (n + 1) y r = sp_X7_howMany_5 σ c u n (y + b) (r + 1) := by
  rw [sp_X7_howMany_5, if_neg hr, e, b1s]
  rcases hb with rfl | rfl
  · rw [if_pos rfl, Int32.add_zero]
  · rw [if_neg (by decide)]
theorem many9 {σ : St} {c u : Int32} {b1 b2 b3 b4 b5 : Int32} (e1 : sp_X7_isAgainst 1 c u σ = some b1) (e2 : sp_X7_isAgainst 2 c u σ = some b2) (e3 : sp_X7_isAgainst 3 c u σ = some b3) (e4 : sp_X7_isAgainst 4 c u σ = some b4) (e5 : sp_X7_isAgainst 5 c u σ = some b5) (h1 : b1 = 0 ∨ b1 = 1) (h2 : b2 = 0 ∨ b2 = 1) (h3 : b3 = 0 ∨ b3 = 1) (h4 : b4 = 0 ∨ b4 = 1) (h5 : b5 = 0 ∨ b5 = 1) : sp_X7_howMany c u σ = some (mny5 b1 b2 b3 b4 b5) := by
  have k : ∀ n, sp_X7_howMany_5 σ c u (n + 6) 0 1 = some (mny5 b1 b2 b3 b4 b5) := by
    intro n
    rw [many_s (by decide) e1 h1, show (1 : Int32) + 1 = 2 from rfl, many_s (by decide) e2 h2, show (2 : Int32) + 1 = 3 from rfl, many_s (by decide) e3 h3, show (3 : Int32) + 1 = 4 from rfl, many_s (by decide) e4 h4, show (4 : Int32) + 1 = 5 from rfl, many_s (by decide) e5 h5, show (5 : Int32) + 1 = 6 from rfl, sp_X7_howMany_5, if_pos (by decide), Int32.zero_add]
    rfl
  exact k 194
/-- what the law asks of the three -/
def ok3 (f l n : Int32) : Prop := (f = 0 ↔ n = 0) ∧ ¬ l < f ∧ ¬ (l - f + 1) < n ∧ ¬ n < 0
theorem ok5 {b1 b2 b3 b4 b5 : Int32} (h1 : b1 = 0 ∨ b1 = 1) (h2 : b2 = 0 ∨ b2 = 1) (h3 : b3 = 0 ∨ b3 = 1) (h4 : b4 = 0 ∨ b4 = 1) (h5 : b5 = 0 ∨ b5 = 1) : ok3 (fst5 b1 b2 b3 b4 b5) (lst5 b1 b2 b3 b4 b5) (mny5 b1 b2 b3 b4 b5) := by
  unfold ok3
  rcases h1 with rfl | rfl <;> rcases h2 with rfl | rfl <;> rcases h3 with rfl | rfl <;> rcases h4 with rfl | rfl <;> rcases h5 with rfl | rfl <;> decide
/-- why and use, in water and not -/
theorem rules9 {nS nM hr : Nat} {σ : St} (h : I2 nS nM hr 400000 σ) {c u : Nat} (hc : c < 24) (g : σ 2 c = 0) (hu : u < 2) : ∃ f l n : Int32, ok3 f l n ∧ sp_L_tryWhy (ι c) (ι u) 0 σ = some f ∧ sp_L_tryWhy (ι c) (ι u) 1 σ = some l ∧ sp_L_tryWhy (ι c) (ι u) 2 σ = some n ∧ sp_X7_howMany (ι c) (ι u) σ = some n := by
  obtain ⟨b1, h1, e1⟩ := ag9 h.1 hc (u := u) 1
  obtain ⟨b2, h2, e2⟩ := ag9 h.1 hc (u := u) 2
  obtain ⟨b3, h3, e3⟩ := ag9 h.1 hc (u := u) 3
  obtain ⟨b4, h4, e4⟩ := ag9 h.1 hc (u := u) 4
  obtain ⟨b5, h5, e5⟩ := ag9 h.1 hc (u := u) 5
  have q1 := first9 e1 e2 e3 e4 e5
  have q2 := last9 e1 e2 e3 e4 e5
  have q3 := many9 e1 e2 e3 e4 e5 h1 h2 h3 h4 h5
  have nu : sp_X9_needRange (ι u) 0 1 = some (.inl ()) := nrY (show (0 : Int32).toInt ≤ _ by rw [ι_toInt (by omega)]; show (0 : Int) ≤ _; omega) (show _ ≤ (1 : Int32).toInt by rw [ι_toInt (by omega)]; show _ ≤ (1 : Int); omega)
  refine ⟨_, _, _, ok5 h1 h2 h3 h4 h5, ?_, ?_, ?_, q3⟩
  · unfold sp_L_tryWhy sp_X9_why
    rw [nc9 c hc, bxl, nu, bxl, show sp_X9_needRange 0 0 2 = some (.inl ()) from rfl, bxl, wat9 hc g, bxl, if_pos rfl, q1, b1s, bc1l]
  · unfold sp_L_tryWhy sp_X9_why
    rw [nc9 c hc, bxl, nu, bxl, show sp_X9_needRange 1 0 2 = some (.inl ()) from rfl, bxl, wat9 hc g, bxl, if_neg (by decide), if_pos rfl, q2, b1s, bc1l]
  · unfold sp_L_tryWhy sp_X9_why
    rw [nc9 c hc, bxl, nu, bxl, show sp_X9_needRange 2 0 2 = some (.inl ()) from rfl, bxl, wat9 hc g, bxl, if_neg (by decide), if_neg (by decide), q3, b1s, bc1l]
theorem rules9n {σ : St} {c u : Nat} (hc : c < 24) (g : ¬ σ 2 c = 0) (hu : u < 2) : sp_L_tryWhy (ι c) (ι u) 0 σ = some (-200) ∧ sp_L_tryWhy (ι c) (ι u) 1 σ = some (-200) ∧ sp_L_tryWhy (ι c) (ι u) 2 σ = some (-200) ∧ sp_L_tryUse (ι c) (ι u) σ = some (-200, σ) := by
  have nu : sp_X9_needRange (ι u) 0 1 = some (.inl ()) := nrY (show (0 : Int32).toInt ≤ _ by rw [ι_toInt (by omega)]; show (0 : Int) ≤ _; omega) (show _ ≤ (1 : Int32).toInt by rw [ι_toInt (by omega)]; show _ ≤ (1 : Int); omega)
  refine ⟨?_, ?_, ?_, ?_⟩
  · unfold sp_L_tryWhy sp_X9_why
    rw [nc9 c hc, bxl, nu, bxl, show sp_X9_needRange 0 0 2 = some (.inl ()) from rfl, bxl, wat9n hc g, bxr, bc1r, if_neg (by decide), if_neg (by decide), if_pos rfl]
  · unfold sp_L_tryWhy sp_X9_why
    rw [nc9 c hc, bxl, nu, bxl, show sp_X9_needRange 1 0 2 = some (.inl ()) from rfl, bxl, wat9n hc g, bxr, bc1r, if_neg (by decide), if_neg (by decide), if_pos rfl]
  · unfold sp_L_tryWhy sp_X9_why
    rw [nc9 c hc, bxl, nu, bxl, show sp_X9_needRange 2 0 2 = some (.inl ()) from rfl, bxl, wat9n hc g, bxr, bc1r, if_neg (by decide), if_neg (by decide), if_pos rfl]
  · unfold sp_L_tryUse sp_X9_use
    rw [nc9 c hc, bxl, nu, bxl, wat9n hc g, bxr, bc2r, if_neg (by decide), if_neg (by decide), if_pos rfl]
/-- what use takes -/
theorem use9 {nS nM hr : Nat} {B : Int} {σ δ : St} (h : Iv nS nM hr B σ δ) {c u : Nat} (hc : c < 24) (g : σ 2 c = 0) (hu : u < 2) {n : Int32} (hn : sp_X7_howMany (ι c) (ι u) σ = some n) :
    (¬ n ≤ 0 → sp_L_tryUse (ι c) (ι u) σ = some (-200, σ)) ∧ (n ≤ 0 → ∃ x σ', sp_L_tryUse (ι c) (ι u) σ = some (x, σ') ∧ x = (if u = 0 then σ 4 c else 9 * σ 4 c / 10) ∧ Iv nS nM hr B σ' δ ∧ σ' 4 c = σ 4 c - x ∧ 0 ≤ x.toInt) := by
  have nu : sp_X9_needRange (ι u) 0 1 = some (.inl ()) := nrY (show (0 : Int32).toInt ≤ _ by rw [ι_toInt (by omega)]; show (0 : Int) ≤ _; omega) (show _ ≤ (1 : Int32).toInt by rw [ι_toInt (by omega)]; show _ ≤ (1 : Int); omega)
  have b4 := h.1.2.b4 hc
  constructor
  · intro q
    unfold sp_L_tryUse sp_X9_use
    rw [nc9 c hc, bxl, nu, bxl, wat9 hc g, bxl, hn, b1s, if_neg q, bc2r, if_neg (by decide), if_neg (by decide), if_pos rfl]
  · intro q
    have z0 : (0 : Int32).toInt = 0 := rfl
    rcases (show u = 0 ∨ u = 1 by omega) with rfl | rfl
    · refine ⟨σ 4 c, stU (stU σ 4 c 0) 23 5 (σ 23 5 + σ 4 c), ?_, (if_pos rfl).symm, U_use h hc g (σ 4 c) 0 (by omega) (by omega) (by rw [z0]; omega) (Or.inl rfl), ?_, by omega⟩
      · unfold sp_L_tryUse sp_X9_use sp_X0_disperse
        rw [nc9 c hc, bxl, nu, bxl, wat9 hc g, bxl, hn, b1s, if_pos q, if_pos (by decide), ix hc (by omega), ι_nat (by omega), sls, ix2 hc (by omega), sls, sls, b2s, bc2l, stU_k (by decide)]
      · rw [stU_k (by decide), stU_same, Int32.sub_self]
    · have m9 : (σ 4 c * 9).toInt = (σ 4 c).toInt * 9 := t_mul (by show _ ≤ _ * (9 : Int); omega) (by show _ * (9 : Int) ≤ _; omega)
      have d9 : (σ 4 c * 9 / 10).toInt = (σ 4 c).toInt * 9 / 10 := by rw [t_div (by omega) (by decide), m9]; rfl
      have s9 : (σ 4 c - σ 4 c * 9 / 10).toInt = (σ 4 c).toInt - (σ 4 c * 9 / 10).toInt := t_sub (by omega) (by omega)
      refine ⟨σ 4 c * 9 / 10, stU (stU σ 4 c (σ 4 c - σ 4 c * 9 / 10)) 23 6 (σ 23 6 + σ 4 c * 9 / 10), ?_, ?_, U_use h hc g (σ 4 c * 9 / 10) (σ 4 c - σ 4 c * 9 / 10) (by omega) (by omega) s9 (Or.inr rfl), ?_, by omega⟩
      · unfold sp_L_tryUse sp_X9_use sp_X0_burn
        rw [nc9 c hc, bxl, nu, bxl, wat9 hc g, bxl, hn, b1s, if_pos q, if_neg (by decide), ix hc (by omega), ι_nat (by omega), sls, ix2 hc (by omega), ix2 hc (by omega), sls, sls, b2s, bc2l, stU_k (by decide)]
      · rw [if_neg (by decide), Int32.mul_comm]
      · rw [stU_k (by decide), stU_same]
