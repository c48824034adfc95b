/-! rules -/
theorem kindB {nS nM hr : Nat} {σ μ : St} (i0 : I0 nS nM hr σ) (e3 : ∀ d, d < 24 → μ 3 d = σ 2 d) {c : Nat} (hc : c < 24) {u lo : Int32} (hu : (u = 0 ∧ lo = 3) ∨ (u = 1 ∧ lo = 1)) :
    ∀ (j w n n' : Nat) (acc : Int32), w + j = 4 → j < n → j < n' → (acc = 0 ∨ acc = 1) → ∃ b : Int32, (b = 0 ∨ b = 1) ∧ sp_X2_isKindBeside_3 σ (ι c) lo 3 n (ι w) = some b ∧ sp_X10_isAgainst_192 μ (ι c) u n' acc (ι w) = some (if b = 0 then acc else 1) := by
  intro j
  induction j with
  | zero =>
    intro w n n' acc h1 h2 h3 ha
    obtain ⟨n, rfl⟩ : ∃ q, n = q + 1 := ⟨n - 1, by omega⟩
    obtain ⟨n', rfl⟩ : ∃ q, n' = q + 1 := ⟨n' - 1, by omega⟩
    have ew : w = 4 := by omega
    subst ew
    exact ⟨0, Or.inl rfl, by rw [sp_X2_isKindBeside_3, if_pos (by decide)], by rw [sp_X10_isAgainst_192, if_pos (by decide), if_pos ha, if_pos rfl]⟩
  | succ j ih =>
    intro w n n' acc h1 h2 h3 ha
    obtain ⟨n, rfl⟩ : ∃ q, n = q + 1 := ⟨n - 1, by omega⟩
    obtain ⟨n', rfl⟩ : ∃ q, n' = q + 1 := ⟨n' - 1, by omega⟩
    have hw : w < 4 := by omega
    have q9 : ¬ (3 : Int32) < ι w := by rw [show (3 : Int32) = ι 3 from rfl, ι_lt (by omega) (by omega)]; omega
    have q10 : ¬ (4 : Int32) ≤ ι w := by rw [show (4 : Int32) = ι 4 from rfl, ι_le (by omega) (by omega)]; omega
    have or0 : acc ||| 0 = acc := Int32.or_zero
    have or1 : acc ||| 1 = 1 := by rcases ha with rfl | rfl <;> rfl
    obtain ⟨b, hb, b9, b10⟩ := ih (w + 1) n n' acc (by omega) (by omega) (by omega) ha
    obtain ⟨d1, hd1, -, d10⟩ := ih (w + 1) n n' 1 (by omega) (by omega) (by omega) (Or.inr rfl)
    have d10' : sp_X10_isAgainst_192 μ (ι c) u n' 1 (ι (w + 1)) = some 1 := by
      rw [d10]
      by_cases z : d1 = 0
      · rw [if_pos z]
      · rw [if_neg z]
    rw [sp_X2_isKindBeside_3, sp_X10_isAgainst_192, if_neg q9, if_neg q10, bs9 c hc w hw, bs10 c hc w hw, b1s, b1s]
    cases hbs : bs c w with
    | none =>
      rw [show oI none = -1 from rfl, if_pos rfl, if_pos rfl, sls, or0, ι_one]
      exact ⟨b, hb, b9, b10⟩
    | some d =>
      have hd := bs_lt hc hw hbs
      obtain ⟨k, hk, ek⟩ := i0.2.2.2.2.2.1 d hd
      rw [show oI (some d) = ι d from rfl, if_neg (oI_ne hd), if_neg (oI_ne hd)]
      simp only [ι_nat (show d < 100000 by omega), ix2 hd (show 24 < 100000 by omega), e3 d hd, ek, sls, or0, or1, ι_one]
      have yes : (1 : Int32) = 0 ∨ (1 : Int32) = 1 := Or.inr rfl
      rcases hu with ⟨rfl, rfl⟩ | ⟨rfl, rfl⟩
      · rcases (show k = 3 ∨ k = 0 ∨ k = 1 ∨ k = 2 by omega) with rfl | rfl | rfl | rfl
        · refine ⟨1, yes, ?_, ?_⟩
          · rw [if_neg (by decide), if_neg (by decide)]
          · rw [if_pos rfl, if_pos (by decide), d10', if_neg (by decide)]
        all_goals
          refine ⟨b, hb, ?_, ?_⟩
          · rw [if_pos (by decide), b9]
          · rw [if_pos rfl, if_neg (by decide), b10]
      · rcases (show k = 0 ∨ k = 1 ∨ k = 2 ∨ k = 3 by omega) with rfl | rfl | rfl | rfl
        · refine ⟨b, hb, ?_, ?_⟩
          · rw [if_pos (by decide), b9]
          · rw [if_neg (by decide), if_pos (by decide), b10]
        all_goals
          refine ⟨1, yes, ?_, ?_⟩
          · rw [if_neg (by decide), if_neg (by decide)]
          · rw [if_neg (by decide), if_neg (by decide), d10', if_neg (by decide)]
/-- the two numbers of a test -/
def tst (P : Prop) [Decidable P] : Int32 := if P then 0 else 1
theorem tst01 (P : Prop) [Decidable P] : tst P = 0 ∨ tst P = 1 := by
  unfold tst
  by_cases h : P
  · rw [if_pos h]; exact Or.inl rfl
  · rw [if_neg h]; exact Or.inr rfl
theorem tst_s (P : Prop) [Decidable P] : (if P then (some (0 : Int32)) else some 1) = some (tst P) := by
  unfold tst
  by_cases h : P
  · rw [if_pos h, if_pos h]
  · rw [if_neg h, if_neg h]
theorem isAg {nS nM hr : Nat} {σ δ μ : St} {π : St × Int64} (h : RR nS nM hr σ δ π μ) {c : Nat} (hc : c < 24) (g : σ 2 c = 0) {u : Int32} (hu : u = 0 ∨ u = 1) : ∃ b : Nat → Int32, (∀ r, b r = 0 ∨ b r = 1) ∧ ∀ r, 1 ≤ r → r ≤ 5 → sp_X7_isAgainst (ι r) (ι c) u σ = some (b r) ∧ sp_X10_isAgainst (ι c) u (ι r) μ = some (b r) := by
  have key : ∀ r, 1 ≤ r → r ≤ 5 → ∃ b : Int32, (b = 0 ∨ b = 1) ∧ sp_X7_isAgainst (ι r) (ι c) u σ = some b ∧ sp_X10_isAgainst (ι c) u (ι r) μ = some b := by
    intro r r1 r5
    have hR := h.1.1
    have e3 : μ 4 c = σ 3 c := by have := h.2.2.2.2.1 c hc; rw [if_pos g] at this; exact this.symm
    have e4 : μ 1 c = σ 4 c := (hR 4 c hc).symm
    have e5 : μ 1 (24 + c) = σ 5 c := (hR 5 c hc).symm
    have e06 : μ 0 6 = σ 0 6 := (hR 0 6 (Or.inr (Or.inr rfl))).symm
    have e168 : μ 1 168 = σ 0 4 := (hR 0 4 (Or.inl rfl)).symm
    have e170 : μ 1 170 = σ 23 1 := (hR 23 1 ⟨trivial, by decide⟩).symm
    have n170 : (170 : Int32).toNatClampNeg = 170 := by decide
    have x1 : (1 : Int32) = 0 ∨ (1 : Int32) = 1 := Or.inr rfl
    have ixs : ∀ {α : Type} {A B : α}, (if ι c < 0 ∨ 24 ≤ c then A else B) = B := fun {α A B} => ix2 hc (by omega)
    have r2 : ∀ y : Int32, ∃ b : Int32, (b = 0 ∨ b = 1) ∧ sp_X7_isAgainst_111 σ y = some b ∧ (if σ 23 1 = (-1 : Int32) then (some (1 : Int32)) else (if (σ 0 4 - σ 23 1) ≤ y then (some (0 : Int32)) else (some (1 : Int32)))) = some b := by
      intro y
      unfold sp_X7_isAgainst_111 sp_X0_hasLeakedWithin
      by_cases q : σ 23 1 = -1
      · exact ⟨1, Or.inr rfl, by rw [if_pos q, b1s, if_pos rfl], by rw [if_pos q]⟩
      · by_cases q2 : y < σ 0 4 - σ 23 1
        · have q3 : ¬ σ 0 4 - σ 23 1 ≤ y := by rw [Int32.le_iff_toInt_le]; rw [Int32.lt_iff_toInt_lt] at q2; omega
          exact ⟨1, Or.inr rfl, by rw [if_neg q, if_pos q2, b1s, if_pos rfl], by rw [if_neg q, if_neg q3]⟩
        · have q3 : σ 0 4 - σ 23 1 ≤ y := by rw [Int32.le_iff_toInt_le]; rw [Int32.lt_iff_toInt_lt] at q2; omega
          exact ⟨0, Or.inl rfl, by rw [if_neg q, if_neg q2, b1s, if_neg (by decide)], by rw [if_neg q, if_pos q3]⟩
    have r5' : ∀ lo : Int32, (u = 0 ∧ lo = 3) ∨ (u = 1 ∧ lo = 1) → ∃ b : Int32, (b = 0 ∨ b = 1) ∧ sp_X7_isAgainst_200 σ (ι c) lo = some b ∧ sp_X10_isAgainst_192 μ (ι c) u 200 0 0 = some b := by
      intro lo hlo
      obtain ⟨b, hb, b9, b10⟩ := kindB h.1.2.2.1 (fun d hd => (hR 2 d hd).symm) hc hlo 4 0 200 200 0 (by omega) (by omega) (by omega) (Or.inl rfl)
      have eb : (if b = 0 then (0 : Int32) else 1) = b := by rcases hb with rfl | rfl <;> rfl
      rw [eb] at b10
      refine ⟨b, hb, ?_, b10⟩
      unfold sp_X7_isAgainst_200 sp_X2_isKindBeside
      rw [show sp_X2_isKindBeside_3 σ (ι c) lo 3 200 0 = some b from b9, b1s, if_pos hb]
    unfold sp_X7_isAgainst sp_X10_isAgainst
    rcases hu with rfl | rfl
    · rw [if_pos rfl, if_pos rfl]
      unfold sp_X7_isAgainst_9 sp_X10_isAgainst_11
      simp only [ι_nat (show c < 100000 by omega), ι_nat (show 24 + c < 100000 by omega), ixs, i0, i24, ix2 (show c < 174 by omega) (show 174 < 100000 by omega), ix2 (show 24 + c < 174 by omega) (show 174 < 100000 by omega), n168, n170, e3, e4, e5, e06, e168, e170, tst_s, eq_true (rfl : (0 : Int32) = 0), ite_T, eq_false (by decide : ¬ (1 : Int32) = 0), ite_F]
      rcases (show r = 1 ∨ r = 2 ∨ r = 3 ∨ r = 4 ∨ r = 5 by omega) with rfl | rfl | rfl | rfl | rfl
      · exact ⟨_, tst01 _, if_pos (by decide), if_pos (by decide)⟩
      · rw [if_neg (by decide), if_pos (by decide), if_neg (by decide), if_pos (by decide)]
        have q := r2 72
        rw [tst_s] at q
        exact q
      · rw [if_neg (by decide), if_neg (by decide), if_pos (by decide), if_neg (by decide), if_neg (by decide), if_pos (by decide)]
        exact ⟨_, tst01 _, rfl, rfl⟩
      · rw [if_neg (by decide), if_neg (by decide), if_neg (by decide), if_pos (by decide), if_neg (by decide), if_neg (by decide), if_neg (by decide), if_pos (by decide)]
        exact ⟨_, tst01 _, rfl, rfl⟩
      · rw [if_neg (by decide), if_neg (by decide), if_neg (by decide), if_neg (by decide), if_neg (by decide), if_neg (by decide), if_neg (by decide), if_neg (by decide)]
        exact r5' 3 (Or.inl ⟨rfl, rfl⟩)
    · rw [if_neg (by decide), if_neg (by decide)]
      unfold sp_X7_isAgainst_9 sp_X10_isAgainst_11
      simp only [ι_nat (show c < 100000 by omega), ι_nat (show 24 + c < 100000 by omega), ixs, i0, i24, ix2 (show c < 174 by omega) (show 174 < 100000 by omega), ix2 (show 24 + c < 174 by omega) (show 174 < 100000 by omega), n168, n170, e3, e4, e5, e06, e168, e170, tst_s, eq_true (rfl : (0 : Int32) = 0), ite_T, eq_false (by decide : ¬ (1 : Int32) = 0), ite_F]
      rcases (show r = 1 ∨ r = 2 ∨ r = 3 ∨ r = 4 ∨ r = 5 by omega) with rfl | rfl | rfl | rfl | rfl
      · exact ⟨_, tst01 _, if_pos (by decide), if_pos (by decide)⟩
      · rw [if_neg (by decide), if_pos (by decide), if_neg (by decide), if_pos (by decide)]
        have q := r2 24
        rw [tst_s] at q
        exact q
      · rw [if_neg (by decide), if_neg (by decide), if_pos (by decide), if_neg (by decide), if_neg (by decide), if_pos (by decide)]
        exact ⟨_, tst01 _, rfl, rfl⟩
      · rw [if_neg (by decide), if_neg (by decide), if_neg (by decide), if_pos (by decide), if_neg (by decide), if_neg (by decide), if_neg (by decide), if_pos (by decide)]
        exact ⟨_, tst01 _, rfl, rfl⟩
      · rw [if_neg (by decide), if_neg (by decide), if_neg (by decide), if_neg (by decide), if_neg (by decide), if_neg (by decide), if_neg (by decide), if_neg (by decide)]
        exact r5' 1 (Or.inr ⟨rfl, rfl⟩)
  refine ⟨fun r => if hr : 1 ≤ r ∧ r ≤ 5 then Classical.choose (key r hr.1 hr.2) else 0, fun r => ?_, fun r r1 r5 => ?_⟩
  · dsimp only
    by_cases hr : 1 ≤ r ∧ r ≤ 5
    · rw [dif_pos hr]; exact (Classical.choose_spec (key r hr.1 hr.2)).1
    · rw [dif_neg hr]; exact Or.inl rfl
  · dsimp only
    rw [dif_pos ⟨r1, r5⟩]; exact (Classical.choose_spec (key r r1 r5)).2
def mny (y b : Int32) : Int32 := if b = 0 then y else y + 1
theorem rul {σ μ : St} {c u : Int32} {b : Nat → Int32} (hb : ∀ r, b r = 0 ∨ b r = 1) (hh : ∀ r, 1 ≤ r → r ≤ 5 → sp_X7_isAgainst (ι r) c u σ = some (b r) ∧ sp_X10_isAgainst c u (ι r) μ = some (b r)) :
    ∃ f l m : Int32, sp_X7_first c u σ = some f ∧ sp_X10_rules c u 0 μ = some f ∧ sp_X7_last c u σ = some l ∧ sp_X10_rules c u 1 μ = some l ∧ sp_X7_howMany c u σ = some m ∧ sp_X10_rules c u 2 μ = some m ∧ (m ≤ 0 ↔ m = 0) := by
  have F : ∀ r n, 1 ≤ r → r ≤ 5 → sp_X7_first_2 σ c u (n + 1) (ι r) = if b r = 0 then sp_X7_first_2 σ c u n (ι (r + 1)) else some (ι r) := by
    intro r n r1 r5
    rw [sp_X7_first_2, if_neg (by rw [show (5 : Int32) = ι 5 from rfl, ι_lt (by omega) (by omega)]; omega), (hh r r1 r5).1, b1s, ι_one]
  have F6 : sp_X7_first_2 σ c u 195 (ι 6) = some 0 := by rw [show (195 : Nat) = 194 + 1 from rfl, sp_X7_first_2, if_pos (by decide)]
  have L : ∀ r n, 1 ≤ r → r ≤ 5 → sp_X7_last_2 σ c u (n + 1) (ι r) = if b r = 0 then sp_X7_last_2 σ c u n (ι (r - 1)) else some (ι r) := by
    intro r n r1 r5
    rw [sp_X7_last_2, if_neg (by rw [show (1 : Int32) = ι 1 from rfl, ι_lt (by omega) (by omega)]; omega), (hh r r1 r5).1, b1s]
    have : ι r + (-1) = ι (r - 1) := by rcases (show r = 1 ∨ r = 2 ∨ r = 3 ∨ r = 4 ∨ r = 5 by omega) with rfl | rfl | rfl | rfl | rfl <;> rfl
    rw [this]
  have L0 : sp_X7_last_2 σ c u 195 (ι 0) = some 0 := by rw [show (195 : Nat) = 194 + 1 from rfl, sp_X7_last_2, if_pos (by decide)]
  have M : ∀ r n y, 1 ≤ r → r ≤ 5 → sp_X7_howMany_5 σ c u (n + 1) y (ι r) = sp_X7_howMany_5 σ c u n (mny y (b r)) (ι (r + 1)) := by
    intro r n y r1 r5
    rw [sp_X7_howMany_5, if_neg (by rw [show (5 : Int32) = ι 5 from rfl, ι_lt (by omega) (by omega)]; omega), (hh r r1 r5).1, b1s, ι_one]
    unfold mny
    by_cases q : b r = 0
    · rw [if_pos q, if_pos q]
    · rw [if_neg q, if_neg q]
  have M6 : ∀ y, sp_X7_howMany_5 σ c u 195 y (ι 6) = some y := by intro y; rw [show (195 : Nat) = 194 + 1 from rfl, sp_X7_howMany_5, if_pos (by decide)]
  have R : ∀ w r n y4 y5 y6, 1 ≤ r → r ≤ 5 → sp_X10_rules_12 μ c u w (n + 1) y4 y5 y6 (ι r) = sp_X10_rules_12 μ c u w n (if b r = 0 then y4 else if y4 = 0 then ι r else y4) (if b r = 0 then y5 else ι r) (mny y6 (b r)) (ι (r + 1)) := by
    intro w r n y4 y5 y6 r1 r5
    rw [sp_X10_rules_12, if_neg (by rw [show (6 : Int32) = ι 6 from rfl, ι_le (by omega) (by omega)]; omega), (hh r r1 r5).2, b1s, ι_one]
    unfold mny
    by_cases q : b r = 0
    · rw [if_pos q, if_pos q, if_pos q, if_pos q]
    · rw [if_neg q, if_neg q, if_neg q, if_neg q]
      by_cases q4 : y4 = 0
      · rw [if_pos q4, if_pos q4]
      · rw [if_neg q4, if_neg q4]
  have R6 : ∀ w y4 y5 y6, sp_X10_rules_12 μ c u w 195 y4 y5 y6 (ι 6) = (if w = 0 then (some y4) else (if w = (1 : Int32) then (some y5) else (some y6))) := by intro w y4 y5 y6; rw [show (195 : Nat) = 194 + 1 from rfl, sp_X10_rules_12, if_pos (by decide)]
  have f0 : sp_X7_first c u σ = some (if b 1 = 0 then (if b 2 = 0 then (if b 3 = 0 then (if b 4 = 0 then (if b 5 = 0 then 0 else ι 5) else ι 4) else ι 3) else ι 2) else ι 1) := by
    show sp_X7_first_2 σ c u (199 + 1) (ι 1) = _
    rw [F 1 199 (by omega) (by omega), F 2 198 (by omega) (by omega), F 3 197 (by omega) (by omega), F 4 196 (by omega) (by omega), F 5 195 (by omega) (by omega), F6]
    rcases hb 1 with e1 | e1 <;> rcases hb 2 with e2 | e2 <;> rcases hb 3 with e3 | e3 <;> rcases hb 4 with e4 | e4 <;> rcases hb 5 with e5 | e5 <;> simp only [e1, e2, e3, e4, e5, i00, i10, ite_T, ite_F]
  have l0 : sp_X7_last c u σ = some (if b 5 = 0 then (if b 4 = 0 then (if b 3 = 0 then (if b 2 = 0 then (if b 1 = 0 then 0 else ι 1) else ι 2) else ι 3) else ι 4) else ι 5) := by
    show sp_X7_last_2 σ c u (199 + 1) (ι 5) = _
    rw [L 5 199 (by omega) (by omega), L 4 198 (by omega) (by omega), L 3 197 (by omega) (by omega), L 2 196 (by omega) (by omega), L 1 195 (by omega) (by omega), L0]
    rcases hb 1 with e1 | e1 <;> rcases hb 2 with e2 | e2 <;> rcases hb 3 with e3 | e3 <;> rcases hb 4 with e4 | e4 <;> rcases hb 5 with e5 | e5 <;> simp only [e1, e2, e3, e4, e5, i00, i10, ite_T, ite_F]
  have m0 : sp_X7_howMany c u σ = some (mny (mny (mny (mny (mny 0 (b 1)) (b 2)) (b 3)) (b 4)) (b 5)) := by
    show sp_X7_howMany_5 σ c u (199 + 1) 0 (ι 1) = _
    rw [M 1 199 _ (by omega) (by omega), M 2 198 _ (by omega) (by omega), M 3 197 _ (by omega) (by omega), M 4 196 _ (by omega) (by omega), M 5 195 _ (by omega) (by omega), M6]
  have rr : ∀ w, sp_X10_rules c u w μ = (if w = 0 then some (if b 1 = 0 then (if b 2 = 0 then (if b 3 = 0 then (if b 4 = 0 then (if b 5 = 0 then 0 else ι 5) else ι 4) else ι 3) else ι 2) else ι 1) else (if w = (1 : Int32) then some (if b 5 = 0 then (if b 4 = 0 then (if b 3 = 0 then (if b 2 = 0 then (if b 1 = 0 then 0 else ι 1) else ι 2) else ι 3) else ι 4) else ι 5) else some (mny (mny (mny (mny (mny 0 (b 1)) (b 2)) (b 3)) (b 4)) (b 5)))) := by
    intro w
    show sp_X10_rules_12 μ c u w (199 + 1) 0 0 0 (ι 1) = _
    rw [R w 1 199 _ _ _ (by omega) (by omega), R w 2 198 _ _ _ (by omega) (by omega), R w 3 197 _ _ _ (by omega) (by omega), R w 4 196 _ _ _ (by omega) (by omega), R w 5 195 _ _ _ (by omega) (by omega), R6]
    have n1 : (ι 1 = 0) = False := eq_false (by decide)
    have n2 : (ι 2 = 0) = False := eq_false (by decide)
    have n3 : (ι 3 = 0) = False := eq_false (by decide)
    have n4 : (ι 4 = 0) = False := eq_false (by decide)
    rcases hb 1 with e1 | e1 <;> rcases hb 2 with e2 | e2 <;> rcases hb 3 with e3 | e3 <;> rcases hb 4 with e4 | e4 <;> rcases hb 5 with e5 | e5 <;> simp only [e1, e2, e3, e4, e5, i00, i10, ite_T, ite_F, n1, n2, n3, n4]
  refine ⟨_, _, _, f0, (rr 0).trans (if_pos rfl), l0, (rr 1).trans ((if_neg (by decide)).trans (if_pos rfl)), m0, (rr 2).trans ((if_neg (by decide)).trans (if_neg (by decide))), ?_⟩
  rcases hb 1 with e1 | e1 <;> rcases hb 2 with e2 | e2 <;> rcases hb 3 with e3 | e3 <;> rcases hb 4 with e4 | e4 <;> rcases hb 5 with e5 | e5 <;> rw [e1, e2, e3, e4, e5] <;> decide
