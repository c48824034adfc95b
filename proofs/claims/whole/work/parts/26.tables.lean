/-! cells, ways, borders -/
def bs (c w : Nat) : Option Nat := match w with
  | 0 => if c % 6 < 5 then some (c + 1) else none
  | 1 => if 0 < c % 6 then some (c - 1) else none
  | 2 => if c < 18 then some (c + 6) else none
  | _ => if 6 ≤ c then some (c - 6) else none
def op (w : Nat) : Nat := match w with
  | 0 => 1
  | 1 => 0
  | 2 => 3
  | _ => 2
def oI : Option Nat → Int32
  | none => -1
  | some c => ι c
theorem bs9 : ∀ c, c < 24 → ∀ w, w < 4 → sp_X2_beside (ι c) (ι w) = some (oI (bs c w)) := by decide +kernel
theorem bs10 : ∀ c, c < 24 → ∀ w, w < 4 → sp_X10_beside (ι c) (ι w) = some (oI (bs c w)) := by decide +kernel
theorem op9 : ∀ w, w < 4 → sp_X2_opposite (ι w) = some (ι (op w)) := by decide +kernel
theorem op10 : ∀ w, w < 4 → ι w ^^^ 1 = ι (op w) := by decide +kernel
theorem op_lt : ∀ w, w < 4 → op w < 4 := by decide
theorem bs_lt' : ∀ c, c < 24 → ∀ w, w < 4 → (bs c w).all (fun d => Nat.blt d 24) = true := by decide +kernel
theorem bs_lt {c w d : Nat} (hc : c < 24) (hw : w < 4) (h : bs c w = some d) : d < 24 := by
  have := bs_lt' c hc w hw
  rw [h] at this
  exact Nat.le_of_ble_eq_true this
theorem bs_ne : ∀ c, c < 24 → ∀ w, w < 4 → bs c w ≠ some c := by decide +kernel
theorem bs_op : ∀ c, c < 24 → ∀ w, w < 4 → ∀ d, d < 24 → (bs c w = some d ↔ bs d (op w) = some c) := by decide +kernel
def bor (c w : Nat) : Nat := if w = 1 ∨ w = 3 then (match bs c w with | none => 4 * c + w | some d => 4 * d + w - 1) else 4 * c + w
theorem bor10 : ∀ c, c < 24 → ∀ w, w < 4 → sp_X10_borderOf (ι c) (ι w) = some (ι (bor c w)) := by decide +kernel
theorem bor_b : ∀ c, c < 24 → ∀ w, w < 4 → ((List.range 24).all fun d => (List.range 4).all fun v => (bor d v == bor c w) == ((d == c && v == w) || (bs c w == some d && v == op w))) = true := by decide +kernel
theorem bor_iff {c w d v : Nat} (hc : c < 24) (hw : w < 4) (hd : d < 24) (hv : v < 4) : bor d v = bor c w ↔ (d = c ∧ v = w) ∨ (bs c w = some d ∧ v = op w) := by
  have h := bor_b c hc w hw
  have h1 := List.all_eq_true.mp h d (List.mem_range.mpr hd)
  have h2 := List.all_eq_true.mp h1 v (List.mem_range.mpr hv)
  have h3 := eq_of_beq h2
  constructor
  · intro e
    rw [beq_iff_eq.mpr e] at h3
    have h4 := h3.symm
    rw [Bool.or_eq_true, Bool.and_eq_true, Bool.and_eq_true, beq_iff_eq, beq_iff_eq, beq_iff_eq, beq_iff_eq] at h4
    exact h4
  · intro e
    rw [← beq_iff_eq, h3, Bool.or_eq_true, Bool.and_eq_true, Bool.and_eq_true, beq_iff_eq, beq_iff_eq, beq_iff_eq, beq_iff_eq]
    exact e
theorem bor_lt : ∀ c, c < 24 → ∀ w, w < 4 → bor c w < 96 := by decide +kernel
theorem oI_ne {d : Nat} (h : d < 24) : ¬ ι d = -1 := by
  intro e
  have := congrArg Int32.toInt e
  rw [ι_toInt (by omega), show (-1 : Int32).toInt = -1 from rfl] at this
  omega
theorem isWater9 {c : Nat} (hc : c < 24) (σ : St) : sp_X2_isWater (ι c) σ = some (if σ 2 c = 0 then 1 else 0) := by
  unfold sp_X2_isWater
  rw [ix hc (by omega), ι_nat (by omega)]
  by_cases h : σ 2 c = 0
  · rw [if_pos h, if_pos h]
  · rw [if_neg h, if_neg h]
/-- the lowest water beside -/
def lowS (κ : Nat → Int32) (c w : Nat) (y : Option Nat) : Option Nat := match bs c w with
  | none => y
  | some d => if κ d = 0 then (match y with | none => some d | some e => if e ≤ d then some e else some d) else y
def low (κ : Nat → Int32) (c : Nat) : Option Nat := lowS κ c 3 (lowS κ c 2 (lowS κ c 1 (lowS κ c 0 none)))
def okO (y : Option Nat) : Prop := ∀ d, y = some d → d < 24
theorem lowS_ok {κ : Nat → Int32} {c w : Nat} {y : Option Nat} (hc : c < 24) (hw : w < 4) (hy : okO y) : okO (lowS κ c w y) := by
  unfold lowS
  cases hb : bs c w with
  | none => exact hy
  | some d =>
    have hd := bs_lt hc hw hb
    dsimp only
    by_cases h : κ d = 0
    · rw [if_pos h]
      cases y with
      | none => intro e he; cases he; exact hd
      | some e =>
        dsimp only
        by_cases h2 : e ≤ d
        · rw [if_pos h2]; exact hy
        · rw [if_neg h2]; intro e he; cases he; exact hd
    · rw [if_neg h]; exact hy
theorem low_ok {κ : Nat → Int32} {c : Nat} (hc : c < 24) : okO (low κ c) := by
  unfold low
  exact lowS_ok hc (by omega) (lowS_ok hc (by omega) (lowS_ok hc (by omega) (lowS_ok hc (by omega) (fun d h => by cases h))))
theorem low9_s {σ : St} {c w n : Nat} {y : Option Nat} (hc : c < 24) (hw : w < 4) (hy : okO y) : sp_X2_lowestWaterBeside_4 σ (ι c) (n + 1) (oI y) (ι w) = sp_X2_lowestWaterBeside_4 σ (ι c) n (oI (lowS (σ 2) c w y)) (ι (w + 1)) := by
  rw [sp_X2_lowestWaterBeside_4, show (3 : Int32) = ι 3 from rfl, if_neg (by rw [ι_lt (by omega) (by omega)]; omega), bs9 c hc w hw]
  simp only [b1]
  unfold lowS
  cases hb : bs c w with
  | none => rw [show oI none = -1 from rfl, if_pos rfl, ι_one]
  | some d =>
    have hd := bs_lt hc hw hb
    rw [show oI (some d) = ι d from rfl, if_neg (oI_ne hd), isWater9 hd]
    dsimp only
    by_cases h : σ 2 d = 0
    · rw [if_pos h, if_pos h]
      rw [if_neg (show ¬ (1 : Int32) = 0 by decide)]
      cases y with
      | none => rw [show oI none = -1 from rfl, if_pos rfl, ι_one]; rfl
      | some e =>
        have he := hy e rfl
        rw [show oI (some e) = ι e from rfl, if_neg (oI_ne he)]
        dsimp only
        by_cases h2 : e ≤ d
        · rw [if_pos ((ι_le (by omega) (by omega)).mpr h2), if_pos h2, ι_one]; rfl
        · rw [if_neg (fun q => h2 ((ι_le (by omega) (by omega)).mp q)), if_neg h2, ι_one]; rfl
    · rw [if_neg h, if_neg h]
      rw [if_pos rfl, ι_one]
theorem low9 {σ : St} {c : Nat} (hc : c < 24) : sp_X2_lowestWaterBeside (ι c) σ = some (oI (low (σ 2) c)) := by
  have h0 : okO none := fun d h => by cases h
  have h1 := lowS_ok (κ := σ 2) (w := 0) hc (by omega) h0
  have h2 := lowS_ok (κ := σ 2) (w := 1) hc (by omega) h1
  have h3 := lowS_ok (κ := σ 2) (w := 2) hc (by omega) h2
  exact (low9_s (n := 199) (w := 0) (y := none) hc (by omega) h0).trans ((low9_s (n := 198) (w := 1) hc (by omega) h1).trans ((low9_s (n := 197) (w := 2) hc (by omega) h2).trans ((low9_s (n := 196) (w := 3) hc (by omega) h3).trans rfl)))
theorem low10_s {μ : St} {c w n : Nat} {y : Option Nat} (hc : c < 24) (hw : w < 4) (hy : okO y) : sp_X10_lowestWater_4 μ (ι c) (n + 1) (oI y) (ι w) = sp_X10_lowestWater_4 μ (ι c) n (oI (lowS (μ 3) c w y)) (ι (w + 1)) := by
  rw [sp_X10_lowestWater_4, show (4 : Int32) = ι 4 from rfl, if_neg (by rw [ι_le (by omega) (by omega)]; omega), bs10 c hc w hw]
  simp only [b1]
  unfold lowS
  cases hb : bs c w with
  | none => rw [show oI none = -1 from rfl, if_pos rfl, ι_one]
  | some d =>
    have hd := bs_lt hc hw hb
    rw [show oI (some d) = ι d from rfl, if_neg (oI_ne hd), ix hd (by omega), ι_nat (by omega)]
    dsimp only
    by_cases h : μ 3 d = 0
    · rw [if_pos h, if_pos h]
      cases y with
      | none => rw [show oI none = -1 from rfl, if_pos rfl, ι_one]; rfl
      | some e =>
        have he := hy e rfl
        rw [show oI (some e) = ι e from rfl, if_neg (oI_ne he)]
        dsimp only
        by_cases h2 : e ≤ d
        · rw [if_pos ((ι_le (by omega) (by omega)).mpr h2), if_pos h2, ι_one]; rfl
        · rw [if_neg (fun q => h2 ((ι_le (by omega) (by omega)).mp q)), if_neg h2, ι_one]; rfl
    · rw [if_neg h, if_neg h, ι_one]
theorem low10 {μ : St} {c : Nat} (hc : c < 24) : sp_X10_lowestWater (ι c) μ = some (oI (low (μ 3) c)) := by
  have h0 : okO none := fun d h => by cases h
  have h1 := lowS_ok (κ := μ 3) (w := 0) hc (by omega) h0
  have h2 := lowS_ok (κ := μ 3) (w := 1) hc (by omega) h1
  have h3 := lowS_ok (κ := μ 3) (w := 2) hc (by omega) h2
  exact (low10_s (n := 199) (w := 0) (y := none) hc (by omega) h0).trans ((low10_s (n := 198) (w := 1) hc (by omega) h1).trans ((low10_s (n := 197) (w := 2) hc (by omega) h2).trans ((low10_s (n := 196) (w := 3) hc (by omega) h3).trans rfl)))
theorem low_congr {κ ξ : Nat → Int32} (h : ∀ c, c < 24 → κ c = ξ c) {c : Nat} (hc : c < 24) : low κ c = low ξ c := by
  have s : ∀ w, w < 4 → ∀ y, lowS κ c w y = lowS ξ c w y := by
    intro w hw y
    unfold lowS
    cases hb : bs c w with
    | none => rfl
    | some d => dsimp only; rw [h d (bs_lt hc hw hb)]
  unfold low
  rw [s 0 (by omega), s 1 (by omega), s 2 (by omega), s 3 (by omega)]
