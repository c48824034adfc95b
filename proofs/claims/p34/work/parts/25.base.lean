/-! PURE PART: the class alone, no machine any more -/
/-- the Int32 of a place -/
def ι (c : Nat) : Int32 := Int32.ofNat c
theorem ι_toInt {c : Nat} (h : c < 100000) : (ι c).toInt = (c : Int) := by
  unfold ι
  rw [Int32.toInt_ofNat_of_lt (by omega)]
theorem ι_nat {c : Nat} (h : c < 100000) : (ι c).toNatClampNeg = c := by
  have := ι_toInt h
  rw [Int32.toNatClampNeg, this]
  rfl
theorem ι_add (a b : Nat) : ι a + ι b = ι (a + b) := (Int32.ofNat_add a b).symm
theorem ι_one (a : Nat) : ι a + 1 = ι (a + 1) := ι_add a 1
theorem ι_lt {a b : Nat} (ha : a < 100000) (hb : b < 100000) : ι a < ι b ↔ a < b := by
  rw [Int32.lt_iff_toInt_lt, ι_toInt ha, ι_toInt hb]; omega
theorem ι_le {a b : Nat} (ha : a < 100000) (hb : b < 100000) : ι a ≤ ι b ↔ a ≤ b := by
  rw [Int32.le_iff_toInt_le, ι_toInt ha, ι_toInt hb]; omega
theorem ι_inj {a b : Nat} (ha : a < 100000) (hb : b < 100000) : ι a = ι b ↔ a = b := by
  rw [← Int32.toInt_inj, ι_toInt ha, ι_toInt hb]; omega
/-- an index that is in range: the test goes on -/
theorem ix {α : Type} {c n : Nat} {A B : α} (h : c < n) (hn : n < 100000) : (if ι c < 0 ∨ n ≤ (ι c).toNatClampNeg then A else B) = B := by
  refine if_neg ?_
  rw [ι_nat (by omega), show (0 : Int32) = ι 0 from rfl, ι_lt (by omega) (by omega)]
  omega
theorem of_range {x : Int32} {n : Nat} (h0 : ¬ x < 0) (h1 : ¬ (ι n ≤ x)) (hn : n < 100000) : ∃ c, c < n ∧ x = ι c := by
  rw [Int32.lt_iff_toInt_lt] at h0
  rw [Int32.le_iff_toInt_le, ι_toInt hn] at h1
  refine ⟨x.toInt.toNat, ?_, ?_⟩
  · have : (0 : Int32).toInt = 0 := rfl
    omega
  · rw [← Int32.toInt_inj, ι_toInt (by have : (0 : Int32).toInt = 0 := rfl; omega)]
    have : (0 : Int32).toInt = 0 := rfl
    omega
theorem stU_same (σ : St) (k i : Nat) (x : Int32) : stU σ k i x k i = x := by unfold stU upd; rw [if_pos rfl, if_pos rfl]
theorem stU_k {σ : St} {k i k2 i2 : Nat} {x : Int32} (h : k2 ≠ k) : stU σ k i x k2 i2 = σ k2 i2 := by unfold stU; rw [if_neg h]
theorem stU_i {σ : St} {k i i2 : Nat} {x : Int32} (h : i2 ≠ i) : stU σ k i x k i2 = σ k i2 := by unfold stU upd; rw [if_pos rfl, if_neg h]
theorem stU_ite (σ : St) (k i k2 i2 : Nat) (x : Int32) : stU σ k i x k2 i2 = if k2 = k ∧ i2 = i then x else σ k2 i2 := by
  unfold stU upd
  by_cases h : k2 = k
  · subst h
    rw [if_pos rfl]
    by_cases h2 : i2 = i
    · rw [if_pos h2, if_pos ⟨rfl, h2⟩]
    · rw [if_neg h2, if_neg (fun e => h2 e.2)]
  · rw [if_neg h, if_neg (fun e => h e.1)]
theorem stU_self (σ : St) (k i : Nat) : stU σ k i (σ k i) = σ := by
  funext a b
  rw [stU_ite]
  by_cases h : a = k ∧ b = i
  · rw [if_pos h, h.1, h.2]
  · rw [if_neg h]
theorem tb {x : Int} (h1 : -2147483648 ≤ x) (h2 : x ≤ 2147483647) : x.bmod (2 ^ 32) = x := Int.bmod_eq_of_le (by omega) (by omega)
theorem t_add {a b : Int32} (h1 : -2147483648 ≤ a.toInt + b.toInt) (h2 : a.toInt + b.toInt ≤ 2147483647) : (a + b).toInt = a.toInt + b.toInt := by
  rw [Int32.toInt_add]; exact tb h1 h2
theorem t_sub {a b : Int32} (h1 : -2147483648 ≤ a.toInt - b.toInt) (h2 : a.toInt - b.toInt ≤ 2147483647) : (a - b).toInt = a.toInt - b.toInt := by
  rw [Int32.toInt_sub]; exact tb h1 h2
theorem t_mul {a b : Int32} (h1 : -2147483648 ≤ a.toInt * b.toInt) (h2 : a.toInt * b.toInt ≤ 2147483647) : (a * b).toInt = a.toInt * b.toInt := by
  rw [Int32.toInt_mul]; exact tb h1 h2
theorem t_div {a b : Int32} (ha : 0 ≤ a.toInt) (hb : 0 < b.toInt) : (a / b).toInt = a.toInt / b.toInt := by
  rw [Int32.toInt_div, Int.tdiv_eq_ediv_of_nonneg ha]
  have h1 : a.toInt ≤ 2147483647 := Int32.toInt_le a
  have h2 := Int.ediv_le_self b.toInt ha
  have h3 := Int.ediv_nonneg ha (Int.le_of_lt hb)
  exact tb (by omega) (by omega)
theorem iMin_int (x z : Int32) : (iMin x z).toInt = min x.toInt z.toInt := by
  unfold iMin
  by_cases h : z < x
  · rw [if_pos h]
    rw [Int32.lt_iff_toInt_lt] at h
    omega
  · rw [if_neg h]
    rw [Int32.lt_iff_toInt_lt] at h
    omega
theorem iMin_comm (a b : Int32) : iMin a b = iMin b a := Int32.toInt_inj.mp (by rw [iMin_int, iMin_int]; omega)
def bs (c w : Nat) : Option Nat := match w with
  | 0 => if c % 6 < 5 then some (c + 1) else none
  | 1 => if 0 < c % 6 then some (c - 1) else none
  | 2 => if c < 18 then some (c + 6) else none
  | _ => if 6 ≤ c then some (c - 6) else none
def op (w : Nat) : Nat := match w with
  | 0 => 1
  | 1 => 0
  | 2 => 3
  | _ => 2
def oI : Option Nat → Int32
  | none => -1
  | some c => ι c
theorem bs9 : ∀ c, c < 24 → ∀ w, w < 4 → sp_X2_beside (ι c) (ι w) = some (oI (bs c w)) := by decide +kernel
theorem op9 : ∀ w, w < 4 → sp_X2_opposite (ι w) = some (ι (op w)) := by decide +kernel
theorem op_lt : ∀ w, w < 4 → op w < 4 := by decide
theorem bs_lt' : ∀ c, c < 24 → ∀ w, w < 4 → (bs c w).all (fun d => Nat.blt d 24) = true := by decide +kernel
theorem bs_lt {c w d : Nat} (hc : c < 24) (hw : w < 4) (h : bs c w = some d) : d < 24 := by
  have := bs_lt' c hc w hw
  rw [h] at this
  exact Nat.le_of_ble_eq_true this
theorem bs_ne : ∀ c, c < 24 → ∀ w, w < 4 → bs c w ≠ some c := by decide +kernel
theorem bs_op : ∀ c, c < 24 → ∀ w, w < 4 → ∀ d, d < 24 → (bs c w = some d ↔ bs d (op w) = some c) := by decide +kernel
theorem oI_ne {d : Nat} (h : d < 24) : ¬ ι d = -1 := by
  intro e
  have := congrArg Int32.toInt e
  rw [ι_toInt (by omega), show (-1 : Int32).toInt = -1 from rfl] at this
  omega
theorem isWater9 {c : Nat} (hc : c < 24) (σ : St) : sp_X2_isWater (ι c) σ = some (if σ 2 c = 0 then 1 else 0) := by
  unfold sp_X2_isWater
  rw [ix hc (by omega), ι_nat (by omega)]
  by_cases h : σ 2 c = 0
  · rw [if_pos h, if_pos h]
  · rw [if_neg h, if_neg h]
/-- the lowest water beside -/
def lowS (κ : Nat → Int32) (c w : Nat) (y : Option Nat) : Option Nat := match bs c w with
  | none => y
  | some d => if κ d = 0 then (match y with | none => some d | some e => if e ≤ d then some e else some d) else y
def low (κ : Nat → Int32) (c : Nat) : Option Nat := lowS κ c 3 (lowS κ c 2 (lowS κ c 1 (lowS κ c 0 none)))
def okO (y : Option Nat) : Prop := ∀ d, y = some d → d < 24
theorem lowS_ok {κ : Nat → Int32} {c w : Nat} {y : Option Nat} (hc : c < 24) (hw : w < 4) (hy : okO y) : okO (lowS κ c w y) := by
  unfold lowS
  cases hb : bs c w with
  | none => exact hy
  | some d =>
    have hd := bs_lt hc hw hb
    dsimp only
    by_cases h : κ d = 0
    · rw [if_pos h]
      cases y with
      | none => intro e he; cases he; exact hd
      | some e =>
        dsimp only
        by_cases h2 : e ≤ d
        · rw [if_pos h2]; exact hy
        · rw [if_neg h2]; intro e he; cases he; exact hd
    · rw [if_neg h]; exact hy
theorem low_ok {κ : Nat → Int32} {c : Nat} (hc : c < 24) : okO (low κ c) := by
  unfold low
  exact lowS_ok hc (by omega) (lowS_ok hc (by omega) (lowS_ok hc (by omega) (lowS_ok hc (by omega) (fun d h => by cases h))))
theorem low9_s {σ : St} {c w n : Nat} {y : Option Nat} (hc : c < 24) (hw : w < 4) (hy : okO y) : sp_X2_lowestWaterBeside_4 σ (ι c) (n + 1) (oI y) (ι w) = sp_X2_lowestWaterBeside_4 σ (ι c) n (oI (lowS (σ 2) c w y)) (ι (w + 1)) := by
  rw [sp_X2_lowestWaterBeside_4, show (3 : Int32) = ι 3 from rfl, if_neg (by rw [ι_lt (by omega) (by omega)]; omega), bs9 c hc w hw]
  simp only [b1]
  unfold lowS
  cases hb : bs c w with
  | none => rw [show oI none = -1 from rfl, if_pos rfl, ι_one]
  | some d =>
    have hd := bs_lt hc hw hb
    rw [show oI (some d) = ι d from rfl, if_neg (oI_ne hd), isWater9 hd]
    dsimp only
    by_cases h : σ 2 d = 0
    · rw [if_pos h, if_pos h]
      rw [if_neg (show ¬ (1 : Int32) = 0 by decide)]
      cases y with
      | none => rw [show oI none = -1 from rfl, if_pos rfl, ι_one]; rfl
      | some e =>
        have he := hy e rfl
        rw [show oI (some e) = ι e from rfl, if_neg (oI_ne he)]
        dsimp only
        by_cases h2 : e ≤ d
        · rw [if_pos ((ι_le (by omega) (by omega)).mpr h2), if_pos h2, ι_one]; rfl
        · rw [if_neg (fun q => h2 ((ι_le (by omega) (by omega)).mp q)), if_neg h2, ι_one]; rfl
    · rw [if_neg h, if_neg h]
      rw [if_pos rfl, ι_one]
theorem low9 {σ : St} {c : Nat} (hc : c < 24) : sp_X2_lowestWaterBeside (ι c) σ = some (oI (low (σ 2) c)) := by
  have h0 : okO none := fun d h => by cases h
  have h1 := lowS_ok (κ := σ 2) (w := 0) hc (by omega) h0
  have h2 := lowS_ok (κ := σ 2) (w := 1) hc (by omega) h1
  have h3 := lowS_ok (κ := σ 2) (w := 2) hc (by omega) h2
  exact (low9_s (n := 199) (w := 0) (y := none) hc (by omega) h0).trans ((low9_s (n := 198) (w := 1) hc (by omega) h1).trans ((low9_s (n := 197) (w := 2) hc (by omega) h2).trans ((low9_s (n := 196) (w := 3) hc (by omega) h3).trans rfl)))
theorem low_congr {κ ξ : Nat → Int32} (h : ∀ c, c < 24 → κ c = ξ c) {c : Nat} (hc : c < 24) : low κ c = low ξ c := by
  have s : ∀ w, w < 4 → ∀ y, lowS κ c w y = lowS ξ c w y := by
    intro w hw y
    unfold lowS
    cases hb : bs c w with
    | none => rfl
    | some d => dsimp only; rw [h d (bs_lt hc hw hb)]
  unfold low
  rw [s 0 (by omega), s 1 (by omega), s 2 (by omega), s 3 (by omega)]
theorem ix2 {α : Type} {c n : Nat} {A B : α} (h : c < n) (hn : n < 100000) : (if ι c < 0 ∨ n ≤ c then A else B) = B := by
  refine if_neg ?_
  rw [show (0 : Int32) = ι 0 from rfl, ι_lt (by omega) (by omega)]
  omega
def Sm : Nat → (Nat → Int) → Int
  | 0, _ => 0
  | n + 1, f => Sm n f + f n
theorem Sm_congr {f g : Nat → Int} : ∀ {n : Nat}, (∀ i, i < n → f i = g i) → Sm n f = Sm n g
  | 0, _ => rfl
  | n + 1, h => by
    show Sm n f + f n = Sm n g + g n
    rw [Sm_congr (fun i hi => h i (by omega)), h n (by omega)]
theorem Sm_set {f g : Nat → Int} {i : Nat} : ∀ {n : Nat}, i < n → (∀ j, j ≠ i → g j = f j) → Sm n g = Sm n f - f i + g i
  | 0, h, _ => absurd h (by omega)
  | n + 1, hi, h => by
    show Sm n g + g n = Sm n f + f n - f i + g i
    by_cases e : i = n
    · subst e
      rw [Sm_congr (f := g) (g := f) (fun j hj => h j (by omega))]
      omega
    · rw [Sm_set (f := f) (g := g) (show i < n by omega) h, h n (by omega)]
      omega
theorem Sm_nn {f : Nat → Int} : ∀ {n : Nat}, (∀ i, i < n → 0 ≤ f i) → 0 ≤ Sm n f
  | 0, _ => Int.le_refl 0
  | n + 1, h => by
    have h1 := Sm_nn (n := n) (fun i hi => h i (by omega))
    have h2 := h n (by omega)
    show 0 ≤ Sm n f + f n
    omega
theorem Sm_le {f : Nat → Int} {i : Nat} : ∀ {n : Nat}, (∀ i, i < n → 0 ≤ f i) → i < n → f i ≤ Sm n f
  | 0, _, h => absurd h (by omega)
  | n + 1, h, hi => by
    have h1 := Sm_nn (n := n) (fun i hi => h i (by omega))
    have h2 := h n (by omega)
    show f i ≤ Sm n f + f n
    by_cases e : i = n
    · subst e; omega
    · have := Sm_le (f := f) (i := i) (n := n) (fun i hi => h i (by omega)) (by omega)
      omega
/-- a row's sum -/
def rs (σ : St) (k n : Nat) : Int := Sm n (fun i => (σ k i).toInt)
theorem rs_upd {σ : St} {k i n : Nat} {x : Int32} (hi : i < n) : rs (stU σ k i x) k n = rs σ k n - (σ k i).toInt + x.toInt := by
  unfold rs
  rw [Sm_set (f := fun i => (σ k i).toInt) hi (fun j hj => by rw [stU_i hj]), stU_same]
theorem rs_oth {σ : St} {k i k2 n : Nat} {x : Int32} (h : k2 ≠ k) : rs (stU σ k i x) k2 n = rs σ k2 n := Sm_congr (fun j _ => by rw [stU_k h])
def tot (σ : St) : Int := rs σ 12 4 + rs σ 4 24 + rs σ 5 24 + rs σ 6 24
/-- what hours don't change -/
def I0 (nS nM hr : Nat) (σ : St) : Prop :=
  (hr < 3000 ∧ σ 0 4 = ι hr) ∧   (nS ≤ 4 ∧ σ 10 0 = ι nS) ∧ (nM ≤ 20 ∧ σ 14 0 = ι nM) ∧ (∃ w, w < 4 ∧ σ 0 5 = ι w) ∧ (∃ s, s < 10 ∧ σ 0 6 = ι s) ∧ (∀ c, c < 24 → ∃ k, k < 4 ∧ σ 2 c = ι k) ∧
  (∀ s, s < nS → ∃ c, c < 24 ∧ σ 11 s = ι c ∧ σ 2 c = 0) ∧ (∀ s, s < 4 → ∃ r, r < 100 ∧ σ 13 s = ι r) ∧
  (∀ m, m < nM → σ 15 m = 1 → (∃ c, c < 24 ∧ σ 16 m = ι c) ∧ (∃ p, p ≤ 500 ∧ σ 18 m = ι p) ∧ (∃ q, q ≤ 5000 ∧ σ 19 m = ι q))
/-- how much is where; K: at most so much in all -/
def I1 (nS nM : Nat) (K : Int) (σ : St) : Prop :=
  (∀ c, c < 24 → 0 ≤ (σ 4 c).toInt ∧ (¬ σ 2 c = 0 → (σ 4 c).toInt = 0)) ∧ (∀ c, c < 24 → 0 ≤ (σ 5 c).toInt ∧ (¬ σ 2 c = 0 → (σ 5 c).toInt = 0)) ∧
  (∀ c, c < 24 → 0 ≤ (σ 6 c).toInt ∧ (σ 6 c).toInt ≤ (tabH (σ 2 c)).toInt) ∧ (∀ s, s < 4 → 0 ≤ (σ 12 s).toInt ∧ (nS ≤ s → (σ 12 s).toInt = 0)) ∧
  (∀ m, m < 20 → (m < nM → σ 15 m = 1 → 0 ≤ (σ 20 m).toInt ∧ (σ 20 m).toInt ≤ (σ 19 m).toInt) ∧ (nM ≤ m → (σ 20 m).toInt = 0)) ∧ tot σ ≤ K
theorem I1.mono {nS nM : Nat} {K K2 : Int} {σ : St} (h : I1 nS nM K σ) (hk : K ≤ K2) : I1 nS nM K2 σ := ⟨h.1, h.2.1, h.2.2.1, h.2.2.2.1, h.2.2.2.2.1, Int.le_trans h.2.2.2.2.2 hk⟩
theorem pt_upd {σ : St} {k i n : Nat} {x : Int32} {P : Nat → Int32 → Prop} (h : ∀ c, c < n → P c (σ k c)) (hx : i < n → P i x) : ∀ c, c < n → P c (stU σ k i x k c) := by
  intro c hc
  by_cases e : c = i
  · subst e; rw [stU_same]; exact hx hc
  · rw [stU_i e]; exact h c hc
theorem I1.s4 {nS nM : Nat} {K : Int} {σ : St} {c : Nat} {x : Int32} (h : I1 nS nM K σ) (hc : c < 24) (h0 : 0 ≤ x.toInt) (hz : ¬ σ 2 c = 0 → x.toInt = 0) : I1 nS nM (K - (σ 4 c).toInt + x.toInt) (stU σ 4 c x) := by
  obtain ⟨a1, a2, a3, a4, a5, a6⟩ := h
  refine ⟨?_, a2, a3, a4, a5, ?_⟩
  · exact pt_upd (P := fun c v => 0 ≤ v.toInt ∧ (¬ σ 2 c = 0 → v.toInt = 0)) a1 (fun _ => ⟨h0, hz⟩)
  · unfold tot at a6 ⊢
    rw [rs_upd hc, rs_oth (by decide), rs_oth (by decide), rs_oth (by decide)]
    omega
theorem I1.s5 {nS nM : Nat} {K : Int} {σ : St} {c : Nat} {x : Int32} (h : I1 nS nM K σ) (hc : c < 24) (h0 : 0 ≤ x.toInt) (hz : ¬ σ 2 c = 0 → x.toInt = 0) : I1 nS nM (K - (σ 5 c).toInt + x.toInt) (stU σ 5 c x) := by
  obtain ⟨a1, a2, a3, a4, a5, a6⟩ := h
  refine ⟨a1, ?_, a3, a4, a5, ?_⟩
  · exact pt_upd (P := fun c v => 0 ≤ v.toInt ∧ (¬ σ 2 c = 0 → v.toInt = 0)) a2 (fun _ => ⟨h0, hz⟩)
  · unfold tot at a6 ⊢
    rw [rs_upd hc, rs_oth (by decide), rs_oth (by decide), rs_oth (by decide)]
    omega
theorem I1.s6 {nS nM : Nat} {K : Int} {σ : St} {c : Nat} {x : Int32} (h : I1 nS nM K σ) (hc : c < 24) (h0 : 0 ≤ x.toInt) (hz : x.toInt ≤ (tabH (σ 2 c)).toInt) : I1 nS nM (K - (σ 6 c).toInt + x.toInt) (stU σ 6 c x) := by
  obtain ⟨a1, a2, a3, a4, a5, a6⟩ := h
  refine ⟨a1, a2, ?_, a4, a5, ?_⟩
  · exact pt_upd (P := fun c v => 0 ≤ v.toInt ∧ v.toInt ≤ (tabH (σ 2 c)).toInt) a3 (fun _ => ⟨h0, hz⟩)
  · unfold tot at a6 ⊢
    rw [rs_upd hc, rs_oth (by decide), rs_oth (by decide), rs_oth (by decide)]
    omega
theorem I1.s12 {nS nM : Nat} {K : Int} {σ : St} {s : Nat} {x : Int32} (h : I1 nS nM K σ) (hs : s < 4) (h0 : 0 ≤ x.toInt) (hz : nS ≤ s → x.toInt = 0) : I1 nS nM (K - (σ 12 s).toInt + x.toInt) (stU σ 12 s x) := by
  obtain ⟨a1, a2, a3, a4, a5, a6⟩ := h
  refine ⟨a1, a2, a3, ?_, a5, ?_⟩
  · exact pt_upd (P := fun s v => 0 ≤ v.toInt ∧ (nS ≤ s → v.toInt = 0)) a4 (fun _ => ⟨h0, hz⟩)
  · unfold tot at a6 ⊢
    rw [rs_upd hs, rs_oth (by decide), rs_oth (by decide), rs_oth (by decide)]
    omega
theorem I1.s20 {nS nM : Nat} {K : Int} {σ : St} {m : Nat} {x : Int32} (h : I1 nS nM K σ) (hz : m < nM → σ 15 m = 1 → 0 ≤ x.toInt ∧ x.toInt ≤ (σ 19 m).toInt) (hn : nM ≤ m → x.toInt = 0) : I1 nS nM K (stU σ 20 m x) := by
  obtain ⟨a1, a2, a3, a4, a5, a6⟩ := h
  refine ⟨a1, a2, a3, a4, ?_, ?_⟩
  · exact pt_upd (P := fun m v => (m < nM → σ 15 m = 1 → 0 ≤ v.toInt ∧ v.toInt ≤ (σ 19 m).toInt) ∧ (nM ≤ m → v.toInt = 0)) a5 (fun _ => ⟨hz, hn⟩)
  · unfold tot at a6 ⊢
    rw [rs_oth (by decide), rs_oth (by decide), rs_oth (by decide), rs_oth (by decide)]
    omega
/-- the rows that I1 speaks of -/
def oth1 (k : Nat) : Bool := !(k == 2 || k == 4 || k == 5 || k == 6 || k == 12 || k == 15 || k == 19 || k == 20)
theorem I1.oth {nS nM : Nat} {K : Int} {σ : St} {k i : Nat} {x : Int32} (h : I1 nS nM K σ) (hk : oth1 k = true) : I1 nS nM K (stU σ k i x) := by
  have q : ∀ j, oth1 j = false → stU σ k i x j = σ j := by
    intro j hj
    funext a
    refine stU_k ?_
    rintro rfl
    rw [hj] at hk
    cases hk
  obtain ⟨a1, a2, a3, a4, a5, a6⟩ := h
  unfold I1 tot rs
  rw [q 2 rfl, q 4 rfl, q 5 rfl, q 6 rfl, q 12 rfl, q 15 rfl, q 19 rfl, q 20 rfl]
  exact ⟨a1, a2, a3, a4, a5, a6⟩
def oth0 (k i : Nat) : Bool := !(k == 2 || k == 10 || k == 11 || k == 13 || k == 14 || k == 15 || k == 16 || k == 18 || k == 19 || (k == 0 && (i == 4 || i == 5 || i == 6)))
theorem I0.oth {nS nM hr : Nat} {σ : St} {k i : Nat} {x : Int32} (h : I0 nS nM hr σ) (hk : oth0 k i = true) : I0 nS nM hr (stU σ k i x) := by
  have q : ∀ j a, oth0 j a = false → stU σ k i x j a = σ j a := by
    intro j a hj
    rw [stU_ite, if_neg]
    rintro ⟨rfl, rfl⟩
    rw [hj] at hk
    cases hk
  have qf : ∀ j, (∀ a, oth0 j a = false) → stU σ k i x j = σ j := fun j hj => funext (fun a => q j a (hj a))
  unfold I0
  rw [qf 2 (fun _ => rfl), qf 11 (fun _ => rfl), qf 13 (fun _ => rfl), qf 15 (fun _ => rfl), qf 16 (fun _ => rfl), qf 18 (fun _ => rfl), qf 19 (fun _ => rfl), q 10 0 rfl, q 14 0 rfl, q 0 4 rfl, q 0 5 rfl, q 0 6 rfl]
  exact h
theorem I1.b4 {nS nM : Nat} {K : Int} {σ : St} (h : I1 nS nM K σ) {c : Nat} (hc : c < 24) : (σ 4 c).toInt + (σ 5 c).toInt + (σ 6 c).toInt ≤ K ∧ 0 ≤ (σ 4 c).toInt ∧ 0 ≤ (σ 5 c).toInt ∧ 0 ≤ (σ 6 c).toInt := by
  obtain ⟨a1, a2, a3, a4, a5, a6⟩ := h
  have b1 : 0 ≤ rs σ 12 4 := Sm_nn (fun i hi => (a4 i hi).1)
  have b2 : (σ 4 c).toInt ≤ rs σ 4 24 := Sm_le (f := fun i => (σ 4 i).toInt) (fun i hi => (a1 i hi).1) hc
  have b3 : (σ 5 c).toInt ≤ rs σ 5 24 := Sm_le (f := fun i => (σ 5 i).toInt) (fun i hi => (a2 i hi).1) hc
  have b4 : (σ 6 c).toInt ≤ rs σ 6 24 := Sm_le (f := fun i => (σ 6 i).toInt) (fun i hi => (a3 i hi).1) hc
  unfold tot at a6
  exact ⟨by omega, (a1 c hc).1, (a2 c hc).1, (a3 c hc).1⟩
/-- kinds, birds, oiled, signatures are left as they are -/
def Fr (σ' σ : St) : Prop := σ' 2 = σ 2 ∧ σ' 7 = σ 7 ∧ σ' 8 = σ 8 ∧ σ' 9 = σ 9 ∧ σ' 3 = σ 3
theorem Fr.rf {σ : St} : Fr σ σ := ⟨rfl, rfl, rfl, rfl, rfl⟩
theorem Fr.tr {a b c : St} (h : Fr a b) (g : Fr b c) : Fr a c := ⟨h.1.trans g.1, h.2.1.trans g.2.1, h.2.2.1.trans g.2.2.1, h.2.2.2.1.trans g.2.2.2.1, h.2.2.2.2.trans g.2.2.2.2⟩
def oth3 (k : Nat) : Bool := !(k == 2 || k == 7 || k == 8 || k == 9 || k == 3)
theorem Fr.st {σ' σ : St} {k i : Nat} {x : Int32} (h : Fr σ' σ) (hk : oth3 k = true) : Fr (stU σ' k i x) σ := by
  have q : ∀ j, oth3 j = false → stU σ' k i x j = σ' j := by
    intro j hj
    funext a
    refine stU_k ?_
    rintro rfl
    rw [hj] at hk
    cases hk
  exact ⟨(q 2 rfl).trans h.1, (q 7 rfl).trans h.2.1, (q 8 rfl).trans h.2.2.1, (q 9 rfl).trans h.2.2.2.1, (q 3 rfl).trans h.2.2.2.2⟩
theorem stU_comm {σ : St} {k i k2 i2 : Nat} {x y : Int32} (h : ¬ (k = k2 ∧ i = i2)) : stU (stU σ k i x) k2 i2 y = stU (stU σ k2 i2 y) k i x := by
  funext a b
  simp only [stU_ite]
  by_cases q1 : a = k2 ∧ b = i2
  · by_cases q2 : a = k ∧ b = i
    · exact absurd ⟨q2.1.symm.trans q1.1, q2.2.symm.trans q1.2⟩ h
    · rw [if_pos q1, if_neg q2, if_pos q1]
  · rw [if_neg q1, if_neg q1]
theorem b1s {α β : Type} (a : α) (f : α → Option β) : b1 (some a) f = f a := rfl
theorem sls {α β : Type} (a : α) (f : α → Option β) : sl a f = f a := rfl
