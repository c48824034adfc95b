/-! what goes by the wind -/
theorem kd {nS nM hr : Nat} {σ : St} (h : I0 nS nM hr σ) {c : Nat} (hc : c < 24) : ∃ k, k < 4 ∧ σ 2 c = ι k := h.2.2.2.2.2.1 c hc
theorem roomOf9 {nS nM hr : Nat} {σ : St} (h : I0 nS nM hr σ) {d : Nat} (hd : d < 24) : sp_X2_roomOf (ι d) σ = some (tabH (σ 2 d) - σ 6 d) := by
  obtain ⟨k, hk, e⟩ := kd h hd
  unfold sp_X2_roomOf
  simp only [ι_nat (show d < 100000 by omega), ix2 hd (show 24 < 100000 by omega), e, ι_nat (show k < 100000 by omega), ix2 hk (show 4 < 100000 by omega)]
/-- the room behind a border -/
def roomB (σ : St) : Option Nat → Int32
  | none => 1000000
  | some d => if σ 2 d = 0 then 1000000 else tabH (σ 2 d) - σ 6 d
theorem room9 {nS nM hr : Nat} {σ : St} (h : I0 nS nM hr σ) {c w : Nat} (hc : c < 24) (hw : w < 4) (e5 : σ 0 5 = ι w) : sp_X0_roomBehind (ι c) σ = some (roomB σ (bs c w)) := by
  unfold sp_X0_roomBehind
  rw [e5, bs9 c hc w hw]
  simp only [b1]
  cases hb : bs c w with
  | none => rw [show oI none = -1 from rfl, if_pos rfl]; rfl
  | some d =>
    have hd := bs_lt hc hw hb
    rw [show oI (some d) = ι d from rfl, if_neg (oI_ne hd), isWater9 hd, roomOf9 h hd]
    unfold roomB
    by_cases g : σ 2 d = 0 <;> simp [g]
theorem holds10 {μ : St} {d k : Nat} (hd : d < 24) (hk : k < 4) (e : μ 3 d = ι k) (h0 : ¬ μ 3 d = 0) : sp_X10_holds (ι d) μ = some (tabH (μ 3 d)) := by
  unfold sp_X10_holds
  simp only [ι_nat (show d < 100000 by omega), ix2 hd (show 24 < 100000 by omega), e]
  rw [e] at h0
  rcases (show k = 0 ∨ k = 1 ∨ k = 2 ∨ k = 3 by omega) with rfl | rfl | rfl | rfl
  · exact absurd rfl h0
  · rfl
  · rfl
  · rfl
theorem tabH_v {k : Nat} (hk : k < 4) : 0 ≤ (tabH (ι k)).toInt ∧ (tabH (ι k)).toInt ≤ 1000 := by
  rcases (show k = 0 ∨ k = 1 ∨ k = 2 ∨ k = 3 by omega) with rfl | rfl | rfl | rfl <;> decide
/-- litres that the wind would take, and what there is room for -/
def bl (f st : Int32) : Int32 := f * st / 10
theorem bl_v {f : Int32} {s : Nat} (h0 : 0 ≤ f.toInt) (h1 : f.toInt ≤ 400000) (hs : s < 10) : (bl f (ι s)).toInt = f.toInt * s / 10 ∧ 0 ≤ (bl f (ι s)).toInt ∧ (bl f (ι s)).toInt ≤ f.toInt := by
  have p0 : 0 ≤ f.toInt * (s : Int) := Int.mul_nonneg h0 (by omega)
  have p1 : f.toInt * (s : Int) ≤ f.toInt * 9 := Int.mul_le_mul_of_nonneg_left (by omega) h0
  have a1 : (f * ι s).toInt = f.toInt * s := by rw [t_mul (by rw [ι_toInt (by omega)]; omega) (by rw [ι_toInt (by omega)]; omega), ι_toInt (by omega)]
  unfold bl
  rw [t_div (by rw [a1]; exact p0) (by decide), a1, show (10 : Int32).toInt = 10 from rfl]
  refine ⟨rfl, by omega, by omega⟩
def gof (σ : St) (to : Option Nat) (f : Int32) : Int32 := match to with
  | none => f
  | some d => if σ 2 d = 0 then f else iMin f (tabH (σ 2 d) - σ 6 d)
def got (σ : St) (to : Option Nat) (f t : Int32) : Int32 := match to with
  | none => t
  | some d => if σ 2 d = 0 then t else iMin t (tabH (σ 2 d) - σ 6 d - gof σ to f)
theorem iMin_l {a b : Int32} (h : a.toInt ≤ b.toInt) : iMin a b = a := Int32.toInt_inj.mp (by rw [iMin_int]; omega)
theorem room_gof {σ : St} {to : Option Nat} {f t : Int32} (f0 : 0 ≤ f.toInt) (t0 : 0 ≤ t.toInt) (hb : f.toInt + t.toInt ≤ 400000) : iMin f (roomB σ to) = gof σ to f ∧ iMin t (roomB σ to - gof σ to f) = got σ to f t := by
  have z : (1000000 : Int32).toInt = 1000000 := rfl
  have w : (1000000 - f : Int32).toInt = 1000000 - f.toInt := by rw [t_sub (by rw [z]; omega) (by rw [z]; omega), z]
  cases to with
  | none => exact ⟨iMin_l (by rw [show roomB σ none = 1000000 from rfl, z]; omega), iMin_l (by show t.toInt ≤ (1000000 - f : Int32).toInt; rw [w]; omega)⟩
  | some d =>
    unfold roomB got gof
    by_cases g : σ 2 d = 0
    · simp only [if_pos g]
      exact ⟨iMin_l (by rw [z]; omega), iMin_l (by rw [w]; omega)⟩
    · simp only [if_neg g]
      exact ⟨trivial, trivial⟩
