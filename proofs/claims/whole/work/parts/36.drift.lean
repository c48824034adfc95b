/-! the drift -/
def ldS (σ : St) (c : Nat) (F T : Int32) (to : Option Nat) : St := match to with
  | none => stU (stU (stU σ 4 c (σ 4 c - F)) 5 c (σ 5 c - T)) 23 4 (σ 23 4 + (F + T))
  | some d => if σ 2 d = 0 then stU (stU (stU (stU σ 4 c (σ 4 c - F)) 5 c (σ 5 c - T)) 4 d (σ 4 d + F)) 5 d (σ 5 d + T) else stU (stU (stU σ 4 c (σ 4 c - F)) 5 c (σ 5 c - T)) 6 d (σ 6 d + (F + T))
def ldM (μ : St) (c : Nat) (F T : Int32) (to : Option Nat) : St := match to with
  | none => stU (stU (stU μ 1 c (μ 1 c - F)) 1 (24 + c) (μ 1 (24 + c) - T)) 1 173 (μ 1 173 + (F + T))
  | some d => if μ 3 d = 0 then stU (stU (stU (stU μ 1 c (μ 1 c - F)) 1 (24 + c) (μ 1 (24 + c) - T)) 1 d (μ 1 d + F)) 1 (24 + d) (μ 1 (24 + d) + T) else stU (stU (stU μ 1 c (μ 1 c - F)) 1 (24 + c) (μ 1 (24 + c) - T)) 1 (48 + d) (μ 1 (48 + d) + (F + T))
theorem ld9 {σ : St} {c w : Nat} (hc : c < 24) (hw : w < 4) : sp_X0_letGo (ι c) (oI (bs c w)) σ = some (ldS σ c (σ 24 c) (σ 25 c) (bs c w)) := by
  unfold sp_X0_letGo
  simp only [ι_nat (show c < 100000 by omega), ix2 hc (show 24 < 100000 by omega), sl]
  generalize σ 24 c = F
  generalize σ 25 c = T
  have a5 : ∀ x, stU σ 4 c x 5 c = σ 5 c := fun x => stU_k (by decide)
  simp only [a5]
  cases hb : bs c w with
  | none =>
    rw [show oI none = -1 from rfl, if_pos rfl]
    unfold ldS
    rw [stU_k (by decide), stU_k (by decide)]
  | some d =>
    have hd := bs_lt hc hw hb
    have hdc : d ≠ c := fun e => bs_ne c hc w hw (by rw [hb, e])
    rw [show oI (some d) = ι d from rfl, if_neg (oI_ne hd), isWater9 hd]
    have k2 : ∀ x y, stU (stU σ 4 c x) 5 c y 2 d = σ 2 d := fun x y => by rw [stU_k (by decide), stU_k (by decide)]
    have k4 : ∀ x y, stU (stU σ 4 c x) 5 c y 4 d = σ 4 d := fun x y => by rw [stU_k (by decide), stU_i hdc]
    have k5 : ∀ x y z, stU (stU (stU σ 4 c x) 5 c y) 4 d z 5 d = σ 5 d := fun x y z => by rw [stU_k (by decide), stU_i hdc, stU_k (by decide)]
    have k6 : ∀ x y, stU (stU σ 4 c x) 5 c y 6 d = σ 6 d := fun x y => by rw [stU_k (by decide), stU_k (by decide)]
    simp only [b1, ι_nat (show d < 100000 by omega), ix2 hd (show 24 < 100000 by omega), k2, k4, k5, k6]
    unfold ldS
    by_cases g : σ 2 d = 0 <;> simp [g]
theorem ld10 {μ : St} {c w : Nat} (hc : c < 24) (hw : w < 4) (e5 : μ 0 5 = ι w) : sp_X10_drift (ι c) μ = some (ldM μ c (μ 5 c) (μ 5 (24 + c)) (bs c w)) := by
  unfold sp_X10_drift
  rw [e5, bs10 c hc w hw]
  simp only [b1, i0, i24, n173, ι_nat (show c < 100000 by omega), ι_nat (show 24 + c < 100000 by omega), ix2 (show c < 48 by omega) (show 48 < 100000 by omega), ix2 (show 24 + c < 48 by omega) (show 48 < 100000 by omega), ix2 (show c < 174 by omega) (show 174 < 100000 by omega), ix2 (show 24 + c < 174 by omega) (show 174 < 100000 by omega), sl]
  generalize μ 5 c = F
  generalize μ 5 (24 + c) = T
  have a5 : ∀ x, stU μ 1 c x 1 (24 + c) = μ 1 (24 + c) := fun x => stU_i (by omega)
  simp only [a5]
  cases hb : bs c w with
  | none =>
    rw [show oI none = -1 from rfl, if_pos rfl]
    unfold ldM
    rw [stU_i (by omega), stU_i (by omega)]
  | some d =>
    have hd := bs_lt hc hw hb
    have hdc : d ≠ c := fun e => bs_ne c hc w hw (by rw [hb, e])
    rw [show oI (some d) = ι d from rfl, if_neg (oI_ne hd)]
    have k2 : ∀ x y, stU (stU μ 1 c x) 1 (24 + c) y 3 d = μ 3 d := fun x y => by rw [stU_k (by decide), stU_k (by decide)]
    have k4 : ∀ x y, stU (stU μ 1 c x) 1 (24 + c) y 1 d = μ 1 d := fun x y => by rw [stU_i (by omega), stU_i hdc]
    have k5 : ∀ x y z, stU (stU (stU μ 1 c x) 1 (24 + c) y) 1 d z 1 (24 + d) = μ 1 (24 + d) := fun x y z => by rw [stU_i (by omega), stU_i (by omega), stU_i (by omega)]
    have k6 : ∀ x y, stU (stU μ 1 c x) 1 (24 + c) y 1 (48 + d) = μ 1 (48 + d) := fun x y => by rw [stU_i (by omega), stU_i (by omega)]
    simp only [i0, i48, i24, ι_nat (show d < 100000 by omega), ι_nat (show 24 + d < 100000 by omega), ι_nat (show 48 + d < 100000 by omega), ix2 hd (show 24 < 100000 by omega), ix2 (show d < 174 by omega) (show 174 < 100000 by omega), ix2 (show 24 + d < 174 by omega) (show 174 < 100000 by omega), ix2 (show 48 + d < 174 by omega) (show 174 < 100000 by omega), k2, k4, k5, k6]
    unfold ldM
    by_cases g : μ 3 d = 0 <;> simp [g]
/-- what goes, for the cells from c on -/
def Gr (w c : Nat) (σ μ : St) : Prop := ∀ a, c ≤ a → a < 24 → σ 24 a = μ 5 a ∧ σ 25 a = μ 5 (24 + a) ∧ 0 ≤ (σ 24 a).toInt ∧ (σ 24 a).toInt ≤ (σ 4 a).toInt ∧ 0 ≤ (σ 25 a).toInt ∧ (σ 25 a).toInt ≤ (σ 5 a).toInt ∧ ∀ d, bs a w = some d → ¬ σ 2 d = 0 → (σ 6 d).toInt + (σ 24 a).toInt + (σ 25 a).toInt ≤ (tabH (σ 2 d)).toInt
theorem ldR {e : Prop} {σ μ : St} (h : Rd (Dm e) σ μ) {c : Nat} (hc : c < 24) {to : Option Nat} (ht : ∀ d, to = some d → d < 24) (F T : Int32) : Rd (Dm e) (ldS σ c F T to) (ldM μ c F T to) := by
  have h1 : Rd (Dm e) (stU (stU σ 4 c (σ 4 c - F)) 5 c (σ 5 c - T)) (stU (stU μ 1 c (μ 1 c - F)) 1 (24 + c) (μ 1 (24 + c) - T)) :=
    (h.upd dmu (k := 4) (i := c) (Or.inl hc) (fun _ => by rw [show σ 4 c = μ 1 c from h 4 c hc])).upd dmu (k := 5) (i := c) (Or.inl hc) (fun _ => by rw [show σ 5 c = μ 1 (24 + c) from h 5 c hc])
  unfold ldS ldM
  cases to with
  | none => exact h1.upd dmu (k := 23) (i := 4) (Or.inl ⟨trivial, by decide⟩) (fun d => by rw [show σ 23 4 = μ 1 173 from h 23 4 d])
  | some d =>
    have hd := ht d rfl
    have e2 : σ 2 d = μ 3 d := h 2 d hd
    have e4 : σ 4 d = μ 1 d := h 4 d hd
    have e5 : σ 5 d = μ 1 (24 + d) := h 5 d hd
    have e6 : σ 6 d = μ 1 (48 + d) := h 6 d hd
    dsimp only
    rw [← e2, ← e4, ← e5, ← e6]
    by_cases g : σ 2 d = 0
    · rw [if_pos g, if_pos g]
      exact (h1.upd dmu (k := 4) (i := d) (Or.inl hd) (fun _ => rfl)).upd dmu (k := 5) (i := d) (Or.inl hd) (fun _ => rfl)
    · rw [if_neg g, if_neg g]
      exact h1.upd dmu (k := 6) (i := d) (Or.inl hd) (fun _ => rfl)
theorem ld0 {nS nM hr : Nat} {σ : St} (h : I0 nS nM hr σ) {c : Nat} {F T : Int32} {to : Option Nat} : I0 nS nM hr (ldS σ c F T to) := by
  unfold ldS
  cases to with
  | none => exact ((h.oth rfl).oth rfl).oth rfl
  | some d =>
    dsimp only
    by_cases g : σ 2 d = 0
    · rw [if_pos g]; exact (((h.oth rfl).oth rfl).oth rfl).oth rfl
    · rw [if_neg g]; exact ((h.oth rfl).oth rfl).oth rfl
theorem ldB {nM : Nat} {σ μ : St} (h : Bo nM σ μ) {c : Nat} {F T F2 T2 : Int32} {to to2 : Option Nat} : Bo nM (ldS σ c F T to) (ldM μ c F2 T2 to2) := by
  have a : Bo nM (ldS σ c F T to) μ := by
    unfold ldS
    cases to with
    | none => exact ((h.left rfl).left rfl).left rfl
    | some d =>
      dsimp only
      by_cases g : σ 2 d = 0
      · rw [if_pos g]; exact (((h.left rfl).left rfl).left rfl).left rfl
      · rw [if_neg g]; exact ((h.left rfl).left rfl).left rfl
  generalize ldS σ c F T to = σ1 at a ⊢
  unfold ldM
  cases to2 with
  | none => exact ((a.right (by decide)).right (by decide)).right (by decide)
  | some d =>
    dsimp only
    by_cases g : μ 3 d = 0
    · rw [if_pos g]; exact (((a.right (by decide)).right (by decide)).right (by decide)).right (by decide)
    · rw [if_neg g]; exact ((a.right (by decide)).right (by decide)).right (by decide)
theorem I1.pp {nS nM : Nat} {K : Int} {σ : St} (h : I1 nS nM K σ) {c d : Nat} (hc : c < 24) (hd : d < 24) : (σ 4 c).toInt ≤ K ∧ (σ 5 c).toInt ≤ K ∧ (σ 6 d).toInt ≤ K := by
  have a := h.b4 hc
  have b := h.b4 hd
  omega
theorem ldI {nS nM : Nat} {K : Int} (hK : K ≤ 400000) {σ : St} (h : I1 nS nM K σ) {c : Nat} (hc : c < 24) {F T : Int32} {to : Option Nat} (ht : ∀ d, to = some d → d < 24 ∧ d ≠ c) (f0 : 0 ≤ F.toInt) (f1 : F.toInt ≤ (σ 4 c).toInt) (t0 : 0 ≤ T.toInt) (t1 : T.toInt ≤ (σ 5 c).toInt) (sh : ∀ d, to = some d → ¬ σ 2 d = 0 → (σ 6 d).toInt + F.toInt + T.toInt ≤ (tabH (σ 2 d)).toInt) : I1 nS nM K (ldS σ c F T to) := by
  obtain ⟨b1, b2, b3, b4⟩ := h.b4 hc
  have z4 := (h.1 c hc).2
  have z5 := (h.2.1 c hc).2
  have w1 : (σ 4 c - F).toInt = (σ 4 c).toInt - F.toInt := t_sub (by omega) (by omega)
  have w2 : (σ 5 c - T).toInt = (σ 5 c).toInt - T.toInt := t_sub (by omega) (by omega)
  have w3 : (F + T).toInt = F.toInt + T.toInt := t_add (by omega) (by omega)
  have s1 := h.s4 (c := c) (x := σ 4 c - F) hc (by omega) (fun q => by have := z4 q; omega)
  have s2 := s1.s5 (c := c) (x := σ 5 c - T) hc (by omega) (fun q => by rw [stU_k (by decide)] at q; have := z5 q; omega)
  rw [stU_k (by decide), w1, w2] at s2
  unfold ldS
  cases to with
  | none => exact (s2.mono (by omega)).oth rfl
  | some d =>
    obtain ⟨hd, hdc⟩ := ht d rfl
    obtain ⟨p1, p2, p3, p4⟩ := h.b4 hd
    have sh' := sh d rfl
    dsimp only
    by_cases g : σ 2 d = 0
    · rw [if_pos g]
      have v4 : (σ 4 d + F).toInt = (σ 4 d).toInt + F.toInt := t_add (by omega) (by omega)
      have v5 : (σ 5 d + T).toInt = (σ 5 d).toInt + T.toInt := t_add (by omega) (by omega)
      have g' : ∀ x y, stU (stU σ 4 c x) 5 c y 2 d = 0 := fun x y => by rw [stU_k (by decide), stU_k (by decide)]; exact g
      have s3 := s2.s4 (c := d) (x := σ 4 d + F) hd (by omega) (fun q => absurd (g' _ _) q)
      have s4 := s3.s5 (c := d) (x := σ 5 d + T) hd (by omega) (fun q => absurd (by rw [stU_k (by decide)]; exact g' _ _) q)
      rw [stU_k (by decide), stU_i hdc, stU_k (by decide), stU_i hdc, stU_k (by decide), v4, v5] at s4
      exact s4.mono (by omega)
    · rw [if_neg g]
      have sg := sh' g
      have v6 : (σ 6 d + (F + T)).toInt = (σ 6 d).toInt + F.toInt + T.toInt := by rw [t_add (by omega) (by omega), w3]; omega
      have s3 := s2.s6 (c := d) (x := σ 6 d + (F + T)) hd (by omega) (by rw [stU_k (by decide), stU_k (by decide)]; omega)
      rw [stU_k (by decide), stU_k (by decide), v6] at s3
      exact s3.mono (by omega)
