/-! two bays that agree in what hours read go on agreeing -/
def Dc (k i : Nat) : Prop := match k with
  | 0 => i = 4 ∨ i = 5 ∨ i = 6
  | 2 => i < 24
  | 4 => i < 24
  | 5 => i < 24
  | 6 => i < 24
  | 10 => i = 0
  | 11 => i < 4
  | 12 => i < 4
  | 13 => i < 4
  | 14 => i = 0
  | 15 => i < 20
  | 16 => i < 20
  | 17 => i < 20
  | 18 => i < 20
  | 19 => i < 20
  | 20 => i < 20
  | _ => False
def Ag (τ σ : St) : Prop := ∀ k i, Dc k i → τ k i = σ k i
theorem I0.cg {nS nM hr : Nat} {τ σ : St} (h : I0 nS nM hr σ) (e : Ag τ σ) : I0 nS nM hr τ := by
  obtain ⟨⟨a1, a1'⟩, ⟨a2, a2'⟩, ⟨a3, a3'⟩, ⟨w, hw, a4⟩, ⟨s, hs, a5⟩, a6, a7, a8, a9⟩ := h
  refine ⟨⟨a1, (e 0 4 (Or.inl rfl)).trans a1'⟩, ⟨a2, (e 10 0 rfl).trans a2'⟩, ⟨a3, (e 14 0 rfl).trans a3'⟩, ⟨w, hw, (e 0 5 (Or.inr (Or.inl rfl))).trans a4⟩, ⟨s, hs, (e 0 6 (Or.inr (Or.inr rfl))).trans a5⟩, fun c hc => ?_, fun s hs => ?_, fun s hs => ?_, fun m hm g => ?_⟩
  · rw [e 2 c hc]; exact a6 c hc
  · obtain ⟨c, hc, q1, q2⟩ := a7 s hs
    exact ⟨c, hc, (e 11 s (show s < 4 by omega)).trans q1, (e 2 c hc).trans q2⟩
  · rw [e 13 s hs]; exact a8 s hs
  · have m20 : m < 20 := by omega
    rw [e 15 m m20] at g
    rw [e 16 m m20, e 18 m m20, e 19 m m20]
    exact a9 m hm g
theorem I1.cg {nS nM : Nat} {K : Int} {τ σ : St} (h : I1 nS nM K σ) (e : Ag τ σ) : I1 nS nM K τ := by
  obtain ⟨a1, a2, a3, a4, a5, a6⟩ := h
  refine ⟨fun c hc => ?_, fun c hc => ?_, fun c hc => ?_, fun s hs => ?_, fun m hm => ?_, ?_⟩
  · rw [e 4 c hc, e 2 c hc]; exact a1 c hc
  · rw [e 5 c hc, e 2 c hc]; exact a2 c hc
  · rw [e 6 c hc, e 2 c hc]; exact a3 c hc
  · rw [e 12 s hs]; exact a4 s hs
  · rw [e 15 m hm, e 19 m hm, e 20 m hm]; exact a5 m hm
  · have t : tot τ = tot σ := by
      unfold tot rs
      rw [Sm_congr (f := fun i => (τ 12 i).toInt) (g := fun i => (σ 12 i).toInt) (fun i hi => by rw [e 12 i hi]), Sm_congr (f := fun i => (τ 4 i).toInt) (g := fun i => (σ 4 i).toInt) (fun i hi => by rw [e 4 i hi]), Sm_congr (f := fun i => (τ 5 i).toInt) (g := fun i => (σ 5 i).toInt) (fun i hi => by rw [e 5 i hi]), Sm_congr (f := fun i => (τ 6 i).toInt) (g := fun i => (σ 6 i).toInt) (fun i hi => by rw [e 6 i hi])]
    rw [t]; exact a6
theorem I2.cg {nS nM hr : Nat} {K : Int} {τ σ : St} (h : I2 nS nM hr K σ) (e : Ag τ σ) : I2 nS nM hr K τ := ⟨h.1.cg e, h.2.cg e⟩
theorem cpy_lt {f g : Nat → Int32} {n i : Nat} (h : i < n) : va_cpy f g 0 0 n i = f i := by
  unfold va_cpy
  rw [if_pos ⟨Nat.zero_le _, by omega⟩, Nat.zero_add, Nat.sub_zero]
theorem like (τ σ : St) : ∃ τ1, sp_X0_becomeLike τ σ = some τ1 ∧ Ag τ1 σ := by
  refine ⟨_, rfl, fun k i hk => ?_⟩
  unfold Dc at hk
  split at hk
  · rcases hk with rfl | rfl | rfl <;> rfl
  · exact cpy_lt hk
  · exact cpy_lt hk
  · exact cpy_lt hk
  · exact cpy_lt hk
  · subst hk; rfl
  · exact cpy_lt hk
  · exact cpy_lt hk
  · exact cpy_lt hk
  · subst hk; rfl
  · exact cpy_lt hk
  · exact cpy_lt hk
  · exact cpy_lt hk
  · exact cpy_lt hk
  · exact cpy_lt hk
  · exact cpy_lt hk
  · exact hk.elim
theorem Ag.rf {σ : St} : Ag σ σ := fun _ _ _ => rfl
theorem Ag.upd {τ σ : St} (h : Ag τ σ) {k i : Nat} {x y : Int32} (hx : Dc k i → x = y) : Ag (stU τ k i x) (stU σ k i y) := by
  intro a b hab
  rw [stU_ite, stU_ite]
  by_cases e : a = k ∧ b = i
  · obtain ⟨rfl, rfl⟩ := e
    rw [if_pos ⟨rfl, rfl⟩, if_pos ⟨rfl, rfl⟩]
    exact hx hab
  · rw [if_neg e, if_neg e]
    exact h a b hab
/-- the rows that no hour reads -/
theorem Dc_ne {k i : Nat} (h : Dc k i) : k ≠ 23 ∧ k ≠ 24 ∧ k ≠ 25 ∧ k ≠ 8 ∧ k ≠ 9 ∧ k ≠ 3 ∧ k ≠ 7 ∧ k ≠ 21 ∧ k ≠ 22 := by
  refine ⟨?_, ?_, ?_, ?_, ?_, ?_, ?_, ?_, ?_⟩ <;> (rintro rfl; exact h)
theorem noteS_A {τ σ : St} (h : Ag τ σ) {l l2 x x2 : Int32} : Ag (noteS 23 1 23 0 l x τ) (noteS 23 1 23 0 l2 x2 σ) := by
  intro k i d
  rw [noteS_o (Dc_ne d).1, noteS_o (Dc_ne d).1]
  exact h k i d
theorem lkN_A {τ σ : St} (h : Ag τ σ) {t : Int32} : ∀ s, s ≤ 4 → Ag (lkN t s τ) (lkN t s σ)
  | 0, _ => h
  | s + 1, hs => by
    have ih := lkN_A h (t := t) s (by omega)
    have s4 : s < 4 := by omega
    show Ag (lkS (lkN t s τ) s (lkN t s τ 11 s).toNatClampNeg (lk (lkN t s τ 12 s) (lkN t s τ 13 s) t)) (lkS (lkN t s σ) s (lkN t s σ 11 s).toNatClampNeg (lk (lkN t s σ 12 s) (lkN t s σ 13 s) t))
    have e11 : lkN t s τ 11 s = lkN t s σ 11 s := ih 11 s s4
    have e12 : lkN t s τ 12 s = lkN t s σ 12 s := ih 12 s s4
    have e13 : lkN t s τ 13 s = lkN t s σ 13 s := ih 13 s s4
    rw [e11, e12, e13]
    unfold lkS
    refine noteS_A ?_
    rw [e12]
    exact (ih.upd (fun _ => rfl)).upd (fun d => by rw [ih 4 _ d])
theorem wea_A {τ σ : St} (h : Ag τ σ) {c : Nat} (hc : c < 24) : Ag (wea τ c) (wea σ c) := by
  rw [wea_S, wea_S]
  unfold weaS
  rw [show τ 4 c = σ 4 c from h 4 c hc, show τ 5 c = σ 5 c from h 5 c hc]
  exact (((h.upd (fun _ => rfl)).upd (fun _ => rfl)).upd (fun d => absurd rfl (Dc_ne d).1)).upd (fun d => absurd rfl (Dc_ne d).1)
theorem weN_A {τ σ : St} (h : Ag τ σ) : ∀ c, c ≤ 24 → Ag (weN c τ) (weN c σ)
  | 0, _ => h
  | c + 1, hc => wea_A (weN_A h c (by omega)) (by omega)
theorem gof_A {τ σ : St} {to : Option Nat} (h : ∀ d, to = some d → τ 2 d = σ 2 d ∧ τ 6 d = σ 6 d) (f : Int32) : gof τ to f = gof σ to f := by
  unfold gof
  cases to with
  | none => rfl
  | some d => dsimp only; rw [(h d rfl).1, (h d rfl).2]
theorem got_A {τ σ : St} {to : Option Nat} (h : ∀ d, to = some d → τ 2 d = σ 2 d ∧ τ 6 d = σ 6 d) (f t : Int32) : got τ to f t = got σ to f t := by
  unfold got
  rw [gof_A h]
  cases to with
  | none => rfl
  | some d => dsimp only; rw [(h d rfl).1, (h d rfl).2]
theorem bmN_A {τ σ : St} {nM : Nat} (hM : nM ≤ 20) (h : ∀ m, m < nM → τ 15 m = σ 15 m ∧ τ 16 m = σ 16 m ∧ τ 17 m = σ 17 m ∧ τ 20 m = σ 20 m) {c w : Nat} : bmN τ c w nM 0 = bmN σ c w nM 0 := by
  refine bmN_congr (fun k _ hk => ?_)
  obtain ⟨e1, e2, e3, e4⟩ := h k (by omega)
  unfold bmt
  rw [e1, e2, e3, e4]
theorem dec_A {τ σ : St} {F T : Int32} {y : Option Nat} (h : ∀ b, y = some b → τ 18 b = σ 18 b) (h6 : τ 0 6 = σ 0 6) : dec τ F T y = dec σ F T y := by
  unfold dec
  rw [h6]
  cases y with
  | none => rfl
  | some b => dsimp only; rw [h b rfl]
theorem lq_A {τ σ : St} (h : Ag τ σ) {w nM c : Nat} (hM : nM ≤ 20) (hc : c < 24) (hw : w < 4) : lq w nM τ c = lq w nM σ c := by
  have hd : ∀ d, bs c w = some d → τ 2 d = σ 2 d ∧ τ 6 d = σ 6 d := fun d hd => ⟨h 2 d (bs_lt hc hw hd), h 6 d (bs_lt hc hw hd)⟩
  have hb : bmN τ c w nM 0 = bmN σ c w nM 0 := bmN_A hM (fun m hm => by
    have m20 : m < 20 := by omega
    exact ⟨h 15 m m20, h 16 m m20, h 17 m m20, h 20 m m20⟩)
  have e6 : τ 0 6 = σ 0 6 := h 0 6 (Or.inr (Or.inr rfl))
  unfold lq
  rw [show τ 4 c = σ 4 c from h 4 c hc, show τ 5 c = σ 5 c from h 5 c hc, e6, gof_A hd, got_A hd, hb]
  exact dec_A (fun b hb => h 18 b (show b < 20 by have := (bmN_lt hb).1; omega)) e6
def Ah (c : Nat) (τ σ : St) : Prop := ∀ a, a < c → τ 24 a = σ 24 a ∧ τ 25 a = σ 25 a
theorem fwS_A {τ σ : St} (h : Ag τ σ) {c : Nat} {q : Int32 × Int32 × Option Nat} : Ag (fwS τ c q) (fwS σ c q) := by
  unfold fwS
  refine ((?_ : Ag (brk 20 0 τ q.2.2) (brk 20 0 σ q.2.2)).upd (fun _ => rfl)).upd (fun _ => rfl)
  cases q.2.2 with
  | none => exact h
  | some b => exact h.upd (fun _ => rfl)
theorem fwS_h {τ σ : St} {c : Nat} (h : Ah c τ σ) {q : Int32 × Int32 × Option Nat} : Ah (c + 1) (fwS τ c q) (fwS σ c q) := by
  intro a ha
  have v24 : ∀ ξ : St, fwS ξ c q 24 a = if a = c then q.1 else ξ 24 a := fun ξ => by
    unfold fwS
    rw [stU_k (by decide)]
    by_cases e : a = c
    · rw [if_pos e, e, stU_same]
    · rw [if_neg e, stU_i e, brk_o (by decide)]
  have v25 : ∀ ξ : St, fwS ξ c q 25 a = if a = c then q.2.1 else ξ 25 a := fun ξ => by
    unfold fwS
    by_cases e : a = c
    · rw [if_pos e, e, stU_same]
    · rw [if_neg e, stU_i e, stU_k (by decide), brk_o (by decide)]
  rw [v24, v24, v25, v25]
  by_cases e : a = c
  · simp only [if_pos e]; exact ⟨trivial, trivial⟩
  · simp only [if_neg e]; exact h a (by omega)
theorem loN_A {τ σ : St} (h : Ag τ σ) {w nM : Nat} (hM : nM ≤ 20) (hw : w < 4) : ∀ c, c ≤ 24 → Ag (loN w nM c τ) (loN w nM c σ) ∧ Ah c (loN w nM c τ) (loN w nM c σ)
  | 0, _ => ⟨h, fun a ha => absurd ha (Nat.not_lt_zero a)⟩
  | c + 1, hc => by
    obtain ⟨i1, i2⟩ := loN_A h hM hw c (by omega)
    show Ag (fwS (loN w nM c τ) c (lq w nM (loN w nM c τ) c)) (fwS (loN w nM c σ) c (lq w nM (loN w nM c σ) c)) ∧ Ah (c + 1) (fwS (loN w nM c τ) c (lq w nM (loN w nM c τ) c)) (fwS (loN w nM c σ) c (lq w nM (loN w nM c σ) c))
    rw [lq_A i1 hM (show c < 24 by omega) hw]
    exact ⟨fwS_A i1, fwS_h i2⟩
theorem ldS_A {τ σ : St} (h : Ag τ σ) {c : Nat} (hc : c < 24) {F T : Int32} {to : Option Nat} (ht : ∀ d, to = some d → d < 24) : Ag (ldS τ c F T to) (ldS σ c F T to) := by
  have h1 : Ag (stU (stU τ 4 c (τ 4 c - F)) 5 c (τ 5 c - T)) (stU (stU σ 4 c (σ 4 c - F)) 5 c (σ 5 c - T)) := (h.upd (fun d => by rw [h 4 c d])).upd (fun d => by rw [h 5 c d])
  unfold ldS
  cases to with
  | none => exact h1.upd (fun d => absurd rfl (Dc_ne d).1)
  | some d =>
    have hd := ht d rfl
    dsimp only
    rw [show τ 2 d = σ 2 d from h 2 d hd, show τ 4 d = σ 4 d from h 4 d hd, show τ 5 d = σ 5 d from h 5 d hd, show τ 6 d = σ 6 d from h 6 d hd]
    by_cases g : σ 2 d = 0
    · rw [if_pos g, if_pos g]; exact (h1.upd (fun _ => rfl)).upd (fun _ => rfl)
    · rw [if_neg g, if_neg g]; exact h1.upd (fun _ => rfl)
theorem drN_A {τ σ : St} (h : Ag τ σ) (h9 : Ah 24 τ σ) {w : Nat} (hw : w < 4) : ∀ c, c ≤ 24 → Ag (drN w c τ) (drN w c σ)
  | 0, _ => h
  | c + 1, hc => by
    have ih := drN_A h h9 hw c (by omega)
    show Ag (ldS (drN w c τ) c (drN w c τ 24 c) (drN w c τ 25 c) (bs c w)) (ldS (drN w c σ) c (drN w c σ 24 c) (drN w c σ 25 c) (bs c w))
    have o : ∀ ξ : St, drN w c ξ 24 c = ξ 24 c ∧ drN w c ξ 25 c = ξ 25 c := fun ξ => ⟨drN_o (by decide) (by decide) (by decide) (by decide) c, drN_o (by decide) (by decide) (by decide) (by decide) c⟩
    obtain ⟨q1, q2⟩ := h9 c (by omega)
    rw [(o τ).1, (o τ).2, (o σ).1, (o σ).2, q1, q2]
    exact ldS_A ih (by omega) (fun d hd => bs_lt (by omega) hw hd)
theorem gbS_A {τ σ : St} (h : Ag τ σ) {c : Nat} (hc : c < 24) : Ag (gbS τ c) (gbS σ c) := by
  unfold gbS
  rw [low_congr (κ := τ 2) (ξ := σ 2) (fun d hd => h 2 d hd) hc]
  cases hl : low (σ 2) c with
  | none => exact h
  | some d =>
    have hd := low_ok hc d hl
    dsimp only
    rw [show τ 2 c = σ 2 c from h 2 c hc, show τ 6 c = σ 6 c from h 6 c hc, show τ 5 d = σ 5 d from h 5 d hd]
    exact (h.upd (fun _ => rfl)).upd (fun _ => rfl)
theorem gbN_A {τ σ : St} (h : Ag τ σ) : ∀ c, c ≤ 24 → Ag (gbN c τ) (gbN c σ)
  | 0, _ => h
  | c + 1, hc => gbS_A (gbN_A h c (by omega)) (by omega)
theorem skM_A {τ σ : St} (h : Ag τ σ) {m : Nat} (hm : m < 20) (hc : σ 15 m = 1 → (σ 16 m).toNatClampNeg < 24) : Ag (skM τ m) (skM σ m) := by
  unfold skM
  have e15 : τ 15 m = σ 15 m := h 15 m hm
  have e16 : τ 16 m = σ 16 m := h 16 m hm
  have e18 : τ 18 m = σ 18 m := h 18 m hm
  have e19 : τ 19 m = σ 19 m := h 19 m hm
  have e20 : τ 20 m = σ 20 m := h 20 m hm
  rw [e15, e16]
  by_cases g : σ 15 m = 1
  · rw [if_pos g, if_pos g]
    have hc := hc g
    generalize (σ 16 m).toNatClampNeg = c at *
    have e4 : τ 4 c = σ 4 c := h 4 c hc
    have e5 : τ 5 c = σ 5 c := h 5 c hc
    have eF : skF τ m c = skF σ m c := by unfold skF; rw [e18, e19, e20, e4]
    have eT : skT τ m c = skT σ m c := by unfold skT; rw [eF, e18, e19, e20, e5]
    rw [eF, eT]
    unfold skS
    rw [e4, e5, e20]
    exact ((h.upd (fun _ => rfl)).upd (fun _ => rfl)).upd (fun _ => rfl)
  · rw [if_neg g, if_neg g]; exact h
theorem skN_A {nS nM hr : Nat} {K : Int} {τ σ : St} (h : Ag τ σ) (hi : I2 nS nM hr K σ) : ∀ m, m ≤ nM → Ag (skN m τ) (skN m σ)
  | 0, _ => h
  | m + 1, hm => by
    have hM := hi.1.2.2.1.1
    refine skM_A (skN_A h hi m (by omega)) (by omega) (fun g => ?_)
    rw [skN_o (by decide) (by decide) (by decide)] at g ⊢
    obtain ⟨c, hc, e⟩ := (hi.1.2.2.2.2.2.2.2.2 m (by omega) g).1
    rw [e, ι_nat (by omega)]; exact hc
theorem haN_A {τ σ : St} (h : Ag τ σ) (c : Nat) : Ag (haN c τ) (haN c σ) := by
  intro k i d
  rw [haN_o (Dc_ne d).2.2.2.1 (Dc_ne d).2.2.2.2.1, haN_o (Dc_ne d).2.2.2.1 (Dc_ne d).2.2.2.2.1]
  exact h k i d
theorem hour_A {nS nM hr : Nat} {K : Int} (hK : K ≤ 400000) {τ σ : St} (h : Ag τ σ) (hi : I2 nS nM hr K σ) (hh : hr + 1 < 3000) {w : Nat} (hw : w < 4) (e5 : σ 0 5 = ι w) : Ag (hourF nS nM w hr τ) (hourF nS nM w hr σ) := by
  obtain ⟨j0, j1, j2, ⟨j3, g3⟩, j4, j5, j6, j7, r2, r3⟩ := stages hK hi hh hw e5
  have hS := hi.1.2.1.1
  have hM := hi.1.2.2.1.1
  have a0 : Ag (h0F hr τ) (h0F hr σ) := h.upd (fun _ => rfl)
  have a1 : Ag (h1F nS hr τ) (h1F nS hr σ) := lkN_A a0 nS hS
  have a2 : Ag (h2F nS hr τ) (h2F nS hr σ) := weN_A a1 24 (Nat.le_refl _)
  obtain ⟨a3, b3⟩ := loN_A a2 hM hw 24 (Nat.le_refl _)
  have a4 : Ag (h4F nS nM w hr τ) (h4F nS nM w hr σ) := drN_A a3 b3 hw 24 (Nat.le_refl _)
  have a5 : Ag (h5F nS nM w hr τ) (h5F nS nM w hr σ) := by
    unfold h5F
    split
    · exact gbN_A a4 24 (Nat.le_refl _)
    · exact a4
  have a6 : Ag (h6F nS nM w hr τ) (h6F nS nM w hr σ) := skN_A a5 j5 nM (Nat.le_refl _)
  exact haN_A a6 24
theorem hrs_A {nS nM : Nat} {K : Int} (hK : K ≤ 400000) {w : Nat} (hw : w < 4) : ∀ (j hr : Nat) (τ σ : St), Ag τ σ → I2 nS nM hr K σ → hr + j < 3000 → σ 0 5 = ι w → Ag (hrsF nS nM w j hr τ) (hrsF nS nM w j hr σ)
  | 0, _, _, _, h, _, _, _ => h
  | j + 1, hr, τ, σ, h, hi, hh, e5 => hrs_A hK hw j (hr + 1) _ _ (hour_A hK h hi (by omega) hw e5) (stages hK hi (by omega) hw e5).2.2.2.2.2.2.2.1 (by omega) (hour_w hK hi (by omega) hw e5)
