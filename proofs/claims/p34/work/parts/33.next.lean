/-! the next hour of one cell, found anew, is the hour itself -/
theorem upd_s (ν : Nat → Int32) (k : Nat) (x : Int32) : upd ν k x k = x := if_pos rfl
theorem upd_o {ν : Nat → Int32} {k j : Nat} {x : Int32} (h : j ≠ k) : upd ν k x j = ν j := if_neg h
/-- four numbers of a weighing -/
def Wn (ν : Nat → Int32) (F T G H : Int32) : Prop := ν 1 = F ∧ ν 2 = T ∧ ν 3 = G ∧ ν 4 = H
theorem wgh139 {σ : St} {room F T : Int32} {ν : Nat → Int32} (h1 : ν 1 = F) (h2 : ν 2 = T) : ∃ ν', sp_X5_weigh_139 σ room ν = some ν' ∧ Wn ν' F T (iMin (bl F (σ 0 6)) room) (iMin (bl T (σ 0 6)) (room - iMin (bl F (σ 0 6)) room)) := by
  refine ⟨upd (upd ν 3 (iMin (bl F (σ 0 6)) room)) 4 (iMin (bl T (σ 0 6)) (room - iMin (bl F (σ 0 6)) room)), ?_, ?_, ?_, ?_, ?_⟩
  · unfold sp_X5_weigh_139 sp_X0_blown
    rw [h1, b1s, sls, b1s, sls, upd_o (show (2 : Nat) ≠ 3 by decide), h2, upd_s]
    rfl
  · rw [upd_o (by decide), upd_o (by decide), h1]
  · rw [upd_o (by decide), upd_o (by decide), h2]
  · rw [upd_o (by decide), upd_s]
  · rw [upd_s]
/-- the water against the wind, or none -/
def frm (σ : St) (c w : Nat) : Option Nat := match bs c (op w) with
  | none => none
  | some d => if σ 2 d = 0 then some d else none
theorem against9 {σ : St} {c w : Nat} (hc : c < 24) (hw : w < 4) (e5 : σ 0 5 = ι w) : sp_X5_waterAgainstWind (ι c) σ = some (oI (frm σ c w)) := by
  unfold sp_X5_waterAgainstWind frm
  rw [e5, op9 w hw, b1s, bs9 c hc _ (op_lt w hw), b1s]
  cases hb : bs c (op w) with
  | none => rw [show oI none = -1 from rfl, if_pos rfl]
  | some d =>
    have hd := bs_lt hc (op_lt w hw) hb
    rw [show oI (some d) = ι d from rfl, if_neg (oI_ne hd), isWater9 hd, b1s]
    dsimp only
    by_cases g : σ 2 d = 0
    · rw [if_pos g, if_neg (by decide), if_pos g]; rfl
    · rw [if_neg g, if_pos rfl, if_neg g]; rfl
theorem high9 {nS nM hr : Nat} {σ : St} (i0 : I0 nS nM hr σ) (hh : hr + 1 < 3001) : sp_X5_isHighTide σ = some (if tdN (hr + 1) = 6 then 1 else 0) := by
  have t := tdN_le (hr + 1)
  unfold sp_X5_isHighTide
  rw [i0.1.2, ι_one, td9 _ hh, b1s]
  by_cases g : tdN (hr + 1) = 6
  · rw [if_pos g, g, if_pos (show ι 6 = 6 from rfl)]
  · rw [if_neg g, if_neg (show ¬ ι (tdN (hr + 1)) = 6 by rw [show (6 : Int32) = ι 6 from rfl, ι_inj (by omega) (by omega)]; exact g)]
theorem b2s {α β κ : Type} (a : α) (b : β) (f : α → β → Option κ) : b2 (some (a, b)) f = f a b := rfl
theorem bxl {α κ : Type} (a : α) (f : α → Option (κ ⊕ Nat)) : bx (some (.inl a)) f = f a := rfl
theorem bxr {α κ : Type} (k : Nat) (f : α → Option (κ ⊕ Nat)) : bx (some (.inr k)) f = some (.inr k) := rfl
theorem nc9 : ∀ c, c < 24 → sp_X9_needNumber (ι c) 24 = some (.inl ()) := by decide +kernel
theorem leakIn9 {nS nM hr : Nat} {K : Int} {σ : St} (h : I2 nS nM hr K σ) {d : Nat} (hd : d < 24) (t : Int32) : ∀ (j s n : Nat), s + j = nS → j < n → sp_X5_leaksInto_18 σ (ι d) t n (lsum σ d t s) (ι s) = some (lsum σ d t nS) := by
  have hS := h.1.2.1.1
  have e10 := h.1.2.1.2
  intro j
  induction j with
  | zero =>
    intro s n h1 h2
    obtain ⟨n, rfl⟩ : ∃ q, n = q + 1 := ⟨n - 1, by omega⟩
    have es : s = nS := by omega
    subst es
    rw [sp_X5_leaksInto_18, e10, if_pos (Int32.le_refl _)]
  | succ j ih =>
    intro s n h1 h2
    obtain ⟨n, rfl⟩ : ∃ q, n = q + 1 := ⟨n - 1, by omega⟩
    have q : ¬ ι nS ≤ ι s := by rw [ι_le (by omega) (by omega)]; omega
    have hs4 : s < 4 := by omega
    have e := ih (s + 1) n (by omega) (by omega)
    have T : lsum σ d t (s + 1) = lsum σ d t s + (if σ 11 s = ι d then lk (σ 12 s) (σ 13 s) t else 0) := rfl
    rw [T] at e
    rw [sp_X5_leaksInto_18, e10, if_neg q, ix hs4 (by omega), ι_nat (by omega)]
    by_cases g : σ 11 s = ι d
    · rw [if_pos g] at e
      rw [if_pos g, leakOf9 hs4, b1s, sls, ι_one, e]
    · rw [if_neg g, Int32.add_zero] at e
      rw [if_neg g, ι_one, e]
theorem h2F_06 {nS hr : Nat} {σ : St} : h2F nS hr σ 0 6 = σ 0 6 := by
  refine (weN_o (by decide) (by decide) (by decide) 24).trans ((lkN_o (by decide) (by decide) (by decide) nS).trans ?_)
  unfold h0F
  rw [stU_i (by decide)]
/-- what the wind takes, by the numbers of the start -/
theorem h3_g {nS nM hr : Nat} {K : Int} (hK : K ≤ 400000) {σ : St} (h : I2 nS nM hr K σ) (hh : hr + 1 < 3000) {w : Nat} (hw : w < 4) (e5 : σ 0 5 = ι w) {c : Nat} (hc : c < 24) :
    h3F nS nM w hr σ 24 c = pk σ (bmN σ c w nM 0) (gof σ (bs c w) (bl (h2F nS hr σ 4 c) (σ 0 6))) ∧ h3F nS nM w hr σ 25 c = pk σ (bmN σ c w nM 0) (got σ (bs c w) (bl (h2F nS hr σ 4 c) (σ 0 6)) (bl (h2F nS hr σ 5 c) (σ 0 6))) := by
  obtain ⟨j0, j1, j2, -, -, -, -, -, r2, -⟩ := stages hK h hh hw e5
  obtain ⟨g1, g2⟩ := loN_g hK j2 hw r2 24 (Nat.le_refl _) c hc
  have hM := h.1.2.2.1.1
  have o : ∀ k i, k ≠ 0 → k ≠ 4 → k ≠ 5 → k ≠ 12 → k ≠ 23 → h2F nS hr σ k i = σ k i := fun k i a0 a4 a5 a12 a23 => h2F_o a0 a4 a5 a12 a23
  have hd : ∀ d, bs c w = some d → h2F nS hr σ 2 d = σ 2 d ∧ h2F nS hr σ 6 d = σ 6 d := fun d _ => ⟨o 2 d (by decide) (by decide) (by decide) (by decide) (by decide), o 6 d (by decide) (by decide) (by decide) (by decide) (by decide)⟩
  have hb : bmN (h2F nS hr σ) c w nM 0 = bmN σ c w nM 0 := bmN_A hM (fun m _ => ⟨o 15 m (by decide) (by decide) (by decide) (by decide) (by decide), o 16 m (by decide) (by decide) (by decide) (by decide) (by decide), o 17 m (by decide) (by decide) (by decide) (by decide) (by decide), o 20 m (by decide) (by decide) (by decide) (by decide) (by decide)⟩)
  have ep : ∀ y A, pk (h2F nS hr σ) y A = pk σ y A := fun y A => by
    unfold pk
    cases y with
    | none => rfl
    | some b => dsimp only; rw [o 18 b (by decide) (by decide) (by decide) (by decide) (by decide), h2F_06]
  constructor
  · refine Eq.trans g1 ?_
    unfold gF
    rw [hb, ep, gof_A hd, h2F_06]
  · refine Eq.trans g2 ?_
    unfold gT
    rw [hb, ep, got_A hd, h2F_06]
theorem weigh9 {nS nM hr : Nat} {K : Int} (hK : K ≤ 400000) {σ : St} (h : I2 nS nM hr K σ) (hh : hr + 1 < 3000) {w : Nat} (hw : w < 4) (e5 : σ 0 5 = ι w) {d : Nat} (hd : d < 24) (ν : Nat → Int32) :
    ∃ ν', sp_X5_weigh (ι d) σ ν = some ν' ∧ Wn ν' (h2F nS hr σ 4 d) (h2F nS hr σ 5 d) (h3F nS nM w hr σ 24 d) (h3F nS nM w hr σ 25 d) := by
  obtain ⟨j0, j1, j2, -⟩ := stages hK h hh hw e5
  obtain ⟨hM, h14⟩ := h.1.2.2.1
  obtain ⟨s, hs, es⟩ := h.1.2.2.2.2.1
  obtain ⟨g1, g2⟩ := h3_g hK h hh hw e5 hd
  obtain ⟨q4, q5⟩ := h2F_45 h hd
  obtain ⟨b1, b2, b3, b4⟩ := j2.2.b4 hd
  rw [g1, g2]
  have z1 : sp_X5_leaksInto (ι d) σ = some (lsum σ d (ι (tdN (hr + 1))) nS) := by
    unfold sp_X5_leaksInto
    rw [h.1.1.2, ι_one, td9 _ (by omega), b1s]
    exact leakIn9 h hd _ nS 0 200 (by omega) (by have := h.1.2.1.1; omega)
  obtain ⟨x2, z2⟩ : ∃ x2, σ 4 d + lsum σ d (ι (tdN (hr + 1))) nS = x2 := ⟨_, rfl⟩
  rw [z2] at q4 q5
  generalize hF : h2F nS hr σ 4 d = F at *
  generalize hT : h2F nS hr σ 5 d = T at *
  obtain ⟨-, u0, u1⟩ := bl_v (f := F) (s := s) b2 (by omega) hs
  obtain ⟨-, w0, w1⟩ := bl_v (f := T) (s := s) b3 (by omega) hs
  rw [← es] at u0 u1 w0 w1
  obtain ⟨rg1, rg2⟩ := room_gof (σ := σ) (to := bs d w) u0 w0 (by omega)
  have Y9 := boomOn9 (σ := σ) hM h14 hd hw
  have hy20 : ∀ b, bmN σ d w nM 0 = some b → b < 20 := fun b q => by have := (bmN_lt q).1; omega
  generalize bmN σ d w nM 0 = y at *
  have cl : ∃ ν7 : Nat → Int32, ν7 1 = F ∧ ν7 2 = T ∧ sp_X5_weigh (ι d) σ ν = (if oI y = -1 then sp_X5_weigh_119 σ (ι d) ν7 else if oI y < 0 ∨ 20 ≤ (oI y).toNatClampNeg then none else if σ 18 (oI y).toNatClampNeg < σ 0 6 then sp_X5_weigh_119 σ (ι d) ν7 else sp_X5_weigh_120 σ (ι d) 1 ν7) := by
    refine ⟨upd (upd ν 1 F) 2 T, by rw [upd_o (by decide), upd_s], upd_s _ _ _, ?_⟩
    unfold sp_X5_weigh
    rw [ix hd (by omega), z1, b1s, sls, ι_nat (by omega), z2, sls, sls, sls, ix2 hd (by omega), sls, sls, e5, Y9, b1s]
    rw [show x2 - x2 / 20 - (x2 - x2 / 20) / 10 = F from q4.symm, show σ 5 d + (x2 - x2 / 20) / 10 - (σ 5 d + (x2 - x2 / 20) / 10) / 50 = T from q5.symm]
  have c119 : ∀ ν7 : Nat → Int32, ν7 1 = F → ν7 2 = T → ∃ ν', sp_X5_weigh_119 σ (ι d) ν7 = some ν' ∧ Wn ν' F T (gof σ (bs d w) (bl F (σ 0 6))) (got σ (bs d w) (bl F (σ 0 6)) (bl T (σ 0 6))) := by
    intro ν7 h1 h2
    obtain ⟨ν', a1, a2⟩ := wgh139 (σ := σ) (room := roomB σ (bs d w)) h1 h2
    rw [rg1, rg2] at a2
    refine ⟨ν', ?_, a2⟩
    unfold sp_X5_weigh_119 sp_X5_weigh_120
    rw [if_pos rfl, room9 h.1 hd hw e5, b1s, a1]
  have c120 : ∀ ν7 : Nat → Int32, ν7 1 = F → ν7 2 = T → ∃ ν', sp_X5_weigh_120 σ (ι d) 1 ν7 = some ν' ∧ Wn ν' F T 0 0 := by
    intro ν7 h1 h2
    obtain ⟨ν', a1, a2⟩ := wgh139 (σ := σ) (room := 0) h1 h2
    have t0 : (0 : Int32).toInt = 0 := rfl
    have k1 : iMin (bl F (σ 0 6)) 0 = 0 := Int32.toInt_inj.mp (by rw [iMin_int, t0]; omega)
    have k2 : iMin (bl T (σ 0 6)) 0 = 0 := Int32.toInt_inj.mp (by rw [iMin_int, t0]; omega)
    rw [k1, show (0 : Int32) - 0 = 0 from rfl, k2] at a2
    refine ⟨ν', ?_, a2⟩
    unfold sp_X5_weigh_120
    rw [if_neg (by decide), a1]
  obtain ⟨ν7, h71, h72, h7⟩ := cl
  obtain ⟨ν', v1, v2⟩ := c119 ν7 h71 h72
  rw [h7]
  cases y with
  | none => exact ⟨ν', by rw [show oI none = -1 from rfl, if_pos rfl]; exact v1, v2⟩
  | some b =>
    have hb := hy20 b rfl
    rw [show oI (some b) = ι b from rfl, if_neg (oI_ne' hb), ix hb (by omega), ι_nat (by omega)]
    unfold pk
    dsimp only
    by_cases q : σ 18 b < σ 0 6
    · rw [if_pos q, if_pos q, if_pos q]
      exact ⟨ν', v1, v2⟩
    · rw [if_neg q, if_neg q, if_neg q]
      exact c120 ν7 h71 h72
/-- what comes by the wind: from water alone -/
theorem inc_frm {nS nM hr : Nat} {K : Int} (hK : K ≤ 400000) {σ : St} (h : I2 nS nM hr K σ) (hh : hr + 1 < 3000) {w : Nat} (hw : w < 4) (e5 : σ 0 5 = ι w) {c : Nat} (hc : c < 24) {f : Nat → Int32} (hf : ∀ a, a < 24 → h3F nS nM w hr σ 24 a = 0 → h3F nS nM w hr σ 25 a = 0 → f a = 0) :
    inc w 24 (h3F nS nM w hr σ) c f = match frm σ c w with | none => 0 | some a => f a := by
  obtain ⟨j0, j1, j2, ⟨j3, g3⟩, -⟩ := stages hK h hh hw e5
  unfold inc frm
  cases hb : bs c (op w) with
  | none => rfl
  | some a =>
    have ha := bs_lt hc (op_lt w hw) hb
    dsimp only
    rw [if_pos ha]
    by_cases g : σ 2 a = 0
    · rw [if_pos g]
    · rw [if_neg g]
      dsimp only
      obtain ⟨x1, x2, x3, x4, -⟩ := g3 a ha
      have g' : ¬ h3F nS nM w hr σ 2 a = 0 := by
        rw [show h3F nS nM w hr σ 2 a = h2F nS hr σ 2 a from loN_o (by decide) (by decide) (by decide) 24, h2F_o (by decide) (by decide) (by decide) (by decide) (by decide)]
        exact g
      have y4 := (j3.2.1 a ha).2 g'
      have y5 := (j3.2.2.1 a ha).2 g'
      have z0 : (0 : Int32).toInt = 0 := rfl
      exact hf a ha (Int32.toInt_inj.mp (by rw [z0]; omega)) (Int32.toInt_inj.mp (by rw [z0]; omega))
theorem h4_6 {nS nM hr : Nat} {K : Int} (hK : K ≤ 400000) {σ : St} (h : I2 nS nM hr K σ) (hh : hr + 1 < 3000) {w : Nat} (hw : w < 4) (e5 : σ 0 5 = ι w) {c : Nat} (hc : c < 24) (g : ¬ σ 2 c = 0) :
    h4F nS nM w hr σ 6 c = σ 6 c + match frm σ c w with | none => 0 | some a => h3F nS nM w hr σ 24 a + h3F nS nM w hr σ 25 a := by
  obtain ⟨-, -, v6⟩ := drN_v (σ := h3F nS nM w hr σ) hw hc 24 (Nat.le_refl _)
  have o : ∀ k, k ≠ 0 → k ≠ 4 → k ≠ 5 → k ≠ 12 → k ≠ 23 → k ≠ 20 → k ≠ 24 → k ≠ 25 → h3F nS nM w hr σ k c = σ k c := fun k a0 a4 a5 a12 a23 a20 a24 a25 => (loN_o a20 a24 a25 24).trans (h2F_o a0 a4 a5 a12 a23)
  rw [o 2 (by decide) (by decide) (by decide) (by decide) (by decide) (by decide) (by decide) (by decide), o 6 (by decide) (by decide) (by decide) (by decide) (by decide) (by decide) (by decide) (by decide), if_neg g, inc_frm hK h hh hw e5 hc (fun a _ q1 q2 => by rw [q1, q2]; rfl)] at v6
  exact v6
theorem land9 {nS nM hr : Nat} {K : Int} (hK : K ≤ 400000) {σ : St} (h : I2 nS nM hr K σ) (hh : hr + 1 < 3000) {w : Nat} (hw : w < 4) (e5 : σ 0 5 = ι w) {c : Nat} (hc : c < 24) (g : ¬ σ 2 c = 0) (ν : Nat → Int32) : ∃ ν', sp_X5_landedOn (ι c) σ ν = some (h4F nS nM w hr σ 6 c, ν') := by
  rw [h4_6 hK h hh hw e5 hc g]
  unfold sp_X5_landedOn
  rw [ix hc (by omega), ι_nat (by omega), sls, against9 hc hw e5, b1s]
  cases hf : frm σ c w with
  | none =>
    refine ⟨ν, ?_⟩
    rw [show oI none = -1 from rfl, if_pos rfl, Int32.add_zero]
  | some d =>
    have hd : d < 24 := by
      unfold frm at hf
      cases hb : bs c (op w) with
      | none => rw [hb] at hf; cases hf
      | some a =>
        rw [hb] at hf
        dsimp only at hf
        by_cases q : σ 2 a = 0
        · rw [if_pos q] at hf; cases hf; exact bs_lt hc (op_lt w hw) hb
        · rw [if_neg q] at hf; cases hf
    obtain ⟨ν', a1, a2, a3, a4, a5⟩ := weigh9 hK h hh hw e5 hd ν
    refine ⟨ν', ?_⟩
    rw [show oI (some d) = ι d from rfl, if_neg (oI_ne hd), a1, b1s, sls, a4, a5]
/-- what is given back to c by its neighbour on the way v -/
def gv (σ σ4 : St) (hr c v : Nat) : Int32 := if tdN (hr + 1) = 6 then (match bs c v with | none => 0 | some d => if low (σ 2) d = some c then bk (σ 2 d) (σ4 6 d) else 0) else 0
theorem give9 {nS nM hr : Nat} {K : Int} (hK : K ≤ 400000) {σ : St} (h : I2 nS nM hr K σ) (hh : hr + 1 < 3000) {w : Nat} (hw : w < 4) (e5 : σ 0 5 = ι w) {c v : Nat} (hc : c < 24) (hv : v < 4) (ν : Nat → Int32) : ∃ ν', sp_X5_givenBackTo (ι c) (oI (bs c v)) σ ν = some (gv σ (h4F nS nM w hr σ) hr c v, ν') := by
  unfold sp_X5_givenBackTo gv
  cases hb : bs c v with
  | none =>
    refine ⟨ν, ?_⟩
    rw [show oI none = -1 from rfl, if_pos rfl]
    dsimp only
    split <;> rfl
  | some d =>
    have hd := bs_lt hc hv hb
    rw [show oI (some d) = ι d from rfl, if_neg (oI_ne hd), isWater9 hd, b1s]
    dsimp only
    by_cases g : σ 2 d = 0
    · refine ⟨ν, ?_⟩
      rw [if_pos g, if_neg (by decide), g, bk0]
      have e0 : (if tdN (hr + 1) = 6 then (if low (σ 2) d = some c then (0 : Int32) else 0) else 0) = 0 := by split <;> (try split) <;> rfl
      rw [e0]
    · rw [if_neg g, if_pos rfl, high9 h.1 (by omega), b1s]
      by_cases t : tdN (hr + 1) = 6
      · rw [if_pos t, if_neg (by decide), if_pos t, low9 hd, b1s]
        by_cases l : low (σ 2) d = some c
        · obtain ⟨ν', a1⟩ := land9 hK h hh hw e5 hd g ν
          refine ⟨ν', ?_⟩
          rw [l, show oI (some c) = ι c from rfl, if_pos rfl, a1, b2s, backOf9 h.1 hd, b1s, if_pos rfl]
        · refine ⟨ν, ?_⟩
          have nl : ¬ oI (low (σ 2) d) = ι c := by
            cases hl : low (σ 2) d with
            | none => rw [show oI none = -1 from rfl]; exact fun q => oI_ne hc q.symm
            | some e =>
              have he := low_ok hd e hl
              rw [show oI (some e) = ι e from rfl, ι_inj (by omega) (by omega)]
              exact fun q => l (by rw [hl, q])
          rw [if_neg nl, if_neg l]
      · refine ⟨ν, ?_⟩
        rw [if_neg t, if_pos rfl, if_neg t]
def bsum (σ σ4 : St) (hr c : Nat) : Nat → Int32
  | 0 => 0
  | v + 1 => bsum σ σ4 hr c v + gv σ σ4 hr c v
theorem backL {nS nM hr : Nat} {K : Int} (hK : K ≤ 400000) {σ : St} (h : I2 nS nM hr K σ) (hh : hr + 1 < 3000) {w : Nat} (hw : w < 4) (e5 : σ 0 5 = ι w) {c : Nat} (hc : c < 24) (F y0 : Int32) :
    ∀ (j v n : Nat) (ν : Nat → Int32), v + j = 4 → j < n → ∃ ν', sp_X5_floatingOf_61 σ (ι c) F n (y0 + bsum σ (h4F nS nM w hr σ) hr c v) (ι v) ν = b1 (sp_X5_leftBySkimmers (ι c) F (y0 + bsum σ (h4F nS nM w hr σ) hr c 4) σ) (fun x => some (x, ν')) := by
  intro j
  induction j with
  | zero =>
    intro v n ν h1 h2
    obtain ⟨n, rfl⟩ : ∃ q, n = q + 1 := ⟨n - 1, by omega⟩
    have ev : v = 4 := by omega
    subst ev
    exact ⟨ν, by rw [sp_X5_floatingOf_61, if_pos (by decide)]⟩
  | succ j ih =>
    intro v n ν h1 h2
    obtain ⟨n, rfl⟩ : ∃ q, n = q + 1 := ⟨n - 1, by omega⟩
    have hv : v < 4 := by omega
    have q3 : ¬ (3 : Int32) < ι v := by rw [show (3 : Int32) = ι 3 from rfl, ι_lt (by omega) (by omega)]; omega
    obtain ⟨ν1, a1⟩ := give9 hK h hh hw e5 hc hv ν
    obtain ⟨ν', z1⟩ := ih (v + 1) n ν1 (by omega) (by omega)
    refine ⟨ν', ?_⟩
    have T : bsum σ (h4F nS nM w hr σ) hr c (v + 1) = bsum σ (h4F nS nM w hr σ) hr c v + gv σ (h4F nS nM w hr σ) hr c v := rfl
    rw [T, ← Int32.add_assoc] at z1
    rw [sp_X5_floatingOf_61, if_neg q3, bs9 c hc v hv, b1s, a1, b2s, sls, ι_one, z1]
theorem skimL {nS nM hr : Nat} {K : Int} {σ : St} (h : I2 nS nM hr K σ) {c : Nat} (p : Int32 × Int32) :
    ∀ (j m n : Nat), m + j = nM → j < n → sp_X5_leftBySkimmers_9 σ (ι c) n (skp σ c p m).1 (skp σ c p m).2 (ι m) = some ((skp σ c p nM).1 + (skp σ c p nM).2) := by
  obtain ⟨hM, e14⟩ := h.1.2.2.1
  intro j
  induction j with
  | zero =>
    intro m n h1 h2
    obtain ⟨n, rfl⟩ : ∃ q, n = q + 1 := ⟨n - 1, by omega⟩
    have em : m = nM := by omega
    subst em
    rw [sp_X5_leftBySkimmers_9, e14, if_pos (Int32.le_refl _)]
  | succ j ih =>
    intro m n h1 h2
    obtain ⟨n, rfl⟩ : ∃ q, n = q + 1 := ⟨n - 1, by omega⟩
    have q : ¬ ι nM ≤ ι m := by rw [ι_le (by omega) (by omega)]; omega
    have hm : m < 20 := by omega
    have e := ih (m + 1) n (by omega) (by omega)
    have T : skp σ c p (m + 1) = if σ 15 m = 1 ∧ σ 16 m = ι c then ((skp σ c p m).1 - sf (σ 18 m) (skp σ c p m).1 (σ 19 m - σ 20 m), (skp σ c p m).2 - sth (σ 18 m) (sf (σ 18 m) (skp σ c p m).1 (σ 19 m - σ 20 m)) (skp σ c p m).2 (σ 19 m - σ 20 m)) else skp σ c p m := rfl
    rw [T] at e
    have sk : sp_X4_isSkimmer (ι m) (ι c) σ = some (if σ 15 m = 1 then (if σ 16 m = ι c then 1 else 0) else 0) := by
      unfold sp_X4_isSkimmer
      rw [ix hm (by omega), ι_nat (by omega), ix2 hm (by omega)]
      by_cases u : σ 15 m = 1
      · rw [if_pos u, if_pos u]
        by_cases v : σ 16 m = ι c
        · rw [if_pos v, if_pos v]
        · rw [if_neg v, if_neg v]
      · rw [if_neg u, if_neg u]
    rw [sp_X5_leftBySkimmers_9, e14, if_neg q, sk, b1s]
    by_cases u : σ 15 m = 1
    · by_cases v : σ 16 m = ι c
      · have uv : σ 15 m = 1 ∧ σ 16 m = ι c := ⟨u, v⟩
        rw [if_pos uv] at e
        rw [if_pos u, if_pos v, if_neg (by decide), ft9 hm, b1s, sls, tt9 hm, b1s, sls, ι_one]
        exact e
      · have uv : ¬ (σ 15 m = 1 ∧ σ 16 m = ι c) := fun z => v z.2
        rw [if_neg uv] at e
        rw [if_pos u, if_neg v, if_pos rfl, ι_one]
        exact e
    · have uv : ¬ (σ 15 m = 1 ∧ σ 16 m = ι c) := fun z => u z.1
      rw [if_neg uv] at e
      rw [if_neg u, if_pos rfl, ι_one]
      exact e
theorem skp_congr {τ σ : St} {c : Nat} {p : Int32 × Int32} : ∀ n, (∀ m, m < n → τ 15 m = σ 15 m ∧ τ 16 m = σ 16 m ∧ τ 18 m = σ 18 m ∧ τ 19 m = σ 19 m ∧ (σ 15 m = 1 → τ 20 m = σ 20 m)) → skp τ c p n = skp σ c p n
  | 0, _ => rfl
  | m + 1, h => by
    have ih := skp_congr (c := c) (p := p) m (fun k hk => h k (by omega))
    obtain ⟨e1, e2, e3, e4, e5⟩ := h m (Nat.lt_succ_self m)
    show (if τ 15 m = 1 ∧ τ 16 m = ι c then ((skp τ c p m).1 - sf (τ 18 m) (skp τ c p m).1 (τ 19 m - τ 20 m), (skp τ c p m).2 - sth (τ 18 m) (sf (τ 18 m) (skp τ c p m).1 (τ 19 m - τ 20 m)) (skp τ c p m).2 (τ 19 m - τ 20 m)) else skp τ c p m) = (if σ 15 m = 1 ∧ σ 16 m = ι c then ((skp σ c p m).1 - sf (σ 18 m) (skp σ c p m).1 (σ 19 m - σ 20 m), (skp σ c p m).2 - sth (σ 18 m) (sf (σ 18 m) (skp σ c p m).1 (σ 19 m - σ 20 m)) (skp σ c p m).2 (σ 19 m - σ 20 m)) else skp σ c p m)
    rw [ih, e1, e2, e3, e4]
    by_cases g : σ 15 m = 1 ∧ σ 16 m = ι c
    · rw [if_pos g, if_pos g, e5 g.1]
    · rw [if_neg g, if_neg g]
