/-! the acts -/
def RA (k : Nat) (z : Z8) : Prop := ∃ (nS nM hr : Nat) (B : Int), z.1 = ι nS ∧ z.2.1 = ι nM ∧ z.2.2.1.toInt = B ∧ B ≤ 9000 * (nS : Int) ∧ hr ≤ 9 * k ∧ Iv nS nM hr B z.2.2.2.1 z.2.2.2.2.2.2.1 ∧ z.2.2.2.2.2.2.2 = πI
def GA (k : Nat) (o : Option Z8) : Prop := ∃ z, o = some z ∧ RA (k + 1) z
theorem act940 {i5 : Int32} {k nS nM hr : Nat} {B : Int} {br : Int32} {σ τ δ : St} {ν : Nat → Int32} (h : Iv nS nM hr B σ δ) (hb : br.toInt = B) (hB : B ≤ 9000 * (nS : Int)) (hh : hr ≤ 9 * (k + 1)) : GA k (sg_act_940 i5 (ι nS) (ι nM) br σ τ ν δ πI) := by
  have r : RA (k + 1) (ι nS, ι nM, br, σ, τ, ν, δ, πI) := ⟨nS, nM, hr, B, rfl, rfl, hb, hB, hh, h, rfl⟩
  refine ⟨_, ?_, r⟩
  unfold sg_act_940
  rw [closes9 h hb, b1s, if_neg (show ¬ (1 : Int32) = 0 by decide)]
  exact ite_self _
theorem act200 {i5 : Int32} {k nS nM hr : Nat} {B : Int} {br : Int32} {σ τ δ : St} {ν : Nat → Int32} (h : Iv nS nM hr B σ δ) (hb : br.toInt = B) (hB : B ≤ 9000 * (nS : Int)) (hh : hr ≤ 9 * k) {c : Nat} (hc : c < 24) (g e : Int32) (hn : ¬ (σ 2 c = 0 ∧ nS < 4)) : GA k (sg_act_200 i5 (ι nS) (ι nM) br g e (ι c) σ τ ν δ πI) := by
  obtain ⟨x, ex, x0, x1⟩ := lowV g 99999 (by decide)
  have q : sg_act_200 i5 (ι nS) (ι nM) br g e (ι c) σ τ ν δ πI = sg_act_940 i5 (ι nS) (ι nM) br σ τ ν δ πI := by
    unfold sg_act_200 sg_act_201
    rw [ex, b1s, sls, b1s, (tryShip h.1 hc x0 0).2 hn, b2s, if_pos (show (0 : Int32) = 0 from rfl)]
    unfold sg_act_243
    rw [if_pos (show (-200 : Int32) = -200 from rfl), if_pos (show (0 : Int32) = 0 from rfl)]
    rfl
  rw [q]
  exact act940 h hb hB (by omega)
theorem act201 {i5 : Int32} {k nS nM hr : Nat} {B : Int} {br : Int32} {σ τ δ : St} {ν : Nat → Int32} (h : Iv nS nM hr B σ δ) (hb : br.toInt = B) (hB : B ≤ 9000 * (nS : Int)) (hh : hr ≤ 9 * k) {c : Nat} (hc : c < 24) (g e : Int32) (hw : σ 2 c = 0) (hn : nS < 4) : GA k (sg_act_201 i5 (ι nS) (ι nM) br g e (ι c) 1 σ τ ν δ πI) := by
  obtain ⟨x, ex, x0, x1⟩ := lowV g 99999 (by decide)
  obtain ⟨l0, l1⟩ := remV x0 (n := 9000) (by decide)
  rw [show (9000 : Int32).toInt = 9000 from rfl] at l1
  obtain ⟨y, hy, ey⟩ := lowN (e >>> ((5 : Int32) &&& 31)) (n := 100) (by omega) (by omega)
  have ey' : sp_L_low (e >>> ((5 : Int32) &&& 31)) (100 : Int32) = some (ι y) := ey
  have hS : Iv (nS + 1) nM hr (B + (x - x / 9000 * 9000).toInt) (shS σ nS c (x - x / 9000 * 9000)) δ := U_ship h hn hc hw l0 (by omega)
  obtain ⟨v, ev⟩ := hole9 hS.1 (s := nS) (y := y) (by omega) hy
  have b0 : 0 ≤ B := by
    obtain ⟨⟨q0, -⟩, q1, q2, q3, q4⟩ := h.2.1
    have := rs12_nn h.1.2
    omega
  have q : sg_act_201 i5 (ι nS) (ι nM) br g e (ι c) 1 σ τ ν δ πI = sg_act_940 i5 (ι (nS + 1)) (ι nM) (br + (x - x / 9000 * 9000)) (stU (shS σ nS c (x - x / 9000 * 9000)) 13 nS (ι y)) τ ν δ πI := by
    unfold sg_act_201
    rw [ex, b1s, sls, b1s, (tryShip h.1 hc x0 0).1 ⟨hw, hn⟩, b2s, if_neg (show ¬ (1 : Int32) = 0 by decide)]
    unfold sg_act_243
    rw [if_pos (show ι nS = ι nS from rfl), if_neg (show ¬ (1 : Int32) = 0 by decide), ey', b1s, ev, bt2s, sls, ι_one]
    rfl
  rw [q]
  exact act940 (U_hole hS hy) (by rw [t_add (by omega) (by omega), hb]) (by omega) (by omega)
theorem act359n {i5 : Int32} {k nS nM hr : Nat} {B : Int} {br its : Int32} {σ τ δ : St} {ν : Nat → Int32} (h : Iv nS nM hr B σ δ) (hb : br.toInt = B) (hB : B ≤ 9000 * (nS : Int)) (hh : hr ≤ 9 * k) (hi : its < 0) : GA k (sg_act_359 i5 (ι nS) (ι nM) br its σ τ ν δ πI) := by
  unfold sg_act_359 sg_act_370
  rw [if_pos hi, sls, Int32.add_zero]
  exact act940 h hb hB (by omega)
theorem act359p {i5 : Int32} {k nS nM hr : Nat} {B : Int} {br its : Int32} {σ τ δ : St} {ν : Nat → Int32} (h : Iv nS (nM + 1) hr B σ δ) (hb : br.toInt = B) (hB : B ≤ 9000 * (nS : Int)) (hh : hr ≤ 9 * k) (hi : ¬ its < 0) : GA k (sg_act_359 i5 (ι nS) (ι nM) br its σ τ ν δ πI) := by
  unfold sg_act_359 sg_act_370
  rw [if_neg hi, sls, ι_one]
  exact act940 h hb hB (by omega)
theorem act411 {i5 : Int32} {k nS nM hr : Nat} {B : Int} {br : Int32} {σ τ δ : St} {ν : Nat → Int32} (h : Iv nS nM hr B σ δ) (hb : br.toInt = B) (hB : B ≤ 9000 * (nS : Int)) (hh : hr ≤ 9 * k) (hn : nM < 20) {p : Nat} (p1 : 1 ≤ p) (p5 : p ≤ 50) (t : Int32) : GA k (sg_act_411 i5 (ι nS) (ι nM) br (ι p) t σ τ ν δ πI) := by
  unfold sg_act_411
  rw [team9 h.1 hn p1 p5 t, bt2s, if_pos rfl, ι_one]
  exact act940 (U_mean h hn (Or.inr (Or.inr rfl)) (fun q => absurd q (by decide)) (fun _ => ⟨p, p5, rfl⟩)) hb hB (by omega)
theorem act_wind {i5 : Int32} {k nS nM hr : Nat} {B : Int} {br : Int32} {σ τ δ : St} {ν : Nat → Int32} (h : Iv nS nM hr B σ δ) (hb : br.toInt = B) (hB : B ≤ 9000 * (nS : Int)) (hh : hr ≤ 9 * k) (g e x wf : Int32) : GA k (sg_act_426 i5 (ι nS) (ι nM) br g e x wf 4 σ τ ν δ πI) := by
  obtain ⟨w, hw, e1⟩ := lowN g (n := 4) (by omega) (by omega)
  obtain ⟨y, hy, e2⟩ := lowN (e >>> ((3 : Int32) &&& 31)) (n := 10) (by omega) (by omega)
  have e1' : sp_L_low g (4 : Int32) = some (ι w) := e1
  have e2' : sp_L_low (e >>> ((3 : Int32) &&& 31)) (10 : Int32) = some (ι y) := e2
  obtain ⟨v, ev⟩ := wind9 (σ := σ) hw hy
  unfold sg_act_426
  rw [if_pos (show (4 : Int32) = 4 from rfl), e1', b1s, e2', b1s, ev, bt2s]
  exact act940 (U_wind h hw hy) hb hB (by omega)
theorem act545 {i5 : Int32} {k nS nM hr : Nat} {B W S : Int} {br st wa its more : Int32} {σ τ δ : St} {ν : Nat → Int32} (h : Iv nS nM hr B σ δ) (hb : br.toInt = B) (hB : B ≤ 9000 * (nS : Int)) (hh : hr ≤ 9 * k) {e : Int32} {a : Nat} (ha : a < 3) (ea : sp_L_low (e >>> ((7 : Int32) &&& 31)) (3 : Int32) = some (ι a)) (hwa : wa.toInt = W) (hW : 0 ≤ W) (hst : st.toInt = S) (hm0 : more = 0 → Ws δ = W) (hm1 : ¬ more = 0 → Ws δ = W + its.toInt ∧ 0 < its.toInt) (h1 : a = 1 → 0 ≤ its.toInt → sto nM σ = S - its.toInt) : GA k (sg_act_545 i5 (ι nS) (ι nM) br e st wa its more σ τ ν δ πI) := by
  obtain ⟨-, -, -, -, -, -, -, -, -, -, -, bs, bw, -⟩ := h.2.1.bd h.1
  have s0 := sto_nn h.1.1.2.2.1.1 h.1.2
  obtain ⟨x, s11, v11⟩ := sumV h.1 h.2.1 h.2.2.2.2.2 (k := 11) (by omega) (by omega)
  obtain ⟨x8, s8, v8⟩ := sumV h.1 h.2.1 h.2.2.2.2.2 (k := 8) (by omega) (by omega)
  have s11' : sp_X9_sum (11 : Int32) σ δ = some (.inl x) := s11
  have s8' : sp_X9_sum (8 : Int32) σ δ = some (.inl x8) := s8
  have v11' : x.toInt = Ws δ := v11
  have v8' : x8.toInt = sto nM σ := v8
  have z0 : (0 : Int32).toInt = 0 := rfl
  have K : GA k (sg_act_940 i5 (ι nS) (ι nM) br σ τ ν δ πI) := act940 h hb hB (by omega)
  have g564 : ∀ add : Int32, x = wa + add → GA k (sg_act_564 i5 (ι nS) (ι nM) br e st its x wa add σ τ ν δ πI) := by
    intro add hx
    unfold sg_act_564 sg_act_602
    rw [if_pos hx, ea, b1s]
    by_cases g1 : a = 1
    · subst g1
      rw [if_pos (show ι 1 = 1 from rfl)]
      by_cases g2 : its < 0
      · rw [if_pos g2]; exact K
      · rw [Int32.lt_iff_toInt_lt, z0] at g2
        have q := h1 rfl (by omega)
        rw [if_neg (by rw [Int32.lt_iff_toInt_lt, z0]; exact g2), s8', bt1s, if_pos (Int32.toInt_inj.mp (by rw [t_sub (by omega) (by omega), v8', q, hst]))]
        exact K
    · rw [if_neg (by rw [show (1 : Int32) = ι 1 from rfl, ι_inj (by omega) (by omega)]; exact g1)]
      exact K
  unfold sg_act_545
  rw [s11', bt1s]
  by_cases gm : more = 0
  · rw [if_pos gm]
    exact g564 0 (Int32.toInt_inj.mp (by rw [Int32.add_zero, v11', hwa, hm0 gm]))
  · rw [if_neg gm]
    obtain ⟨q1, q2⟩ := hm1 gm
    exact g564 its (Int32.toInt_inj.mp (by rw [t_add (by omega) (by omega), v11', hwa, q1]))
theorem act_mean {i5 : Int32} {k nS nM hr : Nat} {B : Int} {br : Int32} {σ τ δ : St} {ν : Nat → Int32} (h : Iv nS nM hr B σ δ) (hb : br.toInt = B) (hB : B ≤ 9000 * (nS : Int)) (hh : hr ≤ 9 * k) (g e wf : Int32) {c : Nat} (hc : c < 24) : GA k (sg_act_426 i5 (ι nS) (ι nM) br g e (ι c) wf 5 σ τ ν δ πI) := by
  have hM := h.1.1.2.2.1.1
  obtain ⟨m, hm, e1⟩ := lowN g (n := nM + 1) (by omega) (by omega)
  obtain ⟨a, ha, e2⟩ := lowN (e >>> ((7 : Int32) &&& 31)) (n := 3) (by omega) (by omega)
  have e2' : sp_L_low (e >>> ((7 : Int32) &&& 31)) (3 : Int32) = some (ι a) := e2
  obtain ⟨x, s11, v11⟩ := sumV h.1 h.2.1 h.2.2.2.2.2 (k := 11) (by omega) (by omega)
  obtain ⟨x8, s8, v8⟩ := sumV h.1 h.2.1 h.2.2.2.2.2 (k := 8) (by omega) (by omega)
  have s11' : sp_X9_sum (11 : Int32) σ δ = some (.inl x) := s11
  have s8' : sp_X9_sum (8 : Int32) σ δ = some (.inl x8) := s8
  have v11' : x.toInt = Ws δ := v11
  have v8' : x8.toInt = sto nM σ := v8
  have z0 : (0 : Int32).toInt = 0 := rfl
  have w0 : 0 ≤ Ws δ := h.2.1.2.1
  obtain ⟨its, σ', δ', em, hI, hn, hW, hs⟩ := mean9 h ha hm hc
  have g529 : ∀ more : Int32, (more = 0 → ¬ (a < 2 ∧ 0 < its.toInt)) → (¬ more = 0 → a < 2 ∧ 0 < its.toInt) → GA k (sg_act_529 i5 (ι nS) (ι nM) br e (ι m) x8 x its more σ' τ ν δ' πI) := by
    intro more q1 q2
    have K : GA k (sg_act_545 i5 (ι nS) (ι nM) br e x8 x its more σ' τ ν δ' πI) := act545 hI hb hB hh ha e2' v11' w0 v8' (fun q => by have := q1 q; rw [if_neg this] at hW; omega) (fun q => by have := q2 q; rw [if_pos this] at hW; exact ⟨hW, this.2⟩) hs
    unfold sg_act_529
    by_cases gm : m < nM
    · rw [if_pos (by rw [ι_lt (by omega) (by omega)]; exact gm)]; exact K
    · rw [if_neg (by rw [ι_lt (by omega) (by omega)]; exact gm), if_pos (hn (by omega))]; exact K
  unfold sg_act_426
  rw [if_neg (show ¬ (5 : Int32) = 4 by decide), if_pos (show (5 : Int32) = 5 from rfl), ι_one, e1, b1s, s8', bt1s, s11', bt1s, e2', b1s, em, b3s, b1s]
  unfold sg_act_528
  by_cases g1 : a = 2
  · rw [if_pos (by rw [show (2 : Int32) = ι 2 from rfl, ι_le (by omega) (by omega)]; omega)]
    exact g529 0 (fun _ q => by omega) (fun q => absurd rfl q)
  · rw [if_neg (by rw [show (2 : Int32) = ι 2 from rfl, ι_le (by omega) (by omega)]; omega)]
    by_cases g2 : its ≤ 0
    · rw [if_pos g2]
      rw [Int32.le_iff_toInt_le, z0] at g2
      exact g529 0 (fun _ q => by omega) (fun q => absurd rfl q)
    · rw [if_neg g2]
      rw [Int32.le_iff_toInt_le, z0] at g2
      exact g529 1 (fun q => absurd q (by decide)) (fun _ => ⟨by omega, by omega⟩)
