/-! each litre somewhere -/
def sto (nM : Nat) (σ : St) : Int := Sm nM (fun m => if σ 15 m = 1 then (σ 20 m).toInt else 0)
def oil (σ : St) : Int := rs σ 4 24 + rs σ 5 24 + rs σ 6 24
def bk5 (σ : St) : Int := (σ 23 2).toInt + (σ 23 3).toInt + (σ 23 4).toInt + (σ 23 5).toInt + (σ 23 6).toInt
def Bn (σ : St) : Prop := 0 ≤ (σ 23 0).toInt ∧ 0 ≤ (σ 23 2).toInt ∧ 0 ≤ (σ 23 3).toInt ∧ 0 ≤ (σ 23 4).toInt ∧ 0 ≤ (σ 23 5).toInt ∧ 0 ≤ (σ 23 6).toInt
/-- W: the waste, B: what was brought -/
def Cq (nM : Nat) (B W : Int) (σ : St) : Prop := Bn σ ∧ 0 ≤ W ∧ B ≤ 400000 ∧ oil σ + sto nM σ + bk5 σ + W = (σ 23 0).toInt ∧ rs σ 12 4 + (σ 23 0).toInt = B
theorem sto_oth {nM : Nat} {σ : St} {k i : Nat} {x : Int32} (h15 : k ≠ 15) (h20 : k ≠ 20) : sto nM (stU σ k i x) = sto nM σ := by
  unfold sto
  refine Sm_congr (fun m _ => ?_)
  rw [stU_k (Ne.symm h15), stU_k (Ne.symm h20)]
theorem sto_no {nM : Nat} {σ : St} {i : Nat} {x : Int32} (h : ¬ σ 15 i = 1) : sto nM (stU σ 20 i x) = sto nM σ := by
  unfold sto
  refine Sm_congr (fun m _ => ?_)
  rw [stU_k (by decide)]
  by_cases e : m = i
  · subst e; rw [if_neg h, if_neg h]
  · rw [stU_i e]
theorem sto_20 {nM : Nat} {σ : St} {i : Nat} {x : Int32} (hi : i < nM) (h : σ 15 i = 1) : sto nM (stU σ 20 i x) = sto nM σ - (σ 20 i).toInt + x.toInt := by
  have := Sm_set (f := fun m => if σ 15 m = 1 then (σ 20 m).toInt else 0) (g := fun m => if stU σ 20 i x 15 m = 1 then (stU σ 20 i x 20 m).toInt else 0) hi (fun j hj => by
    show (if stU σ 20 i x 15 j = 1 then (stU σ 20 i x 20 j).toInt else 0) = _
    rw [stU_k (by decide), stU_i hj])
  unfold sto
  rw [this]
  show _ - (if σ 15 i = 1 then (σ 20 i).toInt else 0) + (if stU σ 20 i x 15 i = 1 then (stU σ 20 i x 20 i).toInt else 0) = _
  rw [stU_k (by decide), if_pos h, if_pos h, stU_same]
theorem oil_4 {σ : St} {i : Nat} {x : Int32} (hi : i < 24) : oil (stU σ 4 i x) = oil σ - (σ 4 i).toInt + x.toInt := by
  unfold oil
  rw [rs_upd hi, rs_oth (by decide), rs_oth (by decide)]; omega
theorem oil_5 {σ : St} {i : Nat} {x : Int32} (hi : i < 24) : oil (stU σ 5 i x) = oil σ - (σ 5 i).toInt + x.toInt := by
  unfold oil
  rw [rs_upd hi, rs_oth (by decide), rs_oth (by decide)]; omega
theorem oil_6 {σ : St} {i : Nat} {x : Int32} (hi : i < 24) : oil (stU σ 6 i x) = oil σ - (σ 6 i).toInt + x.toInt := by
  unfold oil
  rw [rs_upd hi, rs_oth (by decide), rs_oth (by decide)]; omega
theorem oil_o {σ : St} {k i : Nat} {x : Int32} (h4 : k ≠ 4) (h5 : k ≠ 5) (h6 : k ≠ 6) : oil (stU σ k i x) = oil σ := by
  unfold oil
  rw [rs_oth (Ne.symm h4), rs_oth (Ne.symm h5), rs_oth (Ne.symm h6)]
theorem oil_nn {nS nM : Nat} {K : Int} {σ : St} (h : I1 nS nM K σ) : 0 ≤ oil σ := by
  obtain ⟨a1, a2, a3, -⟩ := h
  have b1 : 0 ≤ rs σ 4 24 := Sm_nn (fun i hi => (a1 i hi).1)
  have b2 : 0 ≤ rs σ 5 24 := Sm_nn (fun i hi => (a2 i hi).1)
  have b3 : 0 ≤ rs σ 6 24 := Sm_nn (fun i hi => (a3 i hi).1)
  unfold oil; omega
theorem rs12_nn {nS nM : Nat} {K : Int} {σ : St} (h : I1 nS nM K σ) : 0 ≤ rs σ 12 4 := Sm_nn (fun i hi => (h.2.2.2.1 i hi).1)
theorem sto_nn {nS nM : Nat} {K : Int} {σ : St} (hM : nM ≤ 20) (h : I1 nS nM K σ) : 0 ≤ sto nM σ := by
  refine Sm_nn (fun i hi => ?_)
  show 0 ≤ (if σ 15 i = 1 then (σ 20 i).toInt else 0)
  split
  · exact ((h.2.2.2.2.1 i (by omega)).1 hi (by assumption)).1
  · exact Int.le_refl 0
/-- the bounds that follow -/
theorem Cq.bd {nS nM hr : Nat} {K B W : Int} {σ : St} (h : I2 nS nM hr K σ) (c : Cq nM B W σ) : Bn σ ∧ 0 ≤ oil σ ∧ 0 ≤ sto nM σ ∧ 0 ≤ rs σ 12 4 ∧ (σ 23 0).toInt ≤ 400000 ∧ (σ 23 2).toInt ≤ 400000 ∧ (σ 23 3).toInt ≤ 400000 ∧ (σ 23 4).toInt ≤ 400000 ∧ (σ 23 5).toInt ≤ 400000 ∧ (σ 23 6).toInt ≤ 400000 ∧ oil σ ≤ 400000 ∧ sto nM σ ≤ 400000 ∧ W ≤ 400000 ∧ rs σ 12 4 ≤ 400000 := by
  have a1 := oil_nn h.2
  have a2 := sto_nn h.1.2.2.1.1 h.2
  have a3 := rs12_nn h.2
  obtain ⟨⟨b0, b2, b3, b4, b5, b6⟩, b7, b8, b9, b10⟩ := c
  unfold bk5 at b9
  refine ⟨⟨b0, b2, b3, b4, b5, b6⟩, a1, a2, a3, ?_⟩
  omega
theorem rs_k {σ' σ : St} {k n : Nat} (h : ∀ i, σ' k i = σ k i) : rs σ' k n = rs σ k n := Sm_congr (fun i _ => by rw [h])
theorem oil_k {σ' σ : St} (h4 : ∀ i, σ' 4 i = σ 4 i) (h5 : ∀ i, σ' 5 i = σ 5 i) (h6 : ∀ i, σ' 6 i = σ 6 i) : oil σ' = oil σ := by
  unfold oil; rw [rs_k h4, rs_k h5, rs_k h6]
theorem sto_k {nM : Nat} {σ' σ : St} (h15 : ∀ i, σ' 15 i = σ 15 i) (h20 : ∀ i, σ' 20 i = σ 20 i) : sto nM σ' = sto nM σ := by
  unfold sto
  exact Sm_congr (fun m _ => by rw [h15, h20])
theorem lkS_C {nS nM hr : Nat} {K B W : Int} {σ : St} (h : I2 nS nM hr K σ) (q : Cq nM B W σ) (hK : K ≤ 400000) {s c : Nat} (hs : s < 4) (hc : c < 24) {l : Int32} (l0 : 0 ≤ l.toInt) (l1 : l.toInt ≤ (σ 12 s).toInt) : Cq nM B W (lkS σ s c l) := by
  obtain ⟨⟨b0, b2, b3, b4, b5, b6⟩, p1, p2, p3, u0, u2, u3, u4, u5, u6, u7, u8, u9, u10⟩ := q.bd h
  obtain ⟨-, q2, q3, q4, q5⟩ := q
  obtain ⟨v0, v1⟩ := h.2.b12 hs
  have v2 := h.2.p12 hs hc
  obtain ⟨-, v3, -, -⟩ := h.2.b4 hc
  have w1 : (σ 12 s - l).toInt = (σ 12 s).toInt - l.toInt := t_sub (by omega) (by omega)
  have w2 : (σ 4 c + l).toInt = (σ 4 c).toInt + l.toInt := t_add (by omega) (by omega)
  have e0 : (lkS σ s c l 23 0).toInt = (σ 23 0).toInt + l.toInt := by
    unfold lkS
    rw [noteS_0, stU_k (by decide), stU_k (by decide)]
    exact t_add (by omega) (by omega)
  have ei : ∀ i, i ≠ 0 → i ≠ 1 → lkS σ s c l 23 i = σ 23 i := fun i h0 h1 => by
    unfold lkS
    rw [noteS_i h0 h1, stU_k (by decide), stU_k (by decide)]
  have eo : oil (lkS σ s c l) = oil σ + l.toInt := by
    have : oil (lkS σ s c l) = oil (stU (stU σ 12 s (σ 12 s - l)) 4 c (σ 4 c + l)) := oil_k (fun i => noteS_o (by decide)) (fun i => noteS_o (by decide)) (fun i => noteS_o (by decide))
    rw [this, oil_4 hc, oil_o (by decide) (by decide) (by decide), stU_k (by decide), w2]
    omega
  have es : sto nM (lkS σ s c l) = sto nM σ := sto_k (fun i => lkS_o (by decide) (by decide) (by decide)) (fun i => lkS_o (by decide) (by decide) (by decide))
  have er : rs (lkS σ s c l) 12 4 = rs σ 12 4 - l.toInt := by
    have : rs (lkS σ s c l) 12 4 = rs (stU (stU σ 12 s (σ 12 s - l)) 4 c (σ 4 c + l)) 12 4 := rs_k (fun i => noteS_o (by decide))
    rw [this, rs_oth (by decide), rs_upd hs, w1]
    omega
  unfold bk5 at q4
  refine ⟨⟨by rw [e0]; omega, ?_, ?_, ?_, ?_, ?_⟩, q2, q3, ?_, ?_⟩
  · rw [ei 2 (by decide) (by decide)]; exact b2
  · rw [ei 3 (by decide) (by decide)]; exact b3
  · rw [ei 4 (by decide) (by decide)]; exact b4
  · rw [ei 5 (by decide) (by decide)]; exact b5
  · rw [ei 6 (by decide) (by decide)]; exact b6
  · unfold bk5
    rw [eo, es, e0, ei 2 (by decide) (by decide), ei 3 (by decide) (by decide), ei 4 (by decide) (by decide), ei 5 (by decide) (by decide), ei 6 (by decide) (by decide)]
    omega
  · rw [er, e0]; omega
theorem lkN_C {nS nM hr : Nat} {K B W : Int} (hK : K ≤ 400000) {σ : St} (h : I2 nS nM hr K σ) (q : Cq nM B W σ) {t : Nat} (ht : t ≤ 6) : ∀ s, s ≤ nS → Cq nM B W (lkN (ι t) s σ)
  | 0, _ => q
  | s + 1, hs => by
    have hS := h.1.2.1.1
    have ih := lkN_C hK h q ht s (by omega)
    have hi := lkN_I hK h ht s (by omega)
    obtain ⟨c, hc, h11, hw, l0, l1⟩ := lk_in hK hi (show s < nS by omega) ht
    show Cq nM B W (lkS (lkN (ι t) s σ) s (lkN (ι t) s σ 11 s).toNatClampNeg _)
    rw [h11, ι_nat (by omega)]
    exact lkS_C hi ih hK (by omega) hc l0 l1
theorem wea_C {nS nM hr : Nat} {K B W : Int} (hK : K ≤ 400000) {σ : St} (h : I2 nS nM hr K σ) (q : Cq nM B W σ) {c : Nat} (hc : c < 24) : Cq nM B W (wea σ c) := by
  obtain ⟨⟨b0, b2, b3, b4, b5, b6⟩, p1, p2, p3, u0, u2, u3, u4, u5, u6, u7, u8, u9, u10⟩ := q.bd h
  obtain ⟨-, q2, q3, q4, q5⟩ := q
  obtain ⟨c1, c2, c3, c4⟩ := h.2.b4 hc
  have va := wa_v c2
  have vt := wt_v c2
  have vk := wk_v c2 c3 (by omega)
  have v1 : (σ 4 c - wa (σ 4 c)).toInt = (σ 4 c).toInt - (wa (σ 4 c)).toInt := t_sub (by omega) (by omega)
  have v2 : (σ 4 c - wa (σ 4 c) - wt (σ 4 c)).toInt = (σ 4 c).toInt - (wa (σ 4 c)).toInt - (wt (σ 4 c)).toInt := by rw [t_sub (by omega) (by omega), v1]
  have v3 : (σ 5 c + wt (σ 4 c)).toInt = (σ 5 c).toInt + (wt (σ 4 c)).toInt := t_add (by omega) (by omega)
  have v4 : (σ 5 c + wt (σ 4 c) - wk (σ 4 c) (σ 5 c)).toInt = (σ 5 c).toInt + (wt (σ 4 c)).toInt - (wk (σ 4 c) (σ 5 c)).toInt := by rw [t_sub (by omega) (by omega), v3]
  have v5 : (σ 23 2 + wa (σ 4 c)).toInt = (σ 23 2).toInt + (wa (σ 4 c)).toInt := t_add (by omega) (by omega)
  have v6 : (σ 23 3 + wk (σ 4 c) (σ 5 c)).toInt = (σ 23 3).toInt + (wk (σ 4 c) (σ 5 c)).toInt := t_add (by omega) (by omega)
  rw [wea_S]
  have e0 : weaS 4 c 5 c 23 2 23 3 σ 23 0 = σ 23 0 := by unfold weaS; rw [stU_i (by decide), stU_i (by decide), stU_k (by decide), stU_k (by decide)]
  have e2 : (weaS 4 c 5 c 23 2 23 3 σ 23 2).toInt = (σ 23 2).toInt + (wa (σ 4 c)).toInt := by unfold weaS; rw [stU_i (by decide), stU_same]; exact v5
  have e3 : (weaS 4 c 5 c 23 2 23 3 σ 23 3).toInt = (σ 23 3).toInt + (wk (σ 4 c) (σ 5 c)).toInt := by unfold weaS; rw [stU_same]; exact v6
  have e4 : weaS 4 c 5 c 23 2 23 3 σ 23 4 = σ 23 4 := by unfold weaS; rw [stU_i (by decide), stU_i (by decide), stU_k (by decide), stU_k (by decide)]
  have e5 : weaS 4 c 5 c 23 2 23 3 σ 23 5 = σ 23 5 := by unfold weaS; rw [stU_i (by decide), stU_i (by decide), stU_k (by decide), stU_k (by decide)]
  have e6 : weaS 4 c 5 c 23 2 23 3 σ 23 6 = σ 23 6 := by unfold weaS; rw [stU_i (by decide), stU_i (by decide), stU_k (by decide), stU_k (by decide)]
  have eo : oil (weaS 4 c 5 c 23 2 23 3 σ) = oil σ - (wa (σ 4 c)).toInt - (wk (σ 4 c) (σ 5 c)).toInt := by
    unfold weaS
    rw [oil_o (by decide) (by decide) (by decide), oil_o (by decide) (by decide) (by decide), oil_5 hc, oil_4 hc, stU_k (by decide), v2, v4]
    omega
  have es : sto nM (weaS 4 c 5 c 23 2 23 3 σ) = sto nM σ := by
    unfold weaS
    rw [sto_oth (by decide) (by decide), sto_oth (by decide) (by decide), sto_oth (by decide) (by decide), sto_oth (by decide) (by decide)]
  have er : rs (weaS 4 c 5 c 23 2 23 3 σ) 12 4 = rs σ 12 4 := by
    unfold weaS
    rw [rs_oth (by decide), rs_oth (by decide), rs_oth (by decide), rs_oth (by decide)]
  unfold bk5 at q4
  refine ⟨⟨by rw [e0]; exact b0, by rw [e2]; omega, by rw [e3]; omega, by rw [e4]; exact b4, by rw [e5]; exact b5, by rw [e6]; exact b6⟩, q2, q3, ?_, ?_⟩
  · unfold bk5
    rw [eo, es, e0, e2, e3, e4, e5, e6]; omega
  · rw [er, e0]; exact q5
theorem weN_C {nS nM hr : Nat} {K B W : Int} (hK : K ≤ 400000) {σ : St} (h : I2 nS nM hr K σ) (q : Cq nM B W σ) : ∀ c, c ≤ 24 → Cq nM B W (weN c σ)
  | 0, _ => q
  | c + 1, hc => wea_C hK (weN_I hK h c (by omega)) (weN_C hK h q c (by omega)) (by omega)
/-- nothing that counts has changed -/
theorem Cq.same {nM : Nat} {B W : Int} {σ' σ : St} (q : Cq nM B W σ) (h23 : ∀ i, σ' 23 i = σ 23 i) (ho : oil σ' = oil σ) (hs : sto nM σ' = sto nM σ) (h12 : rs σ' 12 4 = rs σ 12 4) : Cq nM B W σ' := by
  unfold Cq Bn bk5 at *
  rw [h23, h23, h23, h23, h23, h23, ho, hs, h12]
  exact q
theorem fwS_C {nM : Nat} {B W : Int} {σ : St} (q : Cq nM B W σ) {c : Nat} {z : Int32 × Int32 × Option Nat} (hb : ∀ b, z.2.2 = some b → σ 15 b = 0) : Cq nM B W (fwS σ c z) := by
  refine q.same (fun i => fwS_o (by decide) (by decide) (by decide)) (oil_k (fun i => fwS_o (by decide) (by decide) (by decide)) (fun i => fwS_o (by decide) (by decide) (by decide)) (fun i => fwS_o (by decide) (by decide) (by decide))) ?_ (rs_k (fun i => fwS_o (by decide) (by decide) (by decide)))
  unfold fwS
  rw [sto_oth (by decide) (by decide), sto_oth (by decide) (by decide)]
  cases hz : z.2.2 with
  | none => rfl
  | some b =>
    have := hb b hz
    unfold brk
    dsimp only
    rw [Nat.zero_add, sto_no (by rw [this]; decide)]
theorem loN_C {nS nM hr : Nat} {K B W : Int} (hK : K ≤ 400000) {σ : St} (h : I2 nS nM hr K σ) (q : Cq nM B W σ) {w : Nat} (hw : w < 4) (e5 : σ 0 5 = ι w) : ∀ c, c ≤ 24 → Cq nM B W (loN w nM c σ)
  | 0, _ => q
  | c + 1, hc => by
    obtain ⟨i, -, -⟩ := loN_I hK h hw e5 c (by omega)
    obtain ⟨b, -⟩ := lq_v hK i (show c < 24 by omega) hw
    exact fwS_C (loN_C hK h q hw e5 c (by omega)) (fun x hx => (b x hx).2.1)
theorem ldS_C {nS nM hr : Nat} {K B W : Int} (hK : K ≤ 400000) {σ : St} (h : I2 nS nM hr K σ) (q : Cq nM B W σ) {c : Nat} (hc : c < 24) {F T : Int32} {to : Option Nat} (ht : ∀ d, to = some d → d < 24 ∧ d ≠ c) (f0 : 0 ≤ F.toInt) (f1 : F.toInt ≤ (σ 4 c).toInt) (t0 : 0 ≤ T.toInt) (t1 : T.toInt ≤ (σ 5 c).toInt) : Cq nM B W (ldS σ c F T to) := by
  obtain ⟨⟨b0, b2, b3, b4, b5, b6⟩, p1, p2, p3, u0, u2, u3, u4, u5, u6, u7, u8, u9, u10⟩ := q.bd h
  obtain ⟨c1, c2, c3, c4⟩ := h.2.b4 hc
  have w1 : (σ 4 c - F).toInt = (σ 4 c).toInt - F.toInt := t_sub (by omega) (by omega)
  have w2 : (σ 5 c - T).toInt = (σ 5 c).toInt - T.toInt := t_sub (by omega) (by omega)
  have w3 : (F + T).toInt = F.toInt + T.toInt := t_add (by omega) (by omega)
  have o1 : oil (stU (stU σ 4 c (σ 4 c - F)) 5 c (σ 5 c - T)) = oil σ - F.toInt - T.toInt := by
    rw [oil_5 hc, oil_4 hc, stU_k (by decide), w1, w2]; omega
  unfold ldS
  cases to with
  | none =>
    dsimp only
    have w4 : (σ 23 4 + (F + T)).toInt = (σ 23 4).toInt + F.toInt + T.toInt := by rw [t_add (by omega) (by omega), w3]; omega
    obtain ⟨-, q2, q3, q4, q5⟩ := q
    unfold bk5 at q4
    have ei : ∀ i, i ≠ 4 → stU (stU (stU σ 4 c (σ 4 c - F)) 5 c (σ 5 c - T)) 23 4 (σ 23 4 + (F + T)) 23 i = σ 23 i := fun i hi => by rw [stU_i hi, stU_k (by decide), stU_k (by decide)]
    refine ⟨⟨by rw [ei 0 (by decide)]; exact b0, by rw [ei 2 (by decide)]; exact b2, by rw [ei 3 (by decide)]; exact b3, by rw [stU_same, w4]; omega, by rw [ei 5 (by decide)]; exact b5, by rw [ei 6 (by decide)]; exact b6⟩, q2, q3, ?_, ?_⟩
    · unfold bk5
      rw [ei 0 (by decide), ei 2 (by decide), ei 3 (by decide), stU_same, ei 5 (by decide), ei 6 (by decide), oil_o (by decide) (by decide) (by decide), o1, sto_oth (by decide) (by decide), sto_oth (by decide) (by decide), sto_oth (by decide) (by decide), w4]
      omega
    · rw [ei 0 (by decide), rs_oth (by decide), rs_oth (by decide), rs_oth (by decide)]; exact q5
  | some d =>
    obtain ⟨hd, hdc⟩ := ht d rfl
    obtain ⟨d1, d2, d3, d4⟩ := h.2.b4 hd
    dsimp only
    by_cases g : σ 2 d = 0
    · rw [if_pos g]
      have v4 : (σ 4 d + F).toInt = (σ 4 d).toInt + F.toInt := t_add (by omega) (by omega)
      have v5 : (σ 5 d + T).toInt = (σ 5 d).toInt + T.toInt := t_add (by omega) (by omega)
      refine q.same (fun i => by rw [stU_k (by decide), stU_k (by decide), stU_k (by decide), stU_k (by decide)]) ?_ ?_ ?_
      · rw [oil_5 hd, oil_4 hd, o1, stU_k (by decide), stU_i hdc, stU_k (by decide), stU_i hdc, stU_k (by decide), v4, v5]; omega
      · rw [sto_oth (by decide) (by decide), sto_oth (by decide) (by decide), sto_oth (by decide) (by decide), sto_oth (by decide) (by decide)]
      · rw [rs_oth (by decide), rs_oth (by decide), rs_oth (by decide), rs_oth (by decide)]
    · rw [if_neg g]
      have v6 : (σ 6 d + (F + T)).toInt = (σ 6 d).toInt + F.toInt + T.toInt := by rw [t_add (by omega) (by omega), w3]; omega
      refine q.same (fun i => by rw [stU_k (by decide), stU_k (by decide), stU_k (by decide)]) ?_ ?_ ?_
      · rw [oil_6 hd, o1, stU_k (by decide), stU_k (by decide), v6]; omega
      · rw [sto_oth (by decide) (by decide), sto_oth (by decide) (by decide), sto_oth (by decide) (by decide)]
      · rw [rs_oth (by decide), rs_oth (by decide), rs_oth (by decide)]
theorem drN_C {nS nM hr : Nat} {K B W : Int} (hK : K ≤ 400000) {σ : St} (h : I2 nS nM hr K σ) (q : Cq nM B W σ) {w : Nat} (hw : w < 4) (e5 : σ 0 5 = ι w) (hg : Gq w 0 σ) : ∀ c, c ≤ 24 → Cq nM B W (drN w c σ)
  | 0, _ => q
  | c + 1, hc => by
    obtain ⟨i, i5, ig⟩ := drN_I hK h hw e5 hg c (by omega)
    obtain ⟨x3, x4, x5, x6, -⟩ := ig c (Nat.le_refl c) (by omega)
    exact ldS_C hK i (drN_C hK h q hw e5 hg c (by omega)) (by omega) (fun d hd => ⟨bs_lt (by omega) hw hd, fun e => bs_ne c (by omega) w hw (by rw [hd, e])⟩) x3 x4 x5 x6
theorem gbS_C {nS nM hr : Nat} {K B W : Int} (hK : K ≤ 400000) {σ : St} (h : I2 nS nM hr K σ) (q : Cq nM B W σ) {c : Nat} (hc : c < 24) : Cq nM B W (gbS σ c) := by
  unfold gbS
  cases hl : low (σ 2) c with
  | none => exact q
  | some d =>
    have hd := low_ok hc d hl
    dsimp only
    obtain ⟨k, hk, ek⟩ := kd h.1 hc
    have b6 := h.2.2.2.1 c hc
    have bv := bk_v (p := σ 6 c) hk b6.1
    rw [← ek] at bv
    obtain ⟨p1, p2, p3, p4⟩ := h.2.b4 hd
    have q1 := h.2.b4 hc
    generalize bk (σ 2 c) (σ 6 c) = b at *
    have w1 : (σ 6 c - b).toInt = (σ 6 c).toInt - b.toInt := t_sub (by omega) (by omega)
    have w2 : (σ 5 d + b).toInt = (σ 5 d).toInt + b.toInt := t_add (by omega) (by omega)
    refine q.same (fun i => by rw [stU_k (by decide), stU_k (by decide)]) ?_ (by rw [sto_oth (by decide) (by decide), sto_oth (by decide) (by decide)]) (by rw [rs_oth (by decide), rs_oth (by decide)])
    rw [oil_5 hd, oil_6 hc, stU_k (by decide), w1, w2]; omega
theorem gbN_C {nS nM hr : Nat} {K B W : Int} (hK : K ≤ 400000) {σ : St} (h : I2 nS nM hr K σ) (q : Cq nM B W σ) : ∀ c, c ≤ 24 → Cq nM B W (gbN c σ)
  | 0, _ => q
  | c + 1, hc => gbS_C hK (gbN_I hK h c (by omega)) (gbN_C hK h q c (by omega)) (by omega)
theorem skM_C {nS nM hr : Nat} {K B W : Int} (hK : K ≤ 400000) {σ : St} (h : I2 nS nM hr K σ) (q : Cq nM B W σ) {m : Nat} (hm : m < nM) : Cq nM B W (skM σ m) := by
  unfold skM
  by_cases g : σ 15 m = 1
  · rw [if_pos g]
    obtain ⟨c, hc, h16, f0, f1, t0, t1, a0, st, s5⟩ := sk_in hK h hm g
    rw [h16, ι_nat (by omega)]
    generalize skF σ m c = F at *
    generalize skT σ m c = T at *
    obtain ⟨b1, b2, b3, b4⟩ := h.2.b4 hc
    have w1 : (σ 4 c - F).toInt = (σ 4 c).toInt - F.toInt := t_sub (by omega) (by omega)
    have w2 : (σ 5 c - T).toInt = (σ 5 c).toInt - T.toInt := t_sub (by omega) (by omega)
    have w3 : (F + T).toInt = F.toInt + T.toInt := t_add (by omega) (by omega)
    have w4 : (σ 20 m + (F + T)).toInt = (σ 20 m).toInt + F.toInt + T.toInt := by rw [t_add (by omega) (by omega), w3]; omega
    obtain ⟨⟨c0, c2, c3, c4, c5, c6⟩, q2, q3, q4, q5⟩ := q
    have e23 : ∀ i, skS 4 c 5 c 20 m F T σ 23 i = σ 23 i := fun i => by unfold skS; rw [stU_k (by decide), stU_k (by decide), stU_k (by decide)]
    have eo : oil (skS 4 c 5 c 20 m F T σ) = oil σ - F.toInt - T.toInt := by
      unfold skS
      rw [oil_o (by decide) (by decide) (by decide), oil_5 hc, oil_4 hc, stU_k (by decide), w1, w2]; omega
    have es : sto nM (skS 4 c 5 c 20 m F T σ) = sto nM σ + F.toInt + T.toInt := by
      unfold skS
      rw [sto_20 hm (by rw [stU_k (by decide), stU_k (by decide)]; exact g), sto_oth (by decide) (by decide), sto_oth (by decide) (by decide), stU_k (by decide), stU_k (by decide), w4]; omega
    have er : rs (skS 4 c 5 c 20 m F T σ) 12 4 = rs σ 12 4 := by
      unfold skS
      rw [rs_oth (by decide), rs_oth (by decide), rs_oth (by decide)]
    unfold Cq Bn bk5 at *
    rw [e23, e23, e23, e23, e23, e23, eo, es, er]
    exact ⟨⟨c0, c2, c3, c4, c5, c6⟩, q2, q3, by omega, q5⟩
  · rw [if_neg g]; exact q
theorem skN_C {nS nM hr : Nat} {K B W : Int} (hK : K ≤ 400000) {σ : St} (h : I2 nS nM hr K σ) (q : Cq nM B W σ) : ∀ m, m ≤ nM → Cq nM B W (skN m σ)
  | 0, _ => q
  | m + 1, hm => skM_C hK (skN_I hK h m (by omega)) (skN_C hK h q m (by omega)) (by omega)
theorem hour_C {nS nM hr : Nat} {K B W : Int} (hK : K ≤ 400000) {σ : St} (h : I2 nS nM hr K σ) (hh : hr + 1 < 3000) {w : Nat} (hw : w < 4) (e5 : σ 0 5 = ι w) (q : Cq nM B W σ) : Cq nM B W (hourF nS nM w hr σ) := by
  obtain ⟨j0, j1, j2, ⟨j3, g3⟩, j4, j5, j6, j7, r2, r3⟩ := stages hK h hh hw e5
  have q0 : Cq nM B W (h0F hr σ) := q.same (fun i => h0F_o (by decide)) (oil_k (fun i => h0F_o (by decide)) (fun i => h0F_o (by decide)) (fun i => h0F_o (by decide))) (sto_k (fun i => h0F_o (by decide)) (fun i => h0F_o (by decide))) (rs_k (fun i => h0F_o (by decide)))
  have q1 : Cq nM B W (h1F nS hr σ) := lkN_C hK j0 q0 (tdN_le (hr + 1)) nS (Nat.le_refl _)
  have q2 : Cq nM B W (h2F nS hr σ) := weN_C hK j1 q1 24 (Nat.le_refl _)
  have q3 : Cq nM B W (h3F nS nM w hr σ) := loN_C hK j2 q2 hw r2 24 (Nat.le_refl _)
  have q4 : Cq nM B W (h4F nS nM w hr σ) := drN_C hK j3 q3 hw r3 (fun a _ ha => g3 a ha) 24 (Nat.le_refl _)
  have q5 : Cq nM B W (h5F nS nM w hr σ) := by
    unfold h5F
    split
    · exact gbN_C hK j4 q4 24 (Nat.le_refl _)
    · exact q4
  have q6 : Cq nM B W (h6F nS nM w hr σ) := skN_C hK j5 q5 nM (Nat.le_refl _)
  exact q6.same (fun i => haN_o (by decide) (by decide) 24) (oil_k (fun i => haN_o (by decide) (by decide) 24) (fun i => haN_o (by decide) (by decide) 24) (fun i => haN_o (by decide) (by decide) 24)) (sto_k (fun i => haN_o (by decide) (by decide) 24) (fun i => haN_o (by decide) (by decide) 24)) (rs_k (fun i => haN_o (by decide) (by decide) 24))
