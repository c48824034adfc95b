theorem gbS_o {σ : St} {c k i : Nat} (h5 : k ≠ 5) (h6 : k ≠ 6) : gbS σ c k i = σ k i := by
  unfold gbS
  cases low (σ 2) c with
  | none => rfl
  | some d => dsimp only; rw [stU_k h5, stU_k h6]
theorem gbS_I {nS nM hr : Nat} {K : Int} (hK : K ≤ 400000) {σ : St} (h : I2 nS nM hr K σ) {c : Nat} (hc : c < 24) : I2 nS nM hr K (gbS σ c) := by
  obtain ⟨r3, r4⟩ := id h
  unfold gbS
  cases hl : low (σ 2) c with
  | none => exact h
  | some d =>
    have hd := low_ok hc d hl
    have hdw : σ 2 d = 0 := low_w hl
    dsimp only
    obtain ⟨k, hk, ek⟩ := kd r3 hc
    have b6 := r4.2.2.1 c hc
    have bv := bk_v (p := σ 6 c) hk b6.1
    rw [← ek] at bv
    obtain ⟨p1, p2, p3, p4⟩ := r4.b4 hd
    have q1 := r4.b4 hc
    generalize bk (σ 2 c) (σ 6 c) = b at *
    have w1 : (σ 6 c - b).toInt = (σ 6 c).toInt - b.toInt := t_sub (by omega) (by omega)
    have w2 : (σ 5 d + b).toInt = (σ 5 d).toInt + b.toInt := t_add (by omega) (by omega)
    refine ⟨(r3.oth rfl).oth rfl, ?_⟩
    have s1 := r4.s6 (c := c) (x := σ 6 c - b) hc (by omega) (by omega)
    have s2 := s1.s5 (c := d) (x := σ 5 d + b) hd (by omega) (fun q => absurd (by rw [stU_k (by decide)]; exact hdw) q)
    rw [stU_k (by decide), w1, w2] at s2
    exact s2.mono (by omega)
theorem gbN_I {nS nM hr : Nat} {K : Int} (hK : K ≤ 400000) {σ : St} (h : I2 nS nM hr K σ) : ∀ c, c ≤ 24 → I2 nS nM hr K (gbN c σ)
  | 0, _ => h
  | c + 1, hc => gbS_I hK (gbN_I hK h c (by omega)) (by omega)
theorem back9 {nS nM hr : Nat} {K : Int} (hK : K ≤ 400000) {σ : St} (h : I2 nS nM hr K σ) : ∀ (j c n : Nat), c + j = 24 → j < n → sp_X0_giveBack_2 n (ι c) (gbN c σ) = some (gbN 24 σ) := by
  intro j
  induction j with
  | zero =>
    intro c n h1 h2
    obtain ⟨n, rfl⟩ : ∃ q, n = q + 1 := ⟨n - 1, by omega⟩
    have ec : c = 24 := by omega
    subst ec
    rw [sp_X0_giveBack_2, if_pos (show (24 : Int32) ≤ ι 24 by decide)]
  | succ j ih =>
    intro c n h1 h2
    obtain ⟨n, rfl⟩ : ∃ q, n = q + 1 := ⟨n - 1, by omega⟩
    have hi := gbN_I hK h c (by omega)
    rw [gb9 hi.1 (by omega)]
    exact ih (c + 1) n (by omega) (by omega)
theorem sk_in {nS nM hr : Nat} {K : Int} (hK : K ≤ 400000) {σ : St} (h : I2 nS nM hr K σ) {m : Nat} (hm : m < nM) (g : σ 15 m = 1) : ∃ c, c < 24 ∧ σ 16 m = ι c ∧ 0 ≤ (skF σ m c).toInt ∧ (skF σ m c).toInt ≤ (σ 4 c).toInt ∧ 0 ≤ (skT σ m c).toInt ∧ (skT σ m c).toInt ≤ (σ 5 c).toInt ∧ 0 ≤ (σ 20 m).toInt ∧ (σ 20 m).toInt + (skF σ m c).toInt + (skT σ m c).toInt ≤ (σ 19 m).toInt ∧ (σ 19 m).toInt ≤ 5000 := by
  obtain ⟨r3, r4⟩ := h
  obtain ⟨⟨c, hc, h16⟩, ⟨P, hP, h18⟩, ⟨Q, hQ, h19⟩⟩ := r3.2.2.2.2.2.2.2.2 m hm g
  have hM := r3.2.2.1.1
  obtain ⟨b1, b2, b3, b4⟩ := r4.b4 hc
  obtain ⟨a0, a1⟩ := (r4.2.2.2.2.1 m (by omega)).1 hm g
  have e18 : (σ 18 m).toInt = P := by rw [h18, ι_toInt (by omega)]
  have e19 : (σ 19 m).toInt = Q := by rw [h19, ι_toInt (by omega)]
  obtain ⟨v1, v2, v3, v4, v5⟩ := sk_v (p := σ 18 m) (f := σ 4 c) (t := σ 5 c) (st := σ 19 m) (ta := σ 20 m) (by omega) (by omega) b2 b3 (by omega) a0 a1
  exact ⟨c, hc, h16, v1, v2, v3, v4, a0, v5, by omega⟩
theorem skM_I {nS nM hr : Nat} {K : Int} (hK : K ≤ 400000) {σ : St} (h : I2 nS nM hr K σ) {m : Nat} (hm : m < nM) : I2 nS nM hr K (skM σ m) := by
  unfold skM
  by_cases g : σ 15 m = 1
  · rw [if_pos g]
    obtain ⟨c, hc, h16, f0, f1, t0, t1, a0, st, s5⟩ := sk_in hK h hm g
    rw [h16, ι_nat (by omega)]
    generalize skF σ m c = F at *
    generalize skT σ m c = T at *
    obtain ⟨r3, r4⟩ := h
    obtain ⟨b1, b2, b3, b4⟩ := r4.b4 hc
    have z4 := (r4.1 c hc).2
    have z5 := (r4.2.1 c hc).2
    have w1 : (σ 4 c - F).toInt = (σ 4 c).toInt - F.toInt := t_sub (by omega) (by omega)
    have w2 : (σ 5 c - T).toInt = (σ 5 c).toInt - T.toInt := t_sub (by omega) (by omega)
    have w3 : (F + T).toInt = F.toInt + T.toInt := t_add (by omega) (by omega)
    have w4 : (σ 20 m + (F + T)).toInt = (σ 20 m).toInt + F.toInt + T.toInt := by rw [t_add (by omega) (by omega), w3]; omega
    unfold skS
    refine ⟨((r3.oth rfl).oth rfl).oth rfl, ?_⟩
    have s1 := r4.s4 (c := c) (x := σ 4 c - F) hc (by omega) (fun q => by have := z4 q; omega)
    have s2 := s1.s5 (c := c) (x := σ 5 c - T) hc (by omega) (fun q => by rw [stU_k (by decide)] at q; have := z5 q; omega)
    rw [stU_k (by decide), w1, w2] at s2
    refine (s2.mono (K2 := K) (by omega)).s20 (fun _ _ => ?_) (fun q => by omega)
    rw [stU_k (by decide), stU_k (by decide), w4]
    omega
  · rw [if_neg g]; exact h
theorem skN_I {nS nM hr : Nat} {K : Int} (hK : K ≤ 400000) {σ : St} (h : I2 nS nM hr K σ) : ∀ m, m ≤ nM → I2 nS nM hr K (skN m σ)
  | 0, _ => h
  | m + 1, hm => skM_I hK (skN_I hK h m (by omega)) (by omega)
theorem skim9 {nS nM hr : Nat} {K : Int} (hK : K ≤ 400000) {σ : St} (h : I2 nS nM hr K σ) : ∀ (j m n : Nat), m + j = nM → j < n → sp_X0_skim_2 n (ι m) (skN m σ) = some (skN nM σ) := by
  intro j
  have hM := h.1.2.2.1.1
  induction j with
  | zero =>
    intro m n h1 h2
    obtain ⟨n, rfl⟩ : ∃ q, n = q + 1 := ⟨n - 1, by omega⟩
    have em : m = nM := by omega
    subst em
    have e14 := (skN_I hK h m (Nat.le_refl m)).1.2.2.1.2
    rw [sp_X0_skim_2, e14, if_pos (Int32.le_refl _)]
  | succ j ih =>
    intro m n h1 h2
    obtain ⟨n, rfl⟩ : ∃ q, n = q + 1 := ⟨n - 1, by omega⟩
    have hi := skN_I hK h m (by omega)
    have e14 := hi.1.2.2.1.2
    have e1 : skN (m + 1) σ = skM (skN m σ) m := rfl
    have hn := ih (m + 1) n (by omega) (by omega)
    rw [e1] at hn
    by_cases g : skN m σ 15 m = 1
    · obtain ⟨c, hc, h16, -⟩ := sk_in hK hi (by omega) g
      rw [sk9 hM e14 (by omega) g hc h16 (F := skF (skN m σ) m c) (T := skT (skN m σ) m c) rfl rfl]
      unfold skM at hn
      rw [if_pos g, h16, ι_nat (by omega)] at hn
      exact hn
    · unfold skM at hn
      rw [if_neg g] at hn
      have q : ¬ ι nM ≤ ι m := by rw [ι_le (by omega) (by omega)]; omega
      rw [sp_X0_skim_2, e14, if_neg q, ix (show m < 20 by omega) (by omega), ι_nat (by omega), if_neg g, ι_one]
      exact hn
theorem haN_I {nS nM hr : Nat} {K : Int} {σ : St} (h : I2 nS nM hr K σ) : ∀ c, c ≤ 24 → I2 nS nM hr K (haN c σ)
  | 0, _ => h
  | c + 1, hc => ⟨hS0 (haN_I h c (by omega)).1, hS1 (haN_I h c (by omega)).2⟩
theorem harms9 {nS nM hr : Nat} {K : Int} {σ : St} (h : I2 nS nM hr K σ) : ∀ (j c n : Nat), c + j = 24 → j < n → sp_X0_harmShores_2 n (ι c) (haN c σ) = some (haN 24 σ) := by
  intro j
  induction j with
  | zero =>
    intro c n h1 h2
    obtain ⟨n, rfl⟩ : ∃ q, n = q + 1 := ⟨n - 1, by omega⟩
    have ec : c = 24 := by omega
    subst ec
    rw [sp_X0_harmShores_2, if_pos (show (24 : Int32) ≤ ι 24 by decide)]
  | succ j ih =>
    intro c n h1 h2
    obtain ⟨n, rfl⟩ : ∃ q, n = q + 1 := ⟨n - 1, by omega⟩
    have hi := haN_I h c (by omega)
    rw [harm9 hi.1 (by omega)]
    exact ih (c + 1) n (by omega) (by omega)
/-- the stages of an hour -/
def h0F (hr : Nat) (σ : St) : St := stU σ 0 4 (ι (hr + 1))
def h1F (nS hr : Nat) (σ : St) : St := lkN (ι (tdN (hr + 1))) nS (h0F hr σ)
def h2F (nS hr : Nat) (σ : St) : St := weN 24 (h1F nS hr σ)
def h3F (nS nM w hr : Nat) (σ : St) : St := loN w nM 24 (h2F nS hr σ)
def h4F (nS nM w hr : Nat) (σ : St) : St := drN w 24 (h3F nS nM w hr σ)
def h5F (nS nM w hr : Nat) (σ : St) : St := if tdN (hr + 1) = 6 then gbN 24 (h4F nS nM w hr σ) else h4F nS nM w hr σ
def h6F (nS nM w hr : Nat) (σ : St) : St := skN nM (h5F nS nM w hr σ)
theorem hourF_eq (nS nM w hr : Nat) (σ : St) : hourF nS nM w hr σ = haN 24 (h6F nS nM w hr σ) := rfl
theorem stages {nS nM hr : Nat} {K : Int} (hK : K ≤ 400000) {σ : St} (h : I2 nS nM hr K σ) (hh : hr + 1 < 3000) {w : Nat} (hw : w < 4) (e5 : σ 0 5 = ι w) :
    I2 nS nM (hr + 1) K (h0F hr σ) ∧ I2 nS nM (hr + 1) K (h1F nS hr σ) ∧ I2 nS nM (hr + 1) K (h2F nS hr σ) ∧ (I2 nS nM (hr + 1) K (h3F nS nM w hr σ) ∧ Go w 24 (h3F nS nM w hr σ)) ∧ I2 nS nM (hr + 1) K (h4F nS nM w hr σ) ∧ I2 nS nM (hr + 1) K (h5F nS nM w hr σ) ∧ I2 nS nM (hr + 1) K (h6F nS nM w hr σ) ∧ I2 nS nM (hr + 1) K (hourF nS nM w hr σ) ∧ h2F nS hr σ 0 5 = ι w ∧ h3F nS nM w hr σ 0 5 = ι w := by
  have t6 := tdN_le (hr + 1)
  have j0 : I2 nS nM (hr + 1) K (h0F hr σ) := ⟨h.1.hr hh, h.2.oth rfl⟩
  have j1 : I2 nS nM (hr + 1) K (h1F nS hr σ) := lkN_I hK j0 t6 nS (Nat.le_refl _)
  have j2 : I2 nS nM (hr + 1) K (h2F nS hr σ) := weN_I hK j1 24 (Nat.le_refl _)
  have r0 : h0F hr σ 0 5 = ι w := by unfold h0F; rw [stU_i (by decide)]; exact e5
  have r1 : ∀ s, lkN (ι (tdN (hr + 1))) s (h0F hr σ) 0 5 = ι w := by
    intro s
    induction s with
    | zero => exact r0
    | succ s ih =>
      show lkS _ _ _ _ 0 5 = _
      unfold lkS noteS
      split
      · rw [stU_k (by decide), stU_k (by decide), stU_k (by decide)]; exact ih
      · split
        · rw [stU_k (by decide), stU_k (by decide), stU_k (by decide), stU_k (by decide)]; exact ih
        · rw [stU_k (by decide), stU_k (by decide), stU_k (by decide)]; exact ih
  have r2 : ∀ c, weN c (h1F nS hr σ) 0 5 = ι w := by
    intro c
    induction c with
    | zero => exact r1 nS
    | succ c ih =>
      show wea _ _ 0 5 = _
      rw [wea_S]
      unfold weaS
      rw [stU_k (by decide), stU_k (by decide), stU_k (by decide), stU_k (by decide)]
      exact ih
  obtain ⟨j3, r3, g3⟩ := loN_I hK j2 hw (r2 24) 24 (Nat.le_refl _)
  obtain ⟨j4, -, -⟩ := drN_I hK j3 hw r3 (fun a _ ha => g3 a ha) 24 (Nat.le_refl _)
  have j5 : I2 nS nM (hr + 1) K (h5F nS nM w hr σ) := by
    unfold h5F
    split
    · exact gbN_I hK j4 24 (Nat.le_refl _)
    · exact j4
  have j6 : I2 nS nM (hr + 1) K (h6F nS nM w hr σ) := skN_I hK j5 nM (Nat.le_refl _)
  exact ⟨j0, j1, j2, ⟨j3, g3⟩, j4, j5, j6, haN_I j6 24 (Nat.le_refl _), r2 24, r3⟩
/-- an hour of the class -/
theorem hour9 {nS nM hr : Nat} {K : Int} (hK : K ≤ 400000) {σ : St} (h : I2 nS nM hr K σ) (hh : hr + 1 < 3000) {w : Nat} (hw : w < 4) (e5 : σ 0 5 = ι w) (y : Int32) (n k : Nat) (hk : ¬ y ≤ ι k) : sp_X0_letPass_2 y (n + 1) (ι k) σ = sp_X0_letPass_2 y n (ι (k + 1)) (hourF nS nM w hr σ) := by
  have t6 := tdN_le (hr + 1)
  obtain ⟨j0, j1, j2, ⟨j3, g3⟩, j4, j5, j6, j7, r2, r3⟩ := stages hK h hh hw e5
  have hnS := h.1.2.1.1
  have hnM := h.1.2.2.1.1
  have e4 : σ 0 4 = ι hr := h.1.1.2
  have e44 : h4F nS nM w hr σ 0 4 = ι (hr + 1) := j4.1.1.2
  have k1 : sp_X0_leak (h0F hr σ) = some (h1F nS hr σ) := by
    unfold sp_X0_leak
    rw [j0.1.1.2, td9 _ (by omega), b1s]
    exact leak9 hK j0 t6 nS 0 200 (by omega) (by omega)
  have k2 : sp_X0_weather (h1F nS hr σ) = some (h2F nS hr σ) := weather9 _ 24 0 200 (by omega) (by omega)
  have k3 : sp_X0_drift (h2F nS hr σ) = some (h4F nS nM w hr σ) :=
    (look9 hK j2 hw r2 24 0 200 (by omega) (by omega)).trans (drift9 hK j3 hw r3 (fun a _ ha => g3 a ha) 24 0 200 (by omega) (by omega))
  have k6 : sp_X0_skim (h5F nS nM w hr σ) = some (h6F nS nM w hr σ) := skim9 hK j5 nM 0 200 (by omega) (by omega)
  have k7 : sp_X0_harmShores (h6F nS nM w hr σ) = some (hourF nS nM w hr σ) := harms9 j6 24 0 200 (by omega) (by omega)
  have z0 : stU σ 0 4 (ι (hr + 1)) = h0F hr σ := rfl
  rw [sp_X0_letPass_2, if_neg hk, e4, ι_one, sls, z0, k1, b1s, k2, b1s, k3, b1s, e44, td9 _ (by omega), b1s]
  by_cases ht : tdN (hr + 1) = 6
  · have k5 : sp_X0_giveBack (h4F nS nM w hr σ) = some (h5F nS nM w hr σ) := by
      have : h5F nS nM w hr σ = gbN 24 (h4F nS nM w hr σ) := if_pos ht
      rw [this]
      exact back9 hK j4 24 0 200 (by omega) (by omega)
    rw [if_pos (by rw [ht]; rfl), k5, b1s, k6, b1s, k7, b1s, ι_one]
  · have k5 : h5F nS nM w hr σ = h4F nS nM w hr σ := if_neg ht
    have n6 : ¬ ι (tdN (hr + 1)) = (6 : Int32) := by rw [show (6 : Int32) = ι 6 from rfl, ι_inj (by omega) (by omega)]; exact ht
    rw [k5] at k6
    rw [if_neg n6, k6, b1s, k7, b1s, ι_one]
theorem hour_w {nS nM hr : Nat} {K : Int} (hK : K ≤ 400000) {σ : St} (h : I2 nS nM hr K σ) (hh : hr + 1 < 3000) {w : Nat} (hw : w < 4) (e5 : σ 0 5 = ι w) : hourF nS nM w hr σ 0 5 = ι w := by
  obtain ⟨j0, j1, j2, ⟨j3, g3⟩, j4, j5, j6, j7, r2, r3⟩ := stages hK h hh hw e5
  obtain ⟨-, r4, -⟩ := drN_I hK j3 hw r3 (fun a _ ha => g3 a ha) 24 (Nat.le_refl _)
  have r5 : h5F nS nM w hr σ 0 5 = ι w := by
    unfold h5F
    split
    · have : ∀ c, gbN c (h4F nS nM w hr σ) 0 5 = ι w := by
        intro c
        induction c with
        | zero => exact r4
        | succ c ih =>
          exact (gbS_o (by decide) (by decide)).trans ih
      exact this 24
    · exact r4
  have r6 : ∀ m, skN m (h5F nS nM w hr σ) 0 5 = ι w := by
    intro m
    induction m with
    | zero => exact r5
    | succ m ih =>
      show skM _ _ 0 5 = _
      unfold skM
      split
      · unfold skS
        rw [stU_k (by decide), stU_k (by decide), stU_k (by decide)]; exact ih
      · exact ih
  have r7 : ∀ c, haN c (h6F nS nM w hr σ) 0 5 = ι w := by
    intro c
    induction c with
    | zero => exact r6 nM
    | succ c ih =>
      show hS _ _ _ _ _ _ _ _ _ _ 0 5 = _
      rw [hS_o (by omega) (by omega)]
      exact ih
  exact r7 24
/-- many hours -/
def hrsF (nS nM w : Nat) : Nat → Nat → St → St
  | 0, _, σ => σ
  | j + 1, hr, σ => hrsF nS nM w j (hr + 1) (hourF nS nM w hr σ)
theorem pass9 {nS nM : Nat} {K : Int} (hK : K ≤ 400000) {w : Nat} (hw : w < 4) {H : Nat} (hH : H < 100000) : ∀ (j k n hr : Nat) (σ : St), k + j = H → j < n → I2 nS nM hr K σ → σ 0 5 = ι w → hr + j < 3000 → sp_X0_letPass_2 (ι H) n (ι k) σ = some (hrsF nS nM w j hr σ) ∧ I2 nS nM (hr + j) K (hrsF nS nM w j hr σ) ∧ hrsF nS nM w j hr σ 0 5 = ι w := by
  intro j
  induction j with
  | zero =>
    intro k n hr σ h1 h2 h e5 hh
    obtain ⟨n, rfl⟩ : ∃ q, n = q + 1 := ⟨n - 1, by omega⟩
    have hk : k = H := by omega
    subst hk
    exact ⟨by rw [sp_X0_letPass_2, if_pos (Int32.le_refl _)]; rfl, h, e5⟩
  | succ j ih =>
    intro k n hr σ h1 h2 h e5 hh
    obtain ⟨n, rfl⟩ : ∃ q, n = q + 1 := ⟨n - 1, by omega⟩
    have q : ¬ ι H ≤ ι k := by rw [ι_le hH (by omega)]; omega
    have j7 := (stages hK h (by omega) hw e5).2.2.2.2.2.2.2.1
    obtain ⟨a1, a2, a3⟩ := ih (k + 1) n (hr + 1) (hourF nS nM w hr σ) (by omega) (by omega) j7 (hour_w hK h (by omega) hw e5) (by omega)
    refine ⟨?_, by rw [show hr + (j + 1) = hr + 1 + j by omega]; exact a2, a3⟩
    rw [hour9 hK h (by omega) hw e5 _ _ _ q]
    exact a1
