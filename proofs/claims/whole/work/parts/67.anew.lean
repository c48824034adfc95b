/-- the water against the wind, or none -/
def frm (σ : St) (c w : Nat) : Option Nat := match bs c (op w) with
  | none => none
  | some d => if σ 2 d = 0 then some d else none
theorem against9 {σ : St} {c w : Nat} (hc : c < 24) (hw : w < 4) (e5 : σ 0 5 = ι w) : sp_X5_waterAgainstWind (ι c) σ = some (oI (frm σ c w)) := by
  unfold sp_X5_waterAgainstWind frm
  rw [e5, op9 w hw, b1s, bs9 c hc _ (op_lt w hw), b1s]
  cases hb : bs c (op w) with
  | none => rw [show oI none = -1 from rfl, if_pos rfl]
  | some d =>
    have hd := bs_lt hc (op_lt w hw) hb
    rw [show oI (some d) = ι d from rfl, if_neg (oI_ne hd), isWater9 hd, b1s]
    dsimp only
    by_cases g : σ 2 d = 0
    · rw [if_pos g, if_neg (by decide), if_pos g]; rfl
    · rw [if_neg g, if_pos rfl, if_neg g]; rfl
/-- what comes from there -/
theorem fromV {nS nM hr : Nat} {K : Int} (hK : K ≤ 400000) {σ μ : St} (h : Jn True nS nM hr K σ μ) {c w : Nat} (hc : c < 24) (hw : w < 4) (e5 : σ 0 5 = ι w) (hh : hr + 1 < 3001) :
    ∃ G H : Int32, sp_X10_goes (oI (bs c (op w))) 0 μ = some G ∧ sp_X10_goes (oI (bs c (op w))) 1 μ = some H ∧ ((frm σ c w = none ∧ G = 0 ∧ H = 0) ∨ ∃ d, d < 24 ∧ frm σ c w = some d ∧ ∀ ν, ∃ ν', sp_X5_weigh (ι d) σ ν = some ν' ∧ ν' 3 = G ∧ ν' 4 = H) := by
  unfold frm
  cases hb : bs c (op w) with
  | none => exact ⟨0, 0, rfl, rfl, Or.inl ⟨rfl, rfl, rfl⟩⟩
  | some d =>
    have hd := bs_lt hc (op_lt w hw) hb
    have e3 : μ 3 d = σ 2 d := (h.1 2 d hd).symm
    dsimp only
    by_cases g : σ 2 d = 0
    · obtain ⟨F, T, G, H, k1, -, -, k4, k5⟩ := weighV hK h hd g hh
      refine ⟨G, H, k4, k5, Or.inr ⟨d, hd, if_pos g, fun ν => ?_⟩⟩
      obtain ⟨ν', a1, a2⟩ := k1 ν
      exact ⟨ν', a1, a2.2.2⟩
    · have go : ∀ p, sp_X10_goes (ι d) p μ = some 0 := by
        intro p
        unfold sp_X10_goes
        rw [if_neg (oI_ne hd), ix hd (by omega), ι_nat (by omega), if_neg (by rw [e3]; exact g)]
      exact ⟨0, 0, go 0, go 1, Or.inl ⟨if_neg g, rfl, rfl⟩⟩
theorem landV {nS nM hr : Nat} {K : Int} (hK : K ≤ 400000) {σ μ : St} (h : Jn True nS nM hr K σ μ) {c : Nat} (hc : c < 24) (hh : hr + 1 < 3001) : ∃ x : Int32, (∀ ν, ∃ ν', sp_X5_landedOn (ι c) σ ν = some (x, ν')) ∧ sp_X10_strands (ι c) μ = some x := by
  obtain ⟨w, hw, e5⟩ := h.2.2.1.2.2.2.1
  have m5 : μ 0 5 = ι w := (h.1 0 5 (Or.inr (Or.inl rfl))).symm.trans e5
  have e6 : μ 1 (48 + c) = σ 6 c := (h.1 6 c hc).symm
  obtain ⟨G, H, g1, g2, g3⟩ := fromV hK h hc hw e5 hh
  have m : sp_X10_strands (ι c) μ = some (σ 6 c + G + H) := by
    unfold sp_X10_strands
    rw [m5, op10 w hw, bs10 c hc _ (op_lt w hw), b1s, i48, ix (show 48 + c < 174 by omega) (by omega), g1, b1s, g2, b1s, ι_nat (by omega), e6]
  refine ⟨σ 6 c + G + H, fun ν => ?_, m⟩
  rcases g3 with ⟨f0, rfl, rfl⟩ | ⟨d, hd, fd, k⟩
  · refine ⟨ν, ?_⟩
    unfold sp_X5_landedOn
    rw [ix hc (by omega), ι_nat (by omega), sls, against9 hc hw e5, b1s, f0, show oI none = -1 from rfl, if_pos rfl, Int32.add_zero, Int32.add_zero]
  · obtain ⟨ν', a1, a2, a3⟩ := k ν
    refine ⟨ν', ?_⟩
    unfold sp_X5_landedOn
    rw [ix hc (by omega), ι_nat (by omega), sls, against9 hc hw e5, b1s, fd, show oI (some d) = ι d from rfl, if_neg (oI_ne hd), a1, b1s, sls, a2, a3, Int32.add_assoc]
theorem high9 {nS nM hr : Nat} {σ : St} (i0 : I0 nS nM hr σ) (hh : hr + 1 < 3001) : sp_X5_isHighTide σ = some (if tdN (hr + 1) = 6 then 1 else 0) := by
  have t := tdN_le (hr + 1)
  unfold sp_X5_isHighTide
  rw [i0.1.2, ι_one, td9 _ hh, b1s]
  by_cases g : tdN (hr + 1) = 6
  · rw [if_pos g, g, if_pos (show ι 6 = 6 from rfl)]
  · rw [if_neg g, if_neg (show ¬ ι (tdN (hr + 1)) = 6 by rw [show (6 : Int32) = ι 6 from rfl, ι_inj (by omega) (by omega)]; exact g)]
/-- what one neighbour gives back -/
theorem giveV {nS nM hr : Nat} {K : Int} (hK : K ≤ 400000) {σ μ : St} (h : Jn True nS nM hr K σ μ) {c v : Nat} (hc : c < 24) (hv : v < 4) (hh : hr + 1 < 3001) (F : Int32) :
    ∃ x : Int32, (∀ ν, ∃ ν', sp_X5_givenBackTo (ι c) (oI (bs c v)) σ ν = some (x, ν')) ∧ (tdN (hr + 1) = 6 → ∀ n y, sp_X10_nextAnew_137 (ι c) 1 F (n + 1) y (ι v) μ = sp_X10_nextAnew_137 (ι c) 1 F n (y + x) (ι (v + 1)) μ) ∧ (¬ tdN (hr + 1) = 6 → x = 0) := by
  obtain ⟨r, -, i0, -⟩ := id h
  have e3 : ∀ d, d < 24 → σ 2 d = μ 3 d := fun d hd => r 2 d hd
  have q4 : ¬ (4 : Int32) ≤ ι v := by rw [show (4 : Int32) = ι 4 from rfl, ι_le (by omega) (by omega)]; omega
  have st : ∀ n y, sp_X10_nextAnew_137 (ι c) 1 F (n + 1) y (ι v) μ = (if oI (bs c v) = (-1 : Int32) then sp_X10_nextAnew_137 (ι c) 1 F n (y + 0) (ι (v + 1)) μ else (if oI (bs c v) < 0 ∨ 24 ≤ (oI (bs c v)).toNatClampNeg then none else (if (μ 3 (oI (bs c v)).toNatClampNeg) = 0 then sp_X10_nextAnew_137 (ι c) 1 F n (y + 0) (ι (v + 1)) μ else (b1 (sp_X10_lowestWater (oI (bs c v)) μ) (fun x44 => if x44 = ι c then (b1 (sp_X10_strands (oI (bs c v)) μ) (fun x46 => b1 (sp_X10_back (oI (bs c v)) x46 μ) (fun x47 => sp_X10_nextAnew_137 (ι c) 1 F n (y + x47) (ι (v + 1)) μ))) else sp_X10_nextAnew_137 (ι c) 1 F n (y + 0) (ι (v + 1)) μ))))) := by
    intro n y
    rw [sp_X10_nextAnew_137, if_neg q4, if_neg (by decide), bs10 c hc v hv, b1s, if_pos rfl, if_neg (show ¬ (1 : Int32) = 0 by decide), ι_one]
    simp only [sls]
  cases hb : bs c v with
  | none =>
    refine ⟨0, fun ν => ⟨ν, ?_⟩, fun _ n y => ?_, fun _ => rfl⟩
    · unfold sp_X5_givenBackTo
      rw [show oI none = -1 from rfl, if_pos rfl]
    · rw [st, hb, show oI none = -1 from rfl, if_pos rfl]
  | some d =>
    have hd := bs_lt hc hv hb
    obtain ⟨k, hk, ek⟩ := kd i0 hd
    have st2 : ∀ n y, sp_X10_nextAnew_137 (ι c) 1 F (n + 1) y (ι v) μ = (if σ 2 d = 0 then sp_X10_nextAnew_137 (ι c) 1 F n (y + 0) (ι (v + 1)) μ else if oI (low (σ 2) d) = ι c then (b1 (sp_X10_strands (ι d) μ) (fun x46 => b1 (sp_X10_back (ι d) x46 μ) (fun x47 => sp_X10_nextAnew_137 (ι c) 1 F n (y + x47) (ι (v + 1)) μ))) else sp_X10_nextAnew_137 (ι c) 1 F n (y + 0) (ι (v + 1)) μ) := by
      intro n y
      rw [st, hb, show oI (some d) = ι d from rfl, if_neg (oI_ne hd), ix hd (by omega), ι_nat (by omega), ← e3 d hd, low10 hd, b1s, ← low_congr e3 hd]
    by_cases g : σ 2 d = 0
    · refine ⟨0, fun ν => ⟨ν, ?_⟩, fun _ n y => ?_, fun _ => rfl⟩
      · unfold sp_X5_givenBackTo
        rw [show oI (some d) = ι d from rfl, if_neg (oI_ne hd), isWater9 hd, b1s, if_pos g, if_neg (by decide)]
      · rw [st2, if_pos g]
    · by_cases t : tdN (hr + 1) = 6
      · by_cases l : oI (low (σ 2) d) = ι c
        · obtain ⟨x, x1, x2⟩ := landV hK h hd hh
          refine ⟨bk (σ 2 d) x, fun ν => ?_, fun _ n y => ?_, fun q => absurd t q⟩
          · obtain ⟨ν', a1⟩ := x1 ν
            refine ⟨ν', ?_⟩
            unfold sp_X5_givenBackTo
            rw [show oI (some d) = ι d from rfl, if_neg (oI_ne hd), isWater9 hd, b1s, if_neg g, if_pos rfl, high9 i0 hh, b1s, if_pos t, if_neg (by decide), low9 hd, b1s, if_pos l, a1, b2s, backOf9 i0 hd, b1s]
          · rw [st2, if_neg g, if_pos l, x2, b1s, back10 hd hk ((e3 d hd).symm.trans ek), b1s, ← e3 d hd]
        · refine ⟨0, fun ν => ⟨ν, ?_⟩, fun _ n y => ?_, fun _ => rfl⟩
          · unfold sp_X5_givenBackTo
            rw [show oI (some d) = ι d from rfl, if_neg (oI_ne hd), isWater9 hd, b1s, if_neg g, if_pos rfl, high9 i0 hh, b1s, if_pos t, if_neg (by decide), low9 hd, b1s, if_neg l]
          · rw [st2, if_neg g, if_neg l]
      · refine ⟨0, fun ν => ⟨ν, ?_⟩, fun q => absurd q t, fun _ => rfl⟩
        unfold sp_X5_givenBackTo
        rw [show oI (some d) = ι d from rfl, if_neg (oI_ne hd), isWater9 hd, b1s, if_neg g, if_pos rfl, high9 i0 hh, b1s, if_neg t, if_pos rfl]
/-- the four neighbours, and the skimmers -/
theorem backLoop {nS nM hr : Nat} {K : Int} (hK : K ≤ 400000) {σ μ : St} (h : Jn True nS nM hr K σ μ) {c : Nat} (hc : c < 24) (hh : hr + 1 < 3001) (F : Int32) :
    ∀ (j v n n' : Nat) (y : Int32) (ν : Nat → Int32), v + j = 4 → j < n → j < n' → ∃ z ν', sp_X5_floatingOf_61 σ (ι c) F n y (ι v) ν = b1 (sp_X5_leftBySkimmers (ι c) F z σ) (fun x => some (x, ν')) ∧ sp_X10_nextAnew_137 (ι c) (if tdN (hr + 1) = 6 then 1 else 0) F n' y (ι v) μ = sp_X10_nextAnew_223 (ι c) 200 F z 0 μ := by
  intro j
  induction j with
  | zero =>
    intro v n n' y ν h1 h2 h3
    obtain ⟨n, rfl⟩ : ∃ q, n = q + 1 := ⟨n - 1, by omega⟩
    obtain ⟨n', rfl⟩ : ∃ q, n' = q + 1 := ⟨n' - 1, by omega⟩
    have ev : v = 4 := by omega
    subst ev
    exact ⟨y, ν, by rw [sp_X5_floatingOf_61, if_pos (by decide)], by rw [sp_X10_nextAnew_137, if_pos (by decide)]⟩
  | succ j ih =>
    intro v n n' y ν h1 h2 h3
    obtain ⟨n, rfl⟩ : ∃ q, n = q + 1 := ⟨n - 1, by omega⟩
    obtain ⟨n', rfl⟩ : ∃ q, n' = q + 1 := ⟨n' - 1, by omega⟩
    have hv : v < 4 := by omega
    have q3 : ¬ (3 : Int32) < ι v := by rw [show (3 : Int32) = ι 3 from rfl, ι_lt (by omega) (by omega)]; omega
    obtain ⟨x, x1, x2, x3⟩ := giveV hK h hc hv hh F
    obtain ⟨ν1, a1⟩ := x1 ν
    obtain ⟨z, ν', z1, z2⟩ := ih (v + 1) n n' (y + x) ν1 (by omega) (by omega) (by omega)
    refine ⟨z, ν', ?_, ?_⟩
    · rw [sp_X5_floatingOf_61, if_neg q3, bs9 c hc v hv, b1s, a1, b2s, sls, ι_one, z1]
    · by_cases t : tdN (hr + 1) = 6
      · rw [if_pos t] at z2 ⊢
        rw [x2 t, z2]
      · rw [if_neg t] at z2 ⊢
        rw [x3 t, Int32.add_zero] at z2
        have q4 : ¬ (4 : Int32) ≤ ι v := by rw [show (4 : Int32) = ι 4 from rfl, ι_le (by omega) (by omega)]; omega
        have out : ∀ m u, sp_X10_nextAnew_137 (ι c) 0 F (m + 1) y u μ = sp_X10_nextAnew_223 (ι c) 200 F y 0 μ := by
          intro m u
          rw [sp_X10_nextAnew_137]
          by_cases q : (4 : Int32) ≤ u
          · rw [if_pos q]
          · rw [if_neg q, if_pos rfl]
        obtain ⟨m, rfl⟩ : ∃ q, n' = q + 1 := ⟨n' - 1, by omega⟩
        rw [out] at z2 ⊢
        exact z2
theorem skimLoop {nS nM hr : Nat} {K : Int} {σ μ : St} (h : Jn True nS nM hr K σ μ) {c : Nat} (hc : c < 24) :
    ∀ (j m n n' : Nat) (F T : Int32), m + j = nM → j < n → j < n' → ∃ x, sp_X5_leftBySkimmers_9 σ (ι c) n F T (ι m) = some x ∧ sp_X10_nextAnew_223 (ι c) n' F T (ι m) μ = some (x, μ) := by
  obtain ⟨r, -, i0, -⟩ := id h
  have hM := i0.2.2.1.1
  have e14 := i0.2.2.1.2
  have m10 : μ 0 10 = ι nM := (r 14 0 rfl).symm.trans e14
  intro j
  induction j with
  | zero =>
    intro m n n' F T h1 h2 h3
    obtain ⟨n, rfl⟩ : ∃ q, n = q + 1 := ⟨n - 1, by omega⟩
    obtain ⟨n', rfl⟩ : ∃ q, n' = q + 1 := ⟨n' - 1, by omega⟩
    have em : m = nM := by omega
    subst em
    exact ⟨F + T, by rw [sp_X5_leftBySkimmers_9, e14, if_pos (Int32.le_refl _)], by rw [sp_X10_nextAnew_223, m10, if_pos (Int32.le_refl _)]⟩
  | succ j ih =>
    intro m n n' F T h1 h2 h3
    obtain ⟨n, rfl⟩ : ∃ q, n = q + 1 := ⟨n - 1, by omega⟩
    obtain ⟨n', rfl⟩ : ∃ q, n' = q + 1 := ⟨n' - 1, by omega⟩
    have q : ¬ ι nM ≤ ι m := by rw [ι_le (by omega) (by omega)]; omega
    have hm : m < 20 := by omega
    have e15 : μ 8 m = σ 15 m := (r 15 m hm).symm
    have e16 : μ 9 m = σ 16 m := (r 16 m hm).symm
    have e18 : μ 11 m = σ 18 m := (r 18 m hm).symm
    have e19 : μ 12 m = σ 19 m := (r 19 m hm).symm
    have e20 : μ 1 (148 + m) = σ 20 m := (r 20 m hm).symm
    have sk : sp_X4_isSkimmer (ι m) (ι c) σ = some (if σ 15 m = 1 then (if σ 16 m = ι c then 1 else 0) else 0) := by
      unfold sp_X4_isSkimmer
      rw [ix hm (by omega), ι_nat (by omega), ix2 hm (by omega)]
      by_cases u : σ 15 m = 1
      · rw [if_pos u, if_pos u]
        by_cases v : σ 16 m = ι c
        · rw [if_pos v, if_pos v]
        · rw [if_neg v, if_neg v]
      · rw [if_neg u, if_neg u]
    by_cases u : σ 15 m = 1
    · by_cases v : σ 16 m = ι c
      · obtain ⟨x, x1, x2⟩ := ih (m + 1) n n' (F - sf (σ 18 m) F (σ 19 m - σ 20 m)) (T - sth (σ 18 m) (sf (σ 18 m) F (σ 19 m - σ 20 m)) T (σ 19 m - σ 20 m)) (by omega) (by omega) (by omega)
        refine ⟨x, ?_, ?_⟩
        · rw [sp_X5_leftBySkimmers_9, e14, if_neg q, sk, b1s, if_pos u, if_pos v, if_neg (by decide), ft9 hm, b1s, sls, tt9 hm, b1s, sls, ι_one, x1]
        · rw [sp_X10_nextAnew_223, m10, if_neg q, ix hm (by omega), ι_nat (show m < 100000 by omega), e15, if_pos u, ix2 hm (by omega), e16, if_pos v, ix2 hm (by omega), i148, ix (show 148 + m < 174 by omega) (by omega), ι_nat (by omega), e19, e20, sls, ix2 hm (by omega), e18, least_eq, b1s, least_eq, b1s, ix2 hm (by omega), least_eq, b1s, least_eq, b1s, sls, sls, ι_one]
          exact x2
      · obtain ⟨x, x1, x2⟩ := ih (m + 1) n n' F T (by omega) (by omega) (by omega)
        refine ⟨x, ?_, ?_⟩
        · rw [sp_X5_leftBySkimmers_9, e14, if_neg q, sk, b1s, if_pos u, if_neg v, if_pos rfl, ι_one, x1]
        · rw [sp_X10_nextAnew_223, m10, if_neg q, ix hm (by omega), ι_nat (show m < 100000 by omega), e15, if_pos u, ix2 hm (by omega), e16, if_neg v, ι_one, x2]
    · obtain ⟨x, x1, x2⟩ := ih (m + 1) n n' F T (by omega) (by omega) (by omega)
      refine ⟨x, ?_, ?_⟩
      · rw [sp_X5_leftBySkimmers_9, e14, if_neg q, sk, b1s, if_neg u, if_pos rfl, ι_one, x1]
      · rw [sp_X10_nextAnew_223, m10, if_neg q, ix hm (by omega), ι_nat (show m < 100000 by omega), e15, if_neg u, ι_one, x2]
