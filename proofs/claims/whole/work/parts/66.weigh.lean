theorem upd_s (ν : Nat → Int32) (k : Nat) (x : Int32) : upd ν k x k = x := if_pos rfl
theorem upd_o {ν : Nat → Int32} {k j : Nat} {x : Int32} (h : j ≠ k) : upd ν k x j = ν j := if_neg h
/-- four numbers of a weighing -/
def Wn (ν : Nat → Int32) (F T G H : Int32) : Prop := ν 1 = F ∧ ν 2 = T ∧ ν 3 = G ∧ ν 4 = H
theorem wgh139 {σ : St} {room F T : Int32} {ν : Nat → Int32} (h1 : ν 1 = F) (h2 : ν 2 = T) : ∃ ν', sp_X5_weigh_139 σ room ν = some ν' ∧ Wn ν' F T (iMin (bl F (σ 0 6)) room) (iMin (bl T (σ 0 6)) (room - iMin (bl F (σ 0 6)) room)) := by
  refine ⟨upd (upd ν 3 (iMin (bl F (σ 0 6)) room)) 4 (iMin (bl T (σ 0 6)) (room - iMin (bl F (σ 0 6)) room)), ?_, ?_, ?_, ?_, ?_⟩
  · unfold sp_X5_weigh_139 sp_X0_blown
    rw [h1, b1s, sls, b1s, sls, upd_o (show (2 : Nat) ≠ 3 by decide), h2, upd_s]
    rfl
  · rw [upd_o (by decide), upd_o (by decide), h1]
  · rw [upd_o (by decide), upd_o (by decide), h2]
  · rw [upd_o (by decide), upd_s]
  · rw [upd_s]
/-- a boom that holds lets nothing go -/
def pk (σ : St) (y : Option Nat) (A : Int32) : Int32 := match y with
  | none => A
  | some b => if σ 18 b < σ 0 6 then A else 0
theorem g97 {σ μ : St} {d w : Nat} (hd : d < 24) (hw : w < 4) (e5 : μ 0 5 = ι w) (e6 : μ 0 6 = σ 0 6) {y : Option Nat} (hy : sp_X10_boomOn (ι (bor d w)) μ = some (oI y)) (hy20 : ∀ b, y = some b → b < 20) (hf : ∀ b, b < 20 → μ 11 b = σ 18 b) (p f t free : Int32) :
    sp_X10_goes_97 μ (ι d) p f t free = some (pk σ y (if p = 0 then iMin f free else iMin t (free - iMin f free))) := by
  have g155 : ∀ u v : Int32, sp_X10_goes_155 μ p u v = some (if p = 0 then u else v) := by
    intro u v
    unfold sp_X10_goes_155
    by_cases q : p = 0
    · rw [if_pos q, if_pos q]
    · rw [if_neg q, if_neg q]
  unfold sp_X10_goes_97
  rw [least_eq, b1s, least_eq, b1s, e5, bor10 d hd w hw, b1s, hy, b1s]
  cases y with
  | none => rw [show oI none = -1 from rfl, if_pos rfl, g155]; rfl
  | some b =>
    have hb := hy20 b rfl
    rw [show oI (some b) = ι b from rfl, if_neg (oI_ne' hb), ix hb (by omega), ι_nat (by omega), hf b hb, e6]
    unfold pk
    dsimp only
    by_cases q : σ 18 b < σ 0 6
    · rw [if_pos q, if_pos q, g155]
    · rw [if_neg q, if_neg q]
theorem weighV {nS nM hr : Nat} {K : Int} (hK : K ≤ 400000) {σ μ : St} (h : Jn True nS nM hr K σ μ) {d : Nat} (hd : d < 24) (hw0 : σ 2 d = 0) (hh : hr + 1 < 3001) :
    ∃ F T G H : Int32, (∀ ν, ∃ ν', sp_X5_weigh (ι d) σ ν = some ν' ∧ Wn ν' F T G H) ∧ sp_X10_floats (ι d) 0 μ = some F ∧ sp_X10_floats (ι d) 1 μ = some T ∧ sp_X10_goes (ι d) 0 μ = some G ∧ sp_X10_goes (ι d) 1 μ = some H := by
  obtain ⟨r, hb, i0, i1⟩ := id h
  have e3 : ∀ c, c < 24 → μ 3 c = σ 2 c := fun c hc => (r 2 c hc).symm
  have e6 : μ 0 6 = σ 0 6 := (r 0 6 (Or.inr (Or.inr rfl))).symm
  have e48 : ∀ c, c < 24 → μ 1 (48 + c) = σ 6 c := fun c hc => (r 6 c hc).symm
  have hf : ∀ b, b < 20 → μ 11 b = σ 18 b := fun b hb => (r 18 b hb).symm
  obtain ⟨w, hw, e5⟩ := i0.2.2.2.1
  obtain ⟨s, hs, es⟩ := i0.2.2.2.2.1
  have m5 : μ 0 5 = ι w := (r 0 5 (Or.inr (Or.inl rfl))).symm.trans e5
  have hM := i0.2.2.1.1
  have e14 := i0.2.2.1.2
  have m10 : μ 0 10 = ι nM := (r 14 0 rfl).symm.trans e14
  obtain ⟨x2, x0, x1, ⟨z, z1, z2⟩, f0, f1⟩ := floatsV hK h hd hh
  have v5 := (i1.2.1 d hd).1
  obtain ⟨F0, T0, FT⟩ := fFT_v x0 v5 x1
  generalize hF : fF x2 = F at f0 F0 FT
  generalize hT : fT (σ 5 d) x2 = T at f1 T0 FT
  obtain ⟨-, u0, u1⟩ := bl_v (f := F) (s := s) F0 (by omega) hs
  obtain ⟨-, w0, w1⟩ := bl_v (f := T) (s := s) T0 (by omega) hs
  rw [← es] at u0 u1 w0 w1
  obtain ⟨rg1, rg2⟩ := room_gof (σ := σ) (to := bs d w) u0 w0 (by omega)
  obtain ⟨y, y9, y10, yk⟩ := boom_eq hM e14 m10 (fun m hm => (r 15 m (show m < 20 by omega)).symm) (fun m hm => (r 20 m (show m < 20 by omega)).symm) hb hd hw nM 0 200 200 (by omega) (by omega) (by omega)
  have Y9 : sp_X4_boomOn (ι d) (ι w) σ = some (oI y) := by
    unfold sp_X4_boomOn
    rw [bs9 d hd w hw, b1s, op9 w hw, b1s]
    exact y9
  have Y10 : sp_X10_boomOn (ι (bor d w)) μ = some (oI y) := y10
  have hy20 : ∀ b, y = some b → b < 20 := fun b q => by have := (yk b q).1; omega
  -- the class
  have cl : ∀ ν : Nat → Int32, ∃ ν7 : Nat → Int32, ν7 1 = F ∧ ν7 2 = T ∧ sp_X5_weigh (ι d) σ ν = (if oI y = -1 then sp_X5_weigh_119 σ (ι d) ν7 else if oI y < 0 ∨ 20 ≤ (oI y).toNatClampNeg then none else if σ 18 (oI y).toNatClampNeg < σ 0 6 then sp_X5_weigh_119 σ (ι d) ν7 else sp_X5_weigh_120 σ (ι d) 1 ν7) := by
    intro ν
    refine ⟨upd (upd ν 1 F) 2 T, by rw [upd_o (by decide), upd_s], upd_s _ _ _, ?_⟩
    unfold sp_X5_weigh
    rw [ix hd (by omega), z1, b1s, sls, ι_nat (by omega), z2, sls, sls, sls, ix2 hd (by omega), sls, sls, e5, Y9, b1s]
    rw [show x2 - x2 / 20 - (x2 - x2 / 20) / 10 = F from hF, show σ 5 d + (x2 - x2 / 20) / 10 - (σ 5 d + (x2 - x2 / 20) / 10) / 50 = T from hT]
  have c119 : ∀ ν7 : Nat → Int32, ν7 1 = F → ν7 2 = T → ∃ ν', sp_X5_weigh_119 σ (ι d) ν7 = some ν' ∧ Wn ν' F T (gof σ (bs d w) (bl F (σ 0 6))) (got σ (bs d w) (bl F (σ 0 6)) (bl T (σ 0 6))) := by
    intro ν7 h1 h2
    obtain ⟨ν', a1, a2⟩ := wgh139 (σ := σ) (room := roomB σ (bs d w)) h1 h2
    rw [rg1, rg2] at a2
    refine ⟨ν', ?_, a2⟩
    unfold sp_X5_weigh_119 sp_X5_weigh_120
    rw [if_pos rfl, room9 i0 hd hw e5, b1s, a1]
  have c120 : ∀ ν7 : Nat → Int32, ν7 1 = F → ν7 2 = T → ∃ ν', sp_X5_weigh_120 σ (ι d) 1 ν7 = some ν' ∧ Wn ν' F T 0 0 := by
    intro ν7 h1 h2
    obtain ⟨ν', a1, a2⟩ := wgh139 (σ := σ) (room := 0) h1 h2
    have t0 : (0 : Int32).toInt = 0 := rfl
    have k1 : iMin (bl F (σ 0 6)) 0 = 0 := Int32.toInt_inj.mp (by rw [iMin_int, t0]; omega)
    have k2 : iMin (bl T (σ 0 6)) 0 = 0 := Int32.toInt_inj.mp (by rw [iMin_int, t0]; omega)
    rw [k1, show (0 : Int32) - 0 = 0 from rfl, k2] at a2
    refine ⟨ν', ?_, a2⟩
    unfold sp_X5_weigh_120
    rw [if_neg (by decide), a1]
  -- the reference
  have mo : ∀ p : Int32, sp_X10_goes (ι d) p μ = some (pk σ y (if p = 0 then gof σ (bs d w) (bl F (σ 0 6)) else got σ (bs d w) (bl F (σ 0 6)) (bl T (σ 0 6)))) := by
    intro p
    unfold sp_X10_goes
    rw [if_neg (oI_ne hd), ix hd (by omega), ι_nat (by omega), if_pos (by rw [e3 d hd]; exact hw0), f0, b1s, sls, f1, b1s, sls, m5, bs10 d hd w hw, b1s, e6]
    rw [show F * σ 0 6 / 10 = bl F (σ 0 6) from rfl, show T * σ 0 6 / 10 = bl T (σ 0 6) from rfl]
    have opn : sp_X10_goes_73 μ (ι d) p (bl F (σ 0 6)) (bl T (σ 0 6)) = some (pk σ y (if p = 0 then bl F (σ 0 6) else bl T (σ 0 6))) := by
      unfold sp_X10_goes_73
      rw [g97 hd hw m5 e6 Y10 hy20 hf]
      have a1 : (bl F (σ 0 6) + bl T (σ 0 6)).toInt = (bl F (σ 0 6)).toInt + (bl T (σ 0 6)).toInt := t_add (by omega) (by omega)
      have a2 : iMin (bl F (σ 0 6)) (bl F (σ 0 6) + bl T (σ 0 6)) = bl F (σ 0 6) := iMin_l (by omega)
      have a3 : (bl F (σ 0 6) + bl T (σ 0 6) - bl F (σ 0 6)).toInt = (bl T (σ 0 6)).toInt := by rw [t_sub (by omega) (by omega), a1]; omega
      rw [a2, iMin_l (show (bl T (σ 0 6)).toInt ≤ (bl F (σ 0 6) + bl T (σ 0 6) - bl F (σ 0 6)).toInt by omega)]
    cases hbs : bs d w with
    | none => rw [show oI none = -1 from rfl, if_pos rfl]; exact opn
    | some c =>
      have hc := bs_lt hd hw hbs
      obtain ⟨k, hk, ek⟩ := kd i0 hc
      rw [show oI (some c) = ι c from rfl, if_neg (oI_ne hc), ix hc (by omega), ι_nat (by omega), e3 c hc]
      unfold got gof
      by_cases g : σ 2 c = 0
      · rw [if_pos g]; simp only [if_pos g]; exact opn
      · rw [if_neg g]
        simp only [if_neg g]
        rw [holds10 (k := k) hc hk (by rw [e3 c hc]; exact ek) (by rw [e3 c hc]; exact g), b1s, i48, ix (show 48 + c < 174 by omega) (by omega), ι_nat (by omega), e3 c hc, e48 c hc, g97 hd hw m5 e6 Y10 hy20 hf]
  cases y with
  | none =>
    refine ⟨F, T, gof σ (bs d w) (bl F (σ 0 6)), got σ (bs d w) (bl F (σ 0 6)) (bl T (σ 0 6)), fun ν => ?_, f0, f1, ?_, ?_⟩
    · obtain ⟨ν7, h1, h2, h3⟩ := cl ν
      obtain ⟨ν', a1, a2⟩ := c119 ν7 h1 h2
      exact ⟨ν', by rw [h3, show oI none = -1 from rfl, if_pos rfl, a1], a2⟩
    · rw [mo 0, if_pos rfl]; rfl
    · rw [mo 1, if_neg (by decide)]; rfl
  | some b =>
    have hb20 := hy20 b rfl
    by_cases q : σ 18 b < σ 0 6
    · refine ⟨F, T, gof σ (bs d w) (bl F (σ 0 6)), got σ (bs d w) (bl F (σ 0 6)) (bl T (σ 0 6)), fun ν => ?_, f0, f1, ?_, ?_⟩
      · obtain ⟨ν7, h1, h2, h3⟩ := cl ν
        obtain ⟨ν', a1, a2⟩ := c119 ν7 h1 h2
        exact ⟨ν', by rw [h3, show oI (some b) = ι b from rfl, if_neg (oI_ne' hb20), ix hb20 (by omega), ι_nat (by omega), if_pos q, a1], a2⟩
      · rw [mo 0]; unfold pk; dsimp only; rw [if_pos q, if_pos rfl]
      · rw [mo 1]; unfold pk; dsimp only; rw [if_pos q, if_neg (by decide)]
    · refine ⟨F, T, 0, 0, fun ν => ?_, f0, f1, ?_, ?_⟩
      · obtain ⟨ν7, h1, h2, h3⟩ := cl ν
        obtain ⟨ν', a1, a2⟩ := c120 ν7 h1 h2
        exact ⟨ν', by rw [h3, show oI (some b) = ι b from rfl, if_neg (oI_ne' hb20), ix hb20 (by omega), ι_nat (by omega), if_neg q, a1], a2⟩
      · rw [mo 0]; unfold pk; dsimp only; rw [if_neg q]
      · rw [mo 1]; unfold pk; dsimp only; rw [if_neg q]
