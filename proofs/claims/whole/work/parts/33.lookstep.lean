theorem oI_ne' {d : Nat} (h : d < 20) : ¬ ι d = -1 := oI_ne (by omega)
/-- what is stored: litres that go, and the boom that breaks -/
def dec (σ : St) (F T : Int32) (y : Option Nat) : Int32 × Int32 × Option Nat :=
  if F + T ≤ 0 then (F, T, none) else match y with
  | none => (F, T, none)
  | some b => if σ 18 b < σ 0 6 then (F, T, some b) else (0, 0, none)
def brk (k o : Nat) (σ : St) : Option Nat → St
  | none => σ
  | some b => stU σ k (o + b) 1
def fwS (σ : St) (c : Nat) (q : Int32 × Int32 × Option Nat) : St := stU (stU (brk 20 0 σ q.2.2) 24 c q.1) 25 c q.2.1
def loM (μ : St) (c : Nat) (q : Int32 × Int32 × Option Nat) : St := stU (stU (brk 1 148 μ q.2.2) 5 c q.1) 5 (24 + c) q.2.1
theorem fw108 {σ : St} {c : Nat} (hc : c < 24) {F T : Int32} : sp_X0_findWhatGoes_108 (ι c) F T σ = some (stU (stU σ 24 c F) 25 c T) := by
  unfold sp_X0_findWhatGoes_108
  simp only [ι_nat (show c < 100000 by omega), ix2 hc (show 24 < 100000 by omega), sl]
theorem fw9 {nS nM hr : Nat} {σ : St} (h : I0 nS nM hr σ) {c w : Nat} (hc : c < 24) (hw : w < 4) (e5 : σ 0 5 = ι w) {y : Option Nat} (hy : sp_X4_boomOn (ι c) (ι w) σ = some (oI y)) (hy20 : ∀ b, y = some b → b < 20)
    (g1 : iMin (bl (σ 4 c) (σ 0 6)) (roomB σ (bs c w)) = gof σ (bs c w) (bl (σ 4 c) (σ 0 6))) (g2 : iMin (bl (σ 5 c) (σ 0 6)) (roomB σ (bs c w) - gof σ (bs c w) (bl (σ 4 c) (σ 0 6))) = got σ (bs c w) (bl (σ 4 c) (σ 0 6)) (bl (σ 5 c) (σ 0 6))) :
    sp_X0_findWhatGoes (ι c) σ = some (fwS σ c (dec σ (gof σ (bs c w) (bl (σ 4 c) (σ 0 6))) (got σ (bs c w) (bl (σ 4 c) (σ 0 6)) (bl (σ 5 c) (σ 0 6))) y)) := by
  unfold sp_X0_findWhatGoes sp_X0_blown
  rw [room9 h hc hw e5]
  simp only [b1, ι_nat (show c < 100000 by omega), ix2 hc (show 24 < 100000 by omega)]
  rw [show σ 4 c * σ 0 6 / 10 = bl (σ 4 c) (σ 0 6) from rfl, show σ 5 c * σ 0 6 / 10 = bl (σ 5 c) (σ 0 6) from rfl, g1, g2]
  generalize gof σ (bs c w) (bl (σ 4 c) (σ 0 6)) = F
  generalize got σ (bs c w) (bl (σ 4 c) (σ 0 6)) (bl (σ 5 c) (σ 0 6)) = T
  unfold dec fwS
  by_cases q : F + T ≤ 0
  · rw [if_pos q, if_pos q, fw108 hc]; rfl
  · rw [if_neg q, if_neg q, e5, hy]
    cases y with
    | none => simp only [show oI none = -1 from rfl, if_pos]; unfold sp_X0_findWhatGoes_91; rw [if_pos rfl, fw108 hc]; rfl
    | some b =>
      have hb := hy20 b rfl
      simp only [show oI (some b) = ι b from rfl, ι_nat (show b < 100000 by omega), ix2 hb (show 20 < 100000 by omega)]
      rw [if_neg (oI_ne' hb)]
      by_cases p : σ 18 b < σ 0 6
      · rw [if_pos p, if_pos p]
        unfold sp_X0_findWhatGoes_91
        rw [if_neg (oI_ne' hb)]
        simp only [ι_nat (show b < 100000 by omega), ix2 hb (show 20 < 100000 by omega), sl]
        rw [fw108 hc]
        show _ = some (stU (stU (stU σ 20 (0 + b) 1) 24 c F) 25 c T)
        rw [Nat.zero_add]
      · rw [if_neg p, if_neg p, fw108 hc]; rfl
