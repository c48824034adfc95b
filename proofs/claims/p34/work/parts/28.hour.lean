/-! an hour as a function -/
def lkN (t : Int32) : Nat → St → St
  | 0, σ => σ
  | s + 1, σ => lkS (lkN t s σ) s (lkN t s σ 11 s).toNatClampNeg (lk (lkN t s σ 12 s) (lkN t s σ 13 s) t)
def weN : Nat → St → St
  | 0, σ => σ
  | c + 1, σ => wea (weN c σ) c
/-- what goes from c, as the wind finds it -/
def lq (w nM : Nat) (σ : St) (c : Nat) : Int32 × Int32 × Option Nat := dec σ (gof σ (bs c w) (bl (σ 4 c) (σ 0 6))) (got σ (bs c w) (bl (σ 4 c) (σ 0 6)) (bl (σ 5 c) (σ 0 6))) (bmN σ c w nM 0)
def loN (w nM : Nat) : Nat → St → St
  | 0, σ => σ
  | c + 1, σ => fwS (loN w nM c σ) c (lq w nM (loN w nM c σ) c)
def drN (w : Nat) : Nat → St → St
  | 0, σ => σ
  | c + 1, σ => ldS (drN w c σ) c (drN w c σ 24 c) (drN w c σ 25 c) (bs c w)
def gbS (σ : St) (c : Nat) : St := match low (σ 2) c with
  | none => σ
  | some d => stU (stU σ 6 c (σ 6 c - bk (σ 2 c) (σ 6 c))) 5 d (σ 5 d + bk (σ 2 c) (σ 6 c))
def gbN : Nat → St → St
  | 0, σ => σ
  | c + 1, σ => gbS (gbN c σ) c
def skF (σ : St) (m c : Nat) : Int32 := sf (σ 18 m) (σ 4 c) (σ 19 m - σ 20 m)
def skT (σ : St) (m c : Nat) : Int32 := sth (σ 18 m) (skF σ m c) (σ 5 c) (σ 19 m - σ 20 m)
def skM (σ : St) (m : Nat) : St := if σ 15 m = 1 then skS 4 (σ 16 m).toNatClampNeg 5 (σ 16 m).toNatClampNeg 20 m (skF σ m (σ 16 m).toNatClampNeg) (skT σ m (σ 16 m).toNatClampNeg) σ else σ
def skN : Nat → St → St
  | 0, σ => σ
  | m + 1, σ => skM (skN m σ) m
def haN : Nat → St → St
  | 0, σ => σ
  | c + 1, σ => hS 6 c 7 c 8 c 9 c (tabH (haN c σ 2 c)) (haN c σ)
def hourF (nS nM w hr : Nat) (σ : St) : St :=
  haN 24 (skN nM ((fun x => if tdN (hr + 1) = 6 then gbN 24 x else x) (drN w 24 (loN w nM 24 (weN 24 (lkN (ι (tdN (hr + 1))) nS (stU σ 0 4 (ι (hr + 1)))))))))
/-! the loops do these -/
def I2 (nS nM hr : Nat) (K : Int) (σ : St) : Prop := I0 nS nM hr σ ∧ I1 nS nM K σ
theorem lkI {nS nM hr : Nat} {K : Int} (hK : K ≤ 400000) {σ : St} (h : I2 nS nM hr K σ) {s c : Nat} (hs : s < nS) (hc : c < 24) (hw : σ 2 c = 0) {l : Int32} (l0 : 0 ≤ l.toInt) (l1 : l.toInt ≤ (σ 12 s).toInt) : I2 nS nM hr K (lkS σ s c l) := by
  obtain ⟨r3, r4⟩ := h
  have hS := r3.2.1.1
  have hs4 : s < 4 := by omega
  obtain ⟨v0, v1⟩ := r4.b12 hs4
  have v2 := r4.p12 hs4 hc
  obtain ⟨-, v3, -, -⟩ := r4.b4 hc
  have w1 : (σ 12 s - l).toInt = (σ 12 s).toInt - l.toInt := t_sub (by omega) (by omega)
  have w2 : (σ 4 c + l).toInt = (σ 4 c).toInt + l.toInt := t_add (by omega) (by omega)
  unfold lkS
  refine ⟨note0 ((r3.oth rfl).oth rfl) _ _, note1 ?_ _ _⟩
  have s1 := r4.s12 (s := s) (x := σ 12 s - l) hs4 (by omega) (fun q => by omega)
  have s2 := s1.s4 (c := c) (x := σ 4 c + l) hc (by omega) (fun q => absurd (by rw [stU_k (by decide)]; exact hw) q)
  rw [stU_k (by decide)] at s2
  exact s2.mono (by omega)
theorem lk_in {nS nM hr : Nat} {K : Int} (hK : K ≤ 400000) {σ : St} (h : I2 nS nM hr K σ) {s : Nat} (hs : s < nS) {t : Nat} (ht : t ≤ 6) : ∃ c, c < 24 ∧ σ 11 s = ι c ∧ σ 2 c = 0 ∧ 0 ≤ (lk (σ 12 s) (σ 13 s) (ι t)).toInt ∧ (lk (σ 12 s) (σ 13 s) (ι t)).toInt ≤ (σ 12 s).toInt := by
  obtain ⟨r3, r4⟩ := h
  have hS := r3.2.1.1
  obtain ⟨c, hc, h11, hw⟩ := r3.2.2.2.2.2.2.1 s hs
  obtain ⟨r, hr, h13⟩ := r3.2.2.2.2.2.2.2.1 s (by omega)
  obtain ⟨v0, v1⟩ := r4.b12 (show s < 4 by omega)
  obtain ⟨l0, l1⟩ := lk_v (L := σ 12 s) (r := r) (t := t) v0 (by omega) hr ht
  rw [← h13] at l0 l1
  exact ⟨c, hc, h11, hw, l0, l1⟩
theorem lkN_I {nS nM hr : Nat} {K : Int} (hK : K ≤ 400000) {σ : St} (h : I2 nS nM hr K σ) {t : Nat} (ht : t ≤ 6) : ∀ s, s ≤ nS → I2 nS nM hr K (lkN (ι t) s σ)
  | 0, _ => h
  | s + 1, hs => by
    have ih := lkN_I hK h ht s (by omega)
    obtain ⟨c, hc, h11, hw, l0, l1⟩ := lk_in hK ih (show s < nS by omega) ht
    show I2 nS nM hr K (lkS (lkN (ι t) s σ) s (lkN (ι t) s σ 11 s).toNatClampNeg _)
    rw [h11, ι_nat (by omega)]
    exact lkI hK ih (by omega) hc hw l0 l1
theorem leak9 {nS nM hr : Nat} {K : Int} (hK : K ≤ 400000) {σ : St} (h : I2 nS nM hr K σ) {t : Nat} (ht : t ≤ 6) : ∀ (j s n : Nat), s + j = nS → j < n → sp_X0_leak_10 (ι t) n (ι s) (lkN (ι t) s σ) = some (lkN (ι t) nS σ) := by
  intro j
  have hS := h.1.2.1.1
  induction j with
  | zero =>
    intro s n h1 h2
    obtain ⟨n, rfl⟩ : ∃ q, n = q + 1 := ⟨n - 1, by omega⟩
    have es : s = nS := by omega
    subst es
    have e10 := (lkN_I hK h ht s (Nat.le_refl s)).1.2.1.2
    rw [sp_X0_leak_10, e10, if_pos (Int32.le_refl _)]
  | succ j ih =>
    intro s n h1 h2
    obtain ⟨n, rfl⟩ : ∃ q, n = q + 1 := ⟨n - 1, by omega⟩
    have hi := lkN_I hK h ht s (by omega)
    obtain ⟨c, hc, h11, hw, l0, l1⟩ := lk_in hK hi (show s < nS by omega) ht
    rw [lk9 hS hi.1.2.1.2 (by omega) hc h11]
    have e : lkS (lkN (ι t) s σ) s c (lk (lkN (ι t) s σ 12 s) (lkN (ι t) s σ 13 s) (ι t)) = lkN (ι t) (s + 1) σ := by
      show _ = lkS (lkN (ι t) s σ) s (lkN (ι t) s σ 11 s).toNatClampNeg _
      rw [h11, ι_nat (by omega)]
    rw [e]
    exact ih (s + 1) n (by omega) (by omega)
theorem weN_I {nS nM hr : Nat} {K : Int} (hK : K ≤ 400000) {σ : St} (h : I2 nS nM hr K σ) : ∀ c, c ≤ 24 → I2 nS nM hr K (weN c σ)
  | 0, _ => h
  | c + 1, hc => by
    have ih := weN_I hK h c (by omega)
    exact ⟨wea0 ih.1, weaI hK ih.2 (by omega)⟩
theorem weather9 (σ : St) : ∀ (j c n : Nat), c + j = 24 → j < n → sp_X0_weather_2 n (ι c) (weN c σ) = some (weN 24 σ) := by
  intro j
  induction j with
  | zero =>
    intro c n h1 h2
    obtain ⟨n, rfl⟩ : ∃ q, n = q + 1 := ⟨n - 1, by omega⟩
    have ec : c = 24 := by omega
    subst ec
    rw [sp_X0_weather_2, if_pos (show (24 : Int32) ≤ ι 24 by decide)]
  | succ j ih =>
    intro c n h1 h2
    obtain ⟨n, rfl⟩ : ∃ q, n = q + 1 := ⟨n - 1, by omega⟩
    rw [wea9 (by omega)]
    exact ih (c + 1) n (by omega) (by omega)
/-- what goes fits, and its boom -/
def Go (w c : Nat) (σ : St) : Prop := ∀ a, a < c → 0 ≤ (σ 24 a).toInt ∧ (σ 24 a).toInt ≤ (σ 4 a).toInt ∧ 0 ≤ (σ 25 a).toInt ∧ (σ 25 a).toInt ≤ (σ 5 a).toInt ∧ ∀ d, bs a w = some d → ¬ σ 2 d = 0 → (σ 6 d).toInt + (σ 24 a).toInt + (σ 25 a).toInt ≤ (tabH (σ 2 d)).toInt
theorem fwI {nS nM hr : Nat} {K : Int} {σ : St} (h : I2 nS nM hr K σ) {c : Nat} (q : Int32 × Int32 × Option Nat) (hb : ∀ b, q.2.2 = some b → b < nM ∧ σ 15 b = 0) : I2 nS nM hr K (fwS σ c q) := by
  obtain ⟨r3, r4⟩ := h
  have hM : nM ≤ 20 := r3.2.2.1.1
  unfold fwS
  have key : I2 nS nM hr K (brk 20 0 σ q.2.2) := by
    cases hq : q.2.2 with
    | none => exact ⟨r3, r4⟩
    | some b =>
      obtain ⟨b1, b2⟩ := hb b hq
      unfold brk
      dsimp only
      rw [Nat.zero_add]
      refine ⟨r3.oth rfl, r4.s20 (fun _ e1 => ?_) (fun e2 => by omega)⟩
      rw [b2] at e1
      cases e1
  exact ⟨(key.1.oth rfl).oth rfl, (key.2.oth rfl).oth rfl⟩
theorem lq_v {nS nM hr : Nat} {K : Int} (hK : K ≤ 400000) {σ : St} (h : I2 nS nM hr K σ) {c w : Nat} (hc : c < 24) (hw : w < 4) :
    (∀ b, (lq w nM σ c).2.2 = some b → b < nM ∧ bmt σ c w b) ∧ 0 ≤ (lq w nM σ c).1.toInt ∧ (lq w nM σ c).1.toInt ≤ (σ 4 c).toInt ∧ 0 ≤ (lq w nM σ c).2.1.toInt ∧ (lq w nM σ c).2.1.toInt ≤ (σ 5 c).toInt ∧ ∀ d, bs c w = some d → ¬ σ 2 d = 0 → (σ 6 d).toInt + (lq w nM σ c).1.toInt + (lq w nM σ c).2.1.toInt ≤ (tabH (σ 2 d)).toInt := by
  obtain ⟨r3, r4⟩ := h
  obtain ⟨f0, f1, t0, t1, sh, lim, bf0, bt0⟩ := go_v hK r3 r4 hc hw
  unfold lq
  generalize gof σ (bs c w) (bl (σ 4 c) (σ 0 6)) = F at *
  generalize got σ (bs c w) (bl (σ 4 c) (σ 0 6)) (bl (σ 5 c) (σ 0 6)) = T at *
  rcases dec_c (σ := σ) F T (bmN σ c w nM 0) with ⟨z, hz, hz2⟩ | hz
  · rw [hz]
    refine ⟨fun b hb => ?_, f0, f1, t0, t1, sh⟩
    rcases hz2 with rfl | rfl
    · cases hb
    · have := bmN_lt hb
      exact ⟨by omega, this.2⟩
  · rw [hz]
    have z0 : (0 : Int32).toInt = 0 := rfl
    have b4 := r4.b4 hc
    refine ⟨fun b hb => (by cases hb), by rw [z0]; omega, by rw [z0]; omega, by rw [z0]; omega, by rw [z0]; omega, fun d hd hn => ?_⟩
    have := (r4.2.2.1 d (bs_lt hc hw hd)).2
    rw [z0]; omega
theorem fw_step {nS nM hr : Nat} {K : Int} (hK : K ≤ 400000) {σ : St} (h : I2 nS nM hr K σ) {c w : Nat} (hc : c < 24) (hw : w < 4) (e5 : σ 0 5 = ι w) : sp_X0_findWhatGoes (ι c) σ = some (fwS σ c (lq w nM σ c)) := by
  obtain ⟨r3, r4⟩ := h
  obtain ⟨hM, h14⟩ := r3.2.2.1
  obtain ⟨f0, f1, t0, t1, sh, lim, bf0, bt0⟩ := go_v hK r3 r4 hc hw
  obtain ⟨g1, g2⟩ := room_gof (σ := σ) (to := bs c w) (f := bl (σ 4 c) (σ 0 6)) (t := bl (σ 5 c) (σ 0 6)) bf0 bt0 lim
  exact fw9 r3 hc hw e5 (boomOn9 hM h14 hc hw) (fun b hb => by have := (bmN_lt hb).1; omega) g1 g2
theorem fwG {w c : Nat} {σ : St} (h : Go w c σ) {q : Int32 × Int32 × Option Nat} (a1 : 0 ≤ q.1.toInt) (a2 : q.1.toInt ≤ (σ 4 c).toInt) (a3 : 0 ≤ q.2.1.toInt) (a4 : q.2.1.toInt ≤ (σ 5 c).toInt) (a5 : ∀ d, bs c w = some d → ¬ σ 2 d = 0 → (σ 6 d).toInt + q.1.toInt + q.2.1.toInt ≤ (tabH (σ 2 d)).toInt) : Go w (c + 1) (fwS σ c q) := by
  intro a ha
  have o4 : ∀ d, fwS σ c q 4 d = σ 4 d := fun d => fwS_o (by decide) (by decide) (by decide)
  have o5 : ∀ d, fwS σ c q 5 d = σ 5 d := fun d => fwS_o (by decide) (by decide) (by decide)
  have o2 : ∀ d, fwS σ c q 2 d = σ 2 d := fun d => fwS_o (by decide) (by decide) (by decide)
  have o6 : ∀ d, fwS σ c q 6 d = σ 6 d := fun d => fwS_o (by decide) (by decide) (by decide)
  simp only [o2, o4, o5, o6]
  by_cases e : a = c
  · subst e
    have v24 : fwS σ a q 24 a = q.1 := by unfold fwS; rw [stU_k (by decide), stU_same]
    have v25 : fwS σ a q 25 a = q.2.1 := by unfold fwS; rw [stU_same]
    rw [v24, v25]
    exact ⟨a1, a2, a3, a4, a5⟩
  · have v24 : fwS σ c q 24 a = σ 24 a := by unfold fwS; rw [stU_k (by decide), stU_i e, brk_o (by decide)]
    have v25 : fwS σ c q 25 a = σ 25 a := by unfold fwS; rw [stU_i e, stU_k (by decide), brk_o (by decide)]
    rw [v24, v25]
    exact h a (by omega)
theorem loN_I {nS nM hr : Nat} {K : Int} (hK : K ≤ 400000) {σ : St} (h : I2 nS nM hr K σ) {w : Nat} (hw : w < 4) (e5 : σ 0 5 = ι w) : ∀ c, c ≤ 24 → I2 nS nM hr K (loN w nM c σ) ∧ loN w nM c σ 0 5 = ι w ∧ Go w c (loN w nM c σ)
  | 0, _ => ⟨h, e5, fun a ha => absurd ha (Nat.not_lt_zero a)⟩
  | c + 1, hc => by
    obtain ⟨i, i5, ig⟩ := loN_I hK h hw e5 c (by omega)
    obtain ⟨b, v1, v2, v3, v4, v5⟩ := lq_v hK i (show c < 24 by omega) hw
    exact ⟨fwI i _ (fun x hx => ⟨(b x hx).1, (b x hx).2.1⟩), (fwS_o (by decide) (by decide) (by decide)).trans i5, fwG ig v1 v2 v3 v4 v5⟩
theorem look9 {nS nM hr : Nat} {K : Int} (hK : K ≤ 400000) {σ : St} (h : I2 nS nM hr K σ) {w : Nat} (hw : w < 4) (e5 : σ 0 5 = ι w) : ∀ (j c n : Nat), c + j = 24 → j < n → sp_X0_drift_2 n (ι c) (loN w nM c σ) = sp_X0_drift_21 200 (0 : Int32) (loN w nM 24 σ) := by
  intro j
  induction j with
  | zero =>
    intro c n h1 h2
    obtain ⟨n, rfl⟩ : ∃ q, n = q + 1 := ⟨n - 1, by omega⟩
    have ec : c = 24 := by omega
    subst ec
    rw [sp_X0_drift_2, if_pos (show (24 : Int32) ≤ ι 24 by decide)]
  | succ j ih =>
    intro c n h1 h2
    obtain ⟨n, rfl⟩ : ∃ q, n = q + 1 := ⟨n - 1, by omega⟩
    have hc : c < 24 := by omega
    have q : ¬ (24 : Int32) ≤ ι c := by rw [show (24 : Int32) = ι 24 from rfl, ι_le (by omega) (by omega)]; omega
    obtain ⟨i, i5, ig⟩ := loN_I hK h hw e5 c (by omega)
    rw [sp_X0_drift_2, if_neg q, fw_step hK i hc hw i5, b1s, ι_one]
    exact ih (c + 1) n (by omega) (by omega)
/-- what goes, for the cells from c on -/
def Gq (w c : Nat) (σ : St) : Prop := ∀ a, c ≤ a → a < 24 → 0 ≤ (σ 24 a).toInt ∧ (σ 24 a).toInt ≤ (σ 4 a).toInt ∧ 0 ≤ (σ 25 a).toInt ∧ (σ 25 a).toInt ≤ (σ 5 a).toInt ∧ ∀ d, bs a w = some d → ¬ σ 2 d = 0 → (σ 6 d).toInt + (σ 24 a).toInt + (σ 25 a).toInt ≤ (tabH (σ 2 d)).toInt
theorem drS {nS nM hr : Nat} {K : Int} (hK : K ≤ 400000) {σ : St} (h : I2 nS nM hr K σ) {w c : Nat} (hw : w < 4) (hc : c < 24) (hg : Gq w c σ) : I2 nS nM hr K (ldS σ c (σ 24 c) (σ 25 c) (bs c w)) ∧ Gq w (c + 1) (ldS σ c (σ 24 c) (σ 25 c) (bs c w)) := by
  obtain ⟨r3, r4⟩ := h
  obtain ⟨x3, x4, x5, x6, x7⟩ := hg c (Nat.le_refl c) hc
  have ht : ∀ d, bs c w = some d → d < 24 ∧ d ≠ c := fun d hd => ⟨bs_lt hc hw hd, fun e => bs_ne c hc w hw (by rw [hd, e])⟩
  refine ⟨⟨ld0 r3, ldI hK r4 hc ht x3 x4 x5 x6 x7⟩, ?_⟩
  intro a ha ha24
  have hac : a ≠ c := by omega
  obtain ⟨y3, y4, y5, y6, y7⟩ := hg a (by omega) ha24
  have ba := r4.b4 ha24
  have bc := r4.b4 hc
  have o2 : ∀ d, ldS σ c (σ 24 c) (σ 25 c) (bs c w) 2 d = σ 2 d := fun d => ldS_o (by decide) (by decide) (by decide) (by decide)
  have o24 : ldS σ c (σ 24 c) (σ 25 c) (bs c w) 24 a = σ 24 a := ldS_o (by decide) (by decide) (by decide) (by decide)
  have o25 : ldS σ c (σ 24 c) (σ 25 c) (bs c w) 25 a = σ 25 a := ldS_o (by decide) (by decide) (by decide) (by decide)
  have v4 : (σ 4 a).toInt ≤ (ldS σ c (σ 24 c) (σ 25 c) (bs c w) 4 a).toInt := by
    rcases ldS_4 (σ := σ) (F := σ 24 c) (T := σ 25 c) (to := bs c w) hac with e | e
    · rw [e]; exact Int.le_refl _
    · rw [e, t_add (by omega) (by omega)]; omega
  have v5 : (σ 5 a).toInt ≤ (ldS σ c (σ 24 c) (σ 25 c) (bs c w) 5 a).toInt := by
    rcases ldS_5 (σ := σ) (F := σ 24 c) (T := σ 25 c) (to := bs c w) hac with e | e
    · rw [e]; exact Int.le_refl _
    · rw [e, t_add (by omega) (by omega)]; omega
  rw [o24, o25]
  refine ⟨y3, by omega, y5, by omega, fun d hd hn => ?_⟩
  have hd24 := bs_lt ha24 hw hd
  have hne : bs c w ≠ some d := by
    intro e
    have q1 := (bs_op c hc w hw d hd24).mp e
    have q2 := (bs_op a ha24 w hw d hd24).mp hd
    rw [q1] at q2
    exact hac (Option.some.inj q2).symm
  rw [o2] at hn ⊢
  rw [ldS_6 hne]
  exact y7 d hd hn
theorem drN_I {nS nM hr : Nat} {K : Int} (hK : K ≤ 400000) {σ : St} (h : I2 nS nM hr K σ) {w : Nat} (hw : w < 4) (e5 : σ 0 5 = ι w) (hg : Gq w 0 σ) : ∀ c, c ≤ 24 → I2 nS nM hr K (drN w c σ) ∧ drN w c σ 0 5 = ι w ∧ Gq w c (drN w c σ)
  | 0, _ => ⟨h, e5, hg⟩
  | c + 1, hc => by
    obtain ⟨i, i5, ig⟩ := drN_I hK h hw e5 hg c (by omega)
    obtain ⟨j, jg⟩ := drS hK i hw (show c < 24 by omega) ig
    exact ⟨j, (ldS_o (by decide) (by decide) (by decide) (by decide)).trans i5, jg⟩
theorem drift9 {nS nM hr : Nat} {K : Int} (hK : K ≤ 400000) {σ : St} (h : I2 nS nM hr K σ) {w : Nat} (hw : w < 4) (e5 : σ 0 5 = ι w) (hg : Gq w 0 σ) : ∀ (j c n : Nat), c + j = 24 → j < n → sp_X0_drift_21 n (ι c) (drN w c σ) = some (drN w 24 σ) := by
  intro j
  induction j with
  | zero =>
    intro c n h1 h2
    obtain ⟨n, rfl⟩ : ∃ q, n = q + 1 := ⟨n - 1, by omega⟩
    have ec : c = 24 := by omega
    subst ec
    rw [sp_X0_drift_21, if_pos (show (24 : Int32) ≤ ι 24 by decide)]
  | succ j ih =>
    intro c n h1 h2
    obtain ⟨n, rfl⟩ : ∃ q, n = q + 1 := ⟨n - 1, by omega⟩
    have hc : c < 24 := by omega
    have q : ¬ (24 : Int32) ≤ ι c := by rw [show (24 : Int32) = ι 24 from rfl, ι_le (by omega) (by omega)]; omega
    obtain ⟨i, i5, ig⟩ := drN_I hK h hw e5 hg c (by omega)
    rw [sp_X0_drift_21, if_neg q, i5, bs9 c hc w hw, b1s, ld9 hc hw, b1s, ι_one]
    exact ih (c + 1) n (by omega) (by omega)
