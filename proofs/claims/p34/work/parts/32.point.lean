/-! what an hour leaves in one cell -/
def lsum (σ : St) (c : Nat) (t : Int32) : Nat → Int32
  | 0 => 0
  | s + 1 => lsum σ c t s + (if σ 11 s = ι c then lk (σ 12 s) (σ 13 s) t else 0)
theorem lkN_12 {t : Int32} {σ : St} {s' : Nat} : ∀ s, s ≤ s' → lkN t s σ 12 s' = σ 12 s'
  | 0, _ => rfl
  | s + 1, hs => by
    show lkS (lkN t s σ) s _ _ 12 s' = _
    unfold lkS
    rw [noteS_o (by decide), stU_k (by decide), stU_i (by omega)]
    exact lkN_12 s (by omega)
theorem lkN_4 {nS nM hr : Nat} {K : Int} {σ : St} (h : I2 nS nM hr K σ) {t : Int32} {c : Nat} (hc : c < 24) : ∀ s, s ≤ nS → lkN t s σ 4 c = σ 4 c + lsum σ c t s
  | 0, _ => (Int32.add_zero _).symm
  | s + 1, hs => by
    have ih := lkN_4 h (t := t) hc s (by omega)
    obtain ⟨d, hd, h11, -⟩ := h.1.2.2.2.2.2.2.1 s (by omega)
    show lkS (lkN t s σ) s (lkN t s σ 11 s).toNatClampNeg (lk (lkN t s σ 12 s) (lkN t s σ 13 s) t) 4 c = σ 4 c + (lsum σ c t s + (if σ 11 s = ι c then lk (σ 12 s) (σ 13 s) t else 0))
    rw [lkN_o (k := 11) (by decide) (by decide) (by decide), lkN_o (k := 13) (by decide) (by decide) (by decide), lkN_12 s (Nat.le_refl s), h11, ι_nat (by omega), ← Int32.add_assoc, ← ih]
    unfold lkS
    rw [noteS_o (by decide)]
    by_cases e : c = d
    · subst e
      rw [stU_same, if_pos rfl]
      try rw [stU_k (by decide)]
    · rw [stU_i e, stU_k (by decide), if_neg (fun q => e ((ι_inj (by omega) (by omega)).mp q).symm), Int32.add_zero]
/-- behind leaks and weather -/
def fF (x2 : Int32) : Int32 := x2 - x2 / 20 - (x2 - x2 / 20) / 10
def fT (t x2 : Int32) : Int32 := t + (x2 - x2 / 20) / 10 - (t + (x2 - x2 / 20) / 10) / 50
theorem wea_4 {σ : St} {c a : Nat} : wea σ c 4 a = if a = c then fF (σ 4 c) else σ 4 a := by
  rw [wea_S]
  unfold weaS
  rw [stU_k (by decide), stU_k (by decide), stU_k (by decide)]
  by_cases e : a = c
  · rw [if_pos e, e, stU_same]; rfl
  · rw [if_neg e, stU_i e]
theorem wea_5 {σ : St} {c a : Nat} : wea σ c 5 a = if a = c then fT (σ 5 c) (σ 4 c) else σ 5 a := by
  rw [wea_S]
  unfold weaS
  rw [stU_k (by decide), stU_k (by decide)]
  by_cases e : a = c
  · rw [if_pos e, e, stU_same]; rfl
  · rw [if_neg e, stU_i e, stU_k (by decide)]
theorem weN_45 {σ : St} {a : Nat} : ∀ c, weN c σ 4 a = (if a < c then fF (σ 4 a) else σ 4 a) ∧ weN c σ 5 a = (if a < c then fT (σ 5 a) (σ 4 a) else σ 5 a)
  | 0 => ⟨by rw [if_neg (Nat.not_lt_zero a)]; rfl, by rw [if_neg (Nat.not_lt_zero a)]; rfl⟩
  | c + 1 => by
    obtain ⟨i1, i2⟩ := weN_45 (σ := σ) (a := a) c
    show wea (weN c σ) c 4 a = _ ∧ wea (weN c σ) c 5 a = _
    rw [wea_4, wea_5]
    by_cases e : a = c
    · subst e
      rw [if_neg (Nat.lt_irrefl a)] at i1 i2
      rw [if_pos rfl, if_pos rfl, if_pos (Nat.lt_succ_self a), if_pos (Nat.lt_succ_self a), i1, i2]
      exact ⟨rfl, rfl⟩
    · rw [if_neg e, if_neg e, i1, i2]
      by_cases g : a < c
      · simp only [if_pos g, if_pos (show a < c + 1 by omega)]; exact ⟨trivial, trivial⟩
      · simp only [if_neg g, if_neg (show ¬ a < c + 1 by omega)]; exact ⟨trivial, trivial⟩
theorem h2F_45 {nS nM hr : Nat} {K : Int} {σ : St} (h : I2 nS nM hr K σ) {c : Nat} (hc : c < 24) : h2F nS hr σ 4 c = fF (σ 4 c + lsum σ c (ι (tdN (hr + 1))) nS) ∧ h2F nS hr σ 5 c = fT (σ 5 c) (σ 4 c + lsum σ c (ι (tdN (hr + 1))) nS) := by
  have e1 : h1F nS hr σ 4 c = σ 4 c + lsum σ c (ι (tdN (hr + 1))) nS := by
    have hi : lkN (ι (tdN (hr + 1))) nS (h0F hr σ) 4 c = h0F hr σ 4 c + lsum (h0F hr σ) c (ι (tdN (hr + 1))) nS := by
      have q : ∀ s, s ≤ nS → lkN (ι (tdN (hr + 1))) s (h0F hr σ) 4 c = h0F hr σ 4 c + lsum (h0F hr σ) c (ι (tdN (hr + 1))) s := by
        intro s
        induction s with
        | zero => intro _; exact (Int32.add_zero _).symm
        | succ s ih =>
          intro hs
          have ih := ih (by omega)
          obtain ⟨d, hd, h11, -⟩ := h.1.2.2.2.2.2.2.1 s (by omega)
          have h11' : h0F hr σ 11 s = ι d := (h0F_o (by decide)).trans h11
          show lkS (lkN (ι (tdN (hr + 1))) s (h0F hr σ)) s (lkN (ι (tdN (hr + 1))) s (h0F hr σ) 11 s).toNatClampNeg (lk (lkN (ι (tdN (hr + 1))) s (h0F hr σ) 12 s) (lkN (ι (tdN (hr + 1))) s (h0F hr σ) 13 s) (ι (tdN (hr + 1)))) 4 c = h0F hr σ 4 c + (lsum (h0F hr σ) c (ι (tdN (hr + 1))) s + (if h0F hr σ 11 s = ι c then lk (h0F hr σ 12 s) (h0F hr σ 13 s) (ι (tdN (hr + 1))) else 0))
          rw [lkN_o (k := 11) (by decide) (by decide) (by decide), lkN_o (k := 13) (by decide) (by decide) (by decide), lkN_12 s (Nat.le_refl s), h11', ι_nat (by omega), ← Int32.add_assoc, ← ih]
          unfold lkS
          rw [noteS_o (by decide)]
          by_cases e : c = d
          · subst e
            rw [stU_same, if_pos rfl]
            try rw [stU_k (by decide)]
          · rw [stU_i e, stU_k (by decide), if_neg (fun q => e ((ι_inj (by omega) (by omega)).mp q).symm), Int32.add_zero]
      exact q nS (Nat.le_refl _)
    have el : ∀ s, lsum (h0F hr σ) c (ι (tdN (hr + 1))) s = lsum σ c (ι (tdN (hr + 1))) s := by
      intro s
      induction s with
      | zero => rfl
      | succ s ih =>
        show lsum (h0F hr σ) c _ s + (if h0F hr σ 11 s = ι c then lk (h0F hr σ 12 s) (h0F hr σ 13 s) _ else 0) = lsum σ c _ s + (if σ 11 s = ι c then lk (σ 12 s) (σ 13 s) _ else 0)
        rw [ih, h0F_o (by decide), h0F_o (by decide), h0F_o (by decide)]
    show lkN (ι (tdN (hr + 1))) nS (h0F hr σ) 4 c = _
    rw [hi, el, h0F_o (by decide)]
  have e5 : h1F nS hr σ 5 c = σ 5 c := h1F_o (by decide) (by decide) (by decide) (by decide)
  obtain ⟨a1, a2⟩ := weN_45 (σ := h1F nS hr σ) (a := c) 24
  rw [if_pos hc] at a1 a2
  rw [e1] at a1
  rw [e1, e5] at a2
  exact ⟨a1, a2⟩
/-- a boom that holds lets nothing go -/
def pk (σ : St) (y : Option Nat) (A : Int32) : Int32 := match y with
  | none => A
  | some b => if σ 18 b < σ 0 6 then A else 0
theorem dec_pk {σ : St} {F T : Int32} {y : Option Nat} (f0 : 0 ≤ F.toInt) (t0 : 0 ≤ T.toInt) (ft : F.toInt + T.toInt ≤ 1000000) : (dec σ F T y).1 = pk σ y F ∧ (dec σ F T y).2.1 = pk σ y T := by
  have a1 : (F + T).toInt = F.toInt + T.toInt := t_add (by omega) (by omega)
  have z0 : (0 : Int32).toInt = 0 := rfl
  unfold dec pk
  by_cases q : F + T ≤ 0
  · rw [if_pos q]
    rw [Int32.le_iff_toInt_le, a1, z0] at q
    have eF : F = 0 := Int32.toInt_inj.mp (by rw [z0]; omega)
    have eT : T = 0 := Int32.toInt_inj.mp (by rw [z0]; omega)
    subst eF; subst eT
    cases y with
    | none => exact ⟨rfl, rfl⟩
    | some b =>
      dsimp only
      by_cases p : σ 18 b < σ 0 6
      · rw [if_pos p]; exact ⟨rfl, rfl⟩
      · rw [if_neg p]; exact ⟨rfl, rfl⟩
  · rw [if_neg q]
    cases y with
    | none => exact ⟨rfl, rfl⟩
    | some b =>
      dsimp only
      by_cases p : σ 18 b < σ 0 6
      · simp only [if_pos p]; exact ⟨trivial, trivial⟩
      · simp only [if_neg p]; exact ⟨trivial, trivial⟩
def gF (w nM : Nat) (σ : St) (c : Nat) : Int32 := pk σ (bmN σ c w nM 0) (gof σ (bs c w) (bl (σ 4 c) (σ 0 6)))
def gT (w nM : Nat) (σ : St) (c : Nat) : Int32 := pk σ (bmN σ c w nM 0) (got σ (bs c w) (bl (σ 4 c) (σ 0 6)) (bl (σ 5 c) (σ 0 6)))
theorem lq_g {nS nM hr : Nat} {K : Int} (hK : K ≤ 400000) {σ : St} (h : I2 nS nM hr K σ) {c w : Nat} (hc : c < 24) (hw : w < 4) : (lq w nM σ c).1 = gF w nM σ c ∧ (lq w nM σ c).2.1 = gT w nM σ c := by
  obtain ⟨f0, f1, t0, t1, -⟩ := go_v hK h.1 h.2 hc hw
  have b4 := h.2.b4 hc
  exact dec_pk f0 t0 (by omega)
theorem loN_bm {nS nM hr : Nat} {K : Int} (hK : K ≤ 400000) {σ : St} (h : I2 nS nM hr K σ) {w : Nat} (hw : w < 4) (e5 : σ 0 5 = ι w) {c : Nat} (hc : c < 24) : ∀ a, a ≤ c → bmN (loN w nM a σ) c w nM 0 = bmN σ c w nM 0
  | 0, _ => rfl
  | a + 1, ha => by
    have ih := loN_bm hK h hw e5 hc a (by omega)
    obtain ⟨i, -, -⟩ := loN_I hK h hw e5 a (by omega)
    obtain ⟨b, -⟩ := lq_v hK i (show a < 24 by omega) hw
    show bmN (fwS (loN w nM a σ) a (lq w nM (loN w nM a σ) a)) c w nM 0 = _
    rw [← ih]
    have e1 : ∀ ξ : St, ∀ q : Int32 × Int32 × Option Nat, bmN (fwS ξ a q) c w nM 0 = bmN (brk 20 0 ξ q.2.2) c w nM 0 := fun ξ q => bmN_congr (fun k _ _ => by
      unfold bmt fwS
      rw [stU_k (by decide), stU_k (by decide), stU_k (by decide), stU_k (by decide), stU_k (by decide), stU_k (by decide), stU_k (by decide), stU_k (by decide)])
    rw [e1]
    cases hq : (lq w nM (loN w nM a σ) a).2.2 with
    | none => rfl
    | some x =>
      unfold brk
      dsimp only
      exact bm_stab (a := a) (by omega) hc hw (by omega) (by rw [Nat.zero_add]; exact (b x hq).2) 1
theorem loN_g {nS nM hr : Nat} {K : Int} (hK : K ≤ 400000) {σ : St} (h : I2 nS nM hr K σ) {w : Nat} (hw : w < 4) (e5 : σ 0 5 = ι w) : ∀ n, n ≤ 24 → ∀ c, c < n → loN w nM n σ 24 c = gF w nM σ c ∧ loN w nM n σ 25 c = gT w nM σ c
  | 0, _, c, hc => absurd hc (Nat.not_lt_zero c)
  | n + 1, hn, c, hc => by
    show fwS (loN w nM n σ) n (lq w nM (loN w nM n σ) n) 24 c = _ ∧ fwS (loN w nM n σ) n (lq w nM (loN w nM n σ) n) 25 c = _
    by_cases e : c = n
    · subst e
      obtain ⟨i, -, -⟩ := loN_I hK h hw e5 c (by omega)
      have c24 : c < 24 := by omega
      obtain ⟨q1, q2⟩ := lq_g hK i c24 hw
      have o : ∀ k i, k ≠ 20 → k ≠ 24 → k ≠ 25 → loN w nM c σ k i = σ k i := fun k i a1 a2 a3 => loN_o a1 a2 a3 c
      have hd : ∀ d, bs c w = some d → loN w nM c σ 2 d = σ 2 d ∧ loN w nM c σ 6 d = σ 6 d := fun d _ => ⟨o 2 d (by decide) (by decide) (by decide), o 6 d (by decide) (by decide) (by decide)⟩
      have hb := loN_bm hK h hw e5 c24 c (Nat.le_refl c)
      have ep : ∀ y A, pk (loN w nM c σ) y A = pk σ y A := fun y A => by
        unfold pk
        cases y with
        | none => rfl
        | some b => dsimp only; rw [o 18 b (by decide) (by decide) (by decide), o 0 6 (by decide) (by decide) (by decide)]
      have g1 : gF w nM (loN w nM c σ) c = gF w nM σ c := by
        unfold gF
        rw [hb, ep, gof_A hd, o 4 c (by decide) (by decide) (by decide), o 0 6 (by decide) (by decide) (by decide)]
      have g2 : gT w nM (loN w nM c σ) c = gT w nM σ c := by
        unfold gT
        rw [hb, ep, got_A hd, o 4 c (by decide) (by decide) (by decide), o 5 c (by decide) (by decide) (by decide), o 0 6 (by decide) (by decide) (by decide)]
      constructor
      · unfold fwS; rw [stU_k (by decide), stU_same, q1, g1]
      · unfold fwS; rw [stU_same, q2, g2]
    · obtain ⟨i1, i2⟩ := loN_g hK h hw e5 n (by omega) c (by omega)
      constructor
      · unfold fwS; rw [stU_k (by decide), stU_i e, brk_o (by decide)]; exact i1
      · unfold fwS; rw [stU_i e, stU_k (by decide), brk_o (by decide)]; exact i2
/-- what comes to c out of the cells below n -/
def inc (w n : Nat) (σ : St) (c : Nat) (f : Nat → Int32) : Int32 := match bs c (op w) with
  | none => 0
  | some a => if a < n then f a else 0
theorem inc_0 {w : Nat} {σ : St} {c : Nat} {f : Nat → Int32} : inc w 0 σ c f = 0 := by
  unfold inc
  cases bs c (op w) with
  | none => rfl
  | some a => exact if_neg (Nat.not_lt_zero a)
theorem inc_s {w n : Nat} {σ : St} {c : Nat} {f : Nat → Int32} (hc : c < 24) (hn : n < 24) (hw : w < 4) : inc w (n + 1) σ c f = inc w n σ c f + (if bs n w = some c then f n else 0) := by
  unfold inc
  cases hb : bs c (op w) with
  | none =>
    rw [if_neg (fun q => by have := (bs_op n hn w hw c hc).mp q; rw [hb] at this; cases this)]
    rfl
  | some a =>
    dsimp only
    by_cases e : a = n
    · subst e
      rw [if_pos (Nat.lt_succ_self a), if_neg (Nat.lt_irrefl a), if_pos ((bs_op a hn w hw c hc).mpr hb), Int32.zero_add]
    · have nb : ¬ bs n w = some c := fun q => e (by have := (bs_op n hn w hw c hc).mp q; rw [hb] at this; exact Option.some.inj this)
      rw [if_neg nb, Int32.add_zero]
      by_cases g : a < n
      · rw [if_pos g, if_pos (by omega)]
      · rw [if_neg g, if_neg (by omega)]
theorem i32_sa (x y z : Int32) : x + y - z = x - z + y := by
  rw [Int32.sub_eq_add_neg, Int32.sub_eq_add_neg, Int32.add_assoc, Int32.add_comm y, ← Int32.add_assoc]
theorem ldS_4v {σ : St} {n c : Nat} {F T : Int32} {to : Option Nat} (ht : to ≠ some n) : ldS σ n F T to 4 c = (if c = n then σ 4 c - F else σ 4 c) + (if to = some c ∧ σ 2 c = 0 then F else 0) := by
  unfold ldS
  cases to with
  | none =>
    dsimp only
    have nb : ¬ ((none : Option Nat) = some c ∧ σ 2 c = 0) := fun q => by cases q.1
    rw [stU_k (by decide), stU_k (by decide), if_neg nb, Int32.add_zero]
    by_cases e : c = n
    · rw [if_pos e, e, stU_same]
    · rw [if_neg e, stU_i e]
  | some d =>
    have hdn : d ≠ n := fun e => ht (by rw [e])
    dsimp only
    by_cases g : σ 2 d = 0
    · rw [if_pos g, stU_k (by decide)]
      by_cases e : c = d
      · subst e
        rw [stU_same, if_neg hdn, if_pos ⟨rfl, g⟩]
      · have nb : ¬ (some d = some c ∧ σ 2 c = 0) := fun q => e (Option.some.inj q.1).symm
        rw [stU_i e, stU_k (by decide), if_neg nb, Int32.add_zero]
        by_cases e2 : c = n
        · rw [if_pos e2, e2, stU_same]
        · rw [if_neg e2, stU_i e2]
    · have nb : ¬ (some d = some c ∧ σ 2 c = 0) := fun q => g (by have := Option.some.inj q.1; rw [this]; exact q.2)
      rw [if_neg g, stU_k (by decide), stU_k (by decide), if_neg nb, Int32.add_zero]
      by_cases e2 : c = n
      · rw [if_pos e2, e2, stU_same]
      · rw [if_neg e2, stU_i e2]
theorem ldS_5v {σ : St} {n c : Nat} {F T : Int32} {to : Option Nat} (ht : to ≠ some n) : ldS σ n F T to 5 c = (if c = n then σ 5 c - T else σ 5 c) + (if to = some c ∧ σ 2 c = 0 then T else 0) := by
  unfold ldS
  cases to with
  | none =>
    dsimp only
    have nb : ¬ ((none : Option Nat) = some c ∧ σ 2 c = 0) := fun q => by cases q.1
    rw [stU_k (by decide), if_neg nb, Int32.add_zero]
    by_cases e : c = n
    · rw [if_pos e, e, stU_same]
    · rw [if_neg e, stU_i e, stU_k (by decide)]
  | some d =>
    have hdn : d ≠ n := fun e => ht (by rw [e])
    dsimp only
    by_cases g : σ 2 d = 0
    · rw [if_pos g]
      by_cases e : c = d
      · subst e
        rw [stU_same, if_neg hdn, if_pos ⟨rfl, g⟩]
      · have nb : ¬ (some d = some c ∧ σ 2 c = 0) := fun q => e (Option.some.inj q.1).symm
        rw [stU_i e, stU_k (by decide), if_neg nb, Int32.add_zero]
        by_cases e2 : c = n
        · rw [if_pos e2, e2, stU_same]
        · rw [if_neg e2, stU_i e2, stU_k (by decide)]
    · have nb : ¬ (some d = some c ∧ σ 2 c = 0) := fun q => g (by have := Option.some.inj q.1; rw [this]; exact q.2)
      rw [if_neg g, stU_k (by decide), if_neg nb, Int32.add_zero]
      by_cases e2 : c = n
      · rw [if_pos e2, e2, stU_same]
      · rw [if_neg e2, stU_i e2, stU_k (by decide)]
theorem ldS_6v {σ : St} {n c : Nat} {F T : Int32} {to : Option Nat} : ldS σ n F T to 6 c = σ 6 c + (if to = some c ∧ ¬ σ 2 c = 0 then F + T else 0) := by
  unfold ldS
  cases to with
  | none =>
    dsimp only
    rw [stU_k (by decide), stU_k (by decide), stU_k (by decide), if_neg (fun q => by cases q.1), Int32.add_zero]
  | some d =>
    dsimp only
    by_cases g : σ 2 d = 0
    · rw [if_pos g, stU_k (by decide), stU_k (by decide), stU_k (by decide), stU_k (by decide), if_neg (fun q => q.2 (by have := Option.some.inj q.1; rw [← this]; exact g)), Int32.add_zero]
    · rw [if_neg g]
      by_cases e : c = d
      · subst e
        rw [stU_same, if_pos ⟨rfl, g⟩]
      · rw [stU_i e, stU_k (by decide), stU_k (by decide), if_neg (fun q => e (Option.some.inj q.1).symm), Int32.add_zero]
theorem drN_v {w : Nat} {σ : St} (hw : w < 4) {c : Nat} (hc : c < 24) : ∀ n, n ≤ 24 →
    drN w n σ 4 c = (if c < n then σ 4 c - σ 24 c else σ 4 c) + (if σ 2 c = 0 then inc w n σ c (σ 24) else 0) ∧
    drN w n σ 5 c = (if c < n then σ 5 c - σ 25 c else σ 5 c) + (if σ 2 c = 0 then inc w n σ c (σ 25) else 0) ∧
    drN w n σ 6 c = σ 6 c + (if σ 2 c = 0 then 0 else inc w n σ c (fun a => σ 24 a + σ 25 a))
  | 0, _ => by
    rw [inc_0, inc_0, inc_0]
    have e : (if σ 2 c = 0 then (0 : Int32) else 0) = 0 := by split <;> rfl
    rw [e, Int32.add_zero, Int32.add_zero, Int32.add_zero]
    exact ⟨rfl, rfl, rfl⟩
  | n + 1, hn => by
    obtain ⟨i4, i5, i6⟩ := drN_v hw hc n (by omega)
    have n24 : n < 24 := by omega
    have ht : bs n w ≠ some n := bs_ne n n24 w hw
    show ldS (drN w n σ) n (drN w n σ 24 n) (drN w n σ 25 n) (bs n w) 4 c = _ ∧ ldS (drN w n σ) n (drN w n σ 24 n) (drN w n σ 25 n) (bs n w) 5 c = _ ∧ ldS (drN w n σ) n (drN w n σ 24 n) (drN w n σ 25 n) (bs n w) 6 c = _
    rw [ldS_4v ht, ldS_5v ht, ldS_6v, drN_o (k := 24) (by decide) (by decide) (by decide) (by decide), drN_o (k := 25) (by decide) (by decide) (by decide) (by decide), drN_o (k := 2) (by decide) (by decide) (by decide) (by decide), i4, i5, i6, inc_s hc n24 hw, inc_s hc n24 hw, inc_s hc n24 hw]
    refine ⟨?_, ?_, ?_⟩
    · by_cases e : c = n
      · subst e
        have n1 : ¬ (bs c w = some c ∧ σ 2 c = 0) := fun q => ht q.1
        rw [if_pos rfl, if_neg (Nat.lt_irrefl c), if_pos (Nat.lt_succ_self c), if_neg n1, if_neg ht, Int32.add_zero, Int32.add_zero, i32_sa]
      · rw [if_neg e]
        have x : (if c < n + 1 then σ 4 c - σ 24 c else σ 4 c) = (if c < n then σ 4 c - σ 24 c else σ 4 c) := by
          by_cases g : c < n
          · rw [if_pos g, if_pos (by omega)]
          · rw [if_neg g, if_neg (by omega)]
        rw [x]
        by_cases g : σ 2 c = 0
        · rw [if_pos g, if_pos g, Int32.add_assoc]
          by_cases b : bs n w = some c
          · have n1 : bs n w = some c ∧ σ 2 c = 0 := ⟨b, g⟩
            rw [if_pos n1, if_pos b]
          · have n1 : ¬ (bs n w = some c ∧ σ 2 c = 0) := fun q => b q.1
            rw [if_neg n1, if_neg b]
        · have n1 : ¬ (bs n w = some c ∧ σ 2 c = 0) := fun q => g q.2
          rw [if_neg g, if_neg g, if_neg n1, Int32.add_zero]
    · by_cases e : c = n
      · subst e
        have n1 : ¬ (bs c w = some c ∧ σ 2 c = 0) := fun q => ht q.1
        rw [if_pos rfl, if_neg (Nat.lt_irrefl c), if_pos (Nat.lt_succ_self c), if_neg n1, if_neg ht, Int32.add_zero, Int32.add_zero, i32_sa]
      · rw [if_neg e]
        have x : (if c < n + 1 then σ 5 c - σ 25 c else σ 5 c) = (if c < n then σ 5 c - σ 25 c else σ 5 c) := by
          by_cases g : c < n
          · rw [if_pos g, if_pos (by omega)]
          · rw [if_neg g, if_neg (by omega)]
        rw [x]
        by_cases g : σ 2 c = 0
        · rw [if_pos g, if_pos g, Int32.add_assoc]
          by_cases b : bs n w = some c
          · have n1 : bs n w = some c ∧ σ 2 c = 0 := ⟨b, g⟩
            rw [if_pos n1, if_pos b]
          · have n1 : ¬ (bs n w = some c ∧ σ 2 c = 0) := fun q => b q.1
            rw [if_neg n1, if_neg b]
        · have n1 : ¬ (bs n w = some c ∧ σ 2 c = 0) := fun q => g q.2
          rw [if_neg g, if_neg g, if_neg n1, Int32.add_zero]
    · by_cases g : σ 2 c = 0
      · have n1 : ¬ (bs n w = some c ∧ ¬ σ 2 c = 0) := fun q => q.2 g
        rw [if_pos g, if_pos g, if_neg n1, Int32.add_zero]
      · rw [if_neg g, if_neg g, Int32.add_assoc]
        by_cases b : bs n w = some c
        · have n1 : bs n w = some c ∧ ¬ σ 2 c = 0 := ⟨b, g⟩
          rw [if_pos n1, if_pos b]
        · have n1 : ¬ (bs n w = some c ∧ ¬ σ 2 c = 0) := fun q => b q.1
          rw [if_neg n1, if_neg b]
def gsum (σ : St) (d : Nat) : Nat → Int32
  | 0 => 0
  | c + 1 => gsum σ d c + (if low (σ 2) c = some d then bk (σ 2 c) (σ 6 c) else 0)
theorem gbS_5 {σ : St} {c d : Nat} : gbS σ c 5 d = σ 5 d + (if low (σ 2) c = some d then bk (σ 2 c) (σ 6 c) else 0) := by
  unfold gbS
  cases hl : low (σ 2) c with
  | none => rw [if_neg (fun q => by cases q), Int32.add_zero]
  | some e =>
    dsimp only
    by_cases g : d = e
    · subst g; rw [stU_same, if_pos rfl]
    · rw [stU_i g, stU_k (by decide), if_neg (fun q => g (Option.some.inj q).symm), Int32.add_zero]
theorem gbS_6 {σ : St} {c a : Nat} : gbS σ c 6 a = if a = c ∧ ¬ low (σ 2) c = none then σ 6 c - bk (σ 2 c) (σ 6 c) else σ 6 a := by
  unfold gbS
  cases hl : low (σ 2) c with
  | none => rw [if_neg (fun q => q.2 rfl)]
  | some e =>
    dsimp only
    rw [stU_k (by decide)]
    by_cases g : a = c
    · rw [if_pos ⟨g, fun q => by cases q⟩, g, stU_same]
    · rw [if_neg (fun q => g q.1), stU_i g]
theorem gbN_v {σ : St} : ∀ n, (∀ d, gbN n σ 5 d = σ 5 d + gsum σ d n) ∧ ∀ a, gbN n σ 6 a = if a < n ∧ ¬ low (σ 2) a = none then σ 6 a - bk (σ 2 a) (σ 6 a) else σ 6 a
  | 0 => ⟨fun d => (Int32.add_zero _).symm, fun a => by rw [if_neg (fun q => absurd q.1 (Nat.not_lt_zero a))]; rfl⟩
  | n + 1 => by
    obtain ⟨i5, i6⟩ := gbN_v (σ := σ) n
    have e2 : gbN n σ 2 = σ 2 := funext (fun i => gbN_o (by decide) (by decide) n)
    have e6 : gbN n σ 6 n = σ 6 n := by rw [i6, if_neg (fun q => absurd q.1 (Nat.lt_irrefl n))]
    refine ⟨fun d => ?_, fun a => ?_⟩
    · show gbS (gbN n σ) n 5 d = _
      rw [gbS_5, e2, e6, i5]
      show _ = σ 5 d + (gsum σ d n + _)
      rw [Int32.add_assoc]
    · show gbS (gbN n σ) n 6 a = _
      rw [gbS_6, e2, e6]
      by_cases g : a = n
      · subst g
        by_cases b : low (σ 2) a = none
        · rw [if_neg (fun q => q.2 b), if_neg (fun q => q.2 b), e6]
        · rw [if_pos ⟨rfl, b⟩, if_pos ⟨Nat.lt_succ_self a, b⟩]
      · rw [if_neg (fun q => g q.1), i6]
        by_cases b : a < n ∧ ¬ low (σ 2) a = none
        · rw [if_pos b, if_pos ⟨by omega, b.2⟩]
        · rw [if_neg b, if_neg (fun q => b ⟨by omega, q.2⟩)]
/-- what skimmers leave of a pair -/
def skp (σ : St) (c : Nat) (p : Int32 × Int32) : Nat → Int32 × Int32
  | 0 => p
  | m + 1 => if σ 15 m = 1 ∧ σ 16 m = ι c then ((skp σ c p m).1 - sf (σ 18 m) (skp σ c p m).1 (σ 19 m - σ 20 m), (skp σ c p m).2 - sth (σ 18 m) (sf (σ 18 m) (skp σ c p m).1 (σ 19 m - σ 20 m)) (skp σ c p m).2 (σ 19 m - σ 20 m)) else skp σ c p m
theorem skN_20 {σ : St} {m' : Nat} : ∀ m, m ≤ m' → skN m σ 20 m' = σ 20 m'
  | 0, _ => rfl
  | m + 1, hm => by
    show skM (skN m σ) m 20 m' = _
    unfold skM skS
    split
    · rw [stU_i (by omega)]
      rw [stU_k (by decide), stU_k (by decide)]
      exact skN_20 m (by omega)
    · exact skN_20 m (by omega)
theorem skN_v {nS nM hr : Nat} {K : Int} {σ : St} (h : I2 nS nM hr K σ) {c : Nat} (hc : c < 24) : ∀ m, m ≤ nM → skN m σ 4 c = (skp σ c (σ 4 c, σ 5 c) m).1 ∧ skN m σ 5 c = (skp σ c (σ 4 c, σ 5 c) m).2
  | 0, _ => ⟨rfl, rfl⟩
  | m + 1, hm => by
    obtain ⟨i4, i5⟩ := skN_v h hc m (by omega)
    have o : ∀ k, k ≠ 4 → k ≠ 5 → k ≠ 20 → skN m σ k m = σ k m := fun k a b d => skN_o a b d m
    have e20 := skN_20 (σ := σ) (m' := m) m (Nat.le_refl m)
    show skM (skN m σ) m 4 c = (skp σ c (σ 4 c, σ 5 c) (m + 1)).1 ∧ skM (skN m σ) m 5 c = (skp σ c (σ 4 c, σ 5 c) (m + 1)).2
    unfold skM
    rw [o 15 (by decide) (by decide) (by decide), o 16 (by decide) (by decide) (by decide)]
    show _ = (if σ 15 m = 1 ∧ σ 16 m = ι c then ((skp σ c (σ 4 c, σ 5 c) m).1 - sf (σ 18 m) (skp σ c (σ 4 c, σ 5 c) m).1 (σ 19 m - σ 20 m), (skp σ c (σ 4 c, σ 5 c) m).2 - sth (σ 18 m) (sf (σ 18 m) (skp σ c (σ 4 c, σ 5 c) m).1 (σ 19 m - σ 20 m)) (skp σ c (σ 4 c, σ 5 c) m).2 (σ 19 m - σ 20 m)) else skp σ c (σ 4 c, σ 5 c) m).1 ∧ _ = (if σ 15 m = 1 ∧ σ 16 m = ι c then ((skp σ c (σ 4 c, σ 5 c) m).1 - sf (σ 18 m) (skp σ c (σ 4 c, σ 5 c) m).1 (σ 19 m - σ 20 m), (skp σ c (σ 4 c, σ 5 c) m).2 - sth (σ 18 m) (sf (σ 18 m) (skp σ c (σ 4 c, σ 5 c) m).1 (σ 19 m - σ 20 m)) (skp σ c (σ 4 c, σ 5 c) m).2 (σ 19 m - σ 20 m)) else skp σ c (σ 4 c, σ 5 c) m).2
    by_cases g : σ 15 m = 1
    · obtain ⟨d, hd, h16⟩ := (h.1.2.2.2.2.2.2.2.2 m (by omega) g).1
      rw [if_pos g, h16, ι_nat (by omega)]
      by_cases e : d = c
      · subst e
        rw [if_pos ⟨g, rfl⟩]
        unfold skS skT skF
        rw [stU_k (by decide), stU_k (by decide), stU_same, stU_k (by decide), stU_same, o 18 (by decide) (by decide) (by decide), o 19 (by decide) (by decide) (by decide), e20, i4, i5]
        exact ⟨rfl, rfl⟩
      · rw [if_neg (fun q => e ((ι_inj (by omega) (by omega)).mp q.2))]
        unfold skS
        rw [stU_k (by decide), stU_k (by decide), stU_i (Ne.symm e), stU_k (by decide), stU_i (Ne.symm e), stU_k (by decide)]
        exact ⟨i4, i5⟩
    · rw [if_neg g, if_neg (fun q => g q.1)]
      exact ⟨i4, i5⟩
