/-! what each step leaves as it is -/
theorem noteS_o {σ : St} {l h : Int32} {k i : Nat} (hk : k ≠ 23) : noteS 23 1 23 0 l h σ k i = σ k i := by
  unfold noteS
  split
  · rw [stU_k hk]
  · split
    · rw [stU_k hk, stU_k hk]
    · rw [stU_k hk]
theorem noteS_0 {σ : St} {l h : Int32} : noteS 23 1 23 0 l h σ 23 0 = σ 23 0 + l := by
  unfold noteS
  split
  · rw [stU_same]
  · split
    · rw [stU_i (by decide), stU_same]
    · rw [stU_same]
theorem noteS_i {σ : St} {l h : Int32} {i : Nat} (h0 : i ≠ 0) (h1 : i ≠ 1) : noteS 23 1 23 0 l h σ 23 i = σ 23 i := by
  unfold noteS
  split
  · rw [stU_i h0]
  · split
    · rw [stU_i h1, stU_i h0]
    · rw [stU_i h0]
theorem lkS_o {σ : St} {s c k i : Nat} {l : Int32} (h4 : k ≠ 4) (h12 : k ≠ 12) (h23 : k ≠ 23) : lkS σ s c l k i = σ k i := by
  unfold lkS
  rw [noteS_o h23, stU_k h4, stU_k h12]
theorem wea_o {σ : St} {c k i : Nat} (h4 : k ≠ 4) (h5 : k ≠ 5) (h23 : k ≠ 23) : wea σ c k i = σ k i := by
  rw [wea_S]
  unfold weaS
  rw [stU_k h23, stU_k h23, stU_k h5, stU_k h4]
theorem skM_o {σ : St} {m k i : Nat} (h4 : k ≠ 4) (h5 : k ≠ 5) (h20 : k ≠ 20) : skM σ m k i = σ k i := by
  unfold skM skS
  split
  · rw [stU_k h20, stU_k h5, stU_k h4]
  · rfl
theorem lkN_o {t : Int32} {σ : St} {k i : Nat} (h4 : k ≠ 4) (h12 : k ≠ 12) (h23 : k ≠ 23) : ∀ s, lkN t s σ k i = σ k i
  | 0 => rfl
  | s + 1 => (lkS_o h4 h12 h23).trans (lkN_o h4 h12 h23 s)
theorem weN_o {σ : St} {k i : Nat} (h4 : k ≠ 4) (h5 : k ≠ 5) (h23 : k ≠ 23) : ∀ c, weN c σ k i = σ k i
  | 0 => rfl
  | c + 1 => (wea_o h4 h5 h23).trans (weN_o h4 h5 h23 c)
theorem loN_o {w nM : Nat} {σ : St} {k i : Nat} (h1 : k ≠ 20) (h2 : k ≠ 24) (h3 : k ≠ 25) : ∀ c, loN w nM c σ k i = σ k i
  | 0 => rfl
  | c + 1 => (fwS_o h1 h2 h3).trans (loN_o h1 h2 h3 c)
theorem drN_o {w : Nat} {σ : St} {k i : Nat} (h4 : k ≠ 4) (h5 : k ≠ 5) (h6 : k ≠ 6) (h23 : k ≠ 23) : ∀ c, drN w c σ k i = σ k i
  | 0 => rfl
  | c + 1 => (ldS_o h4 h5 h6 h23).trans (drN_o h4 h5 h6 h23 c)
theorem gbN_o {σ : St} {k i : Nat} (h5 : k ≠ 5) (h6 : k ≠ 6) : ∀ c, gbN c σ k i = σ k i
  | 0 => rfl
  | c + 1 => (gbS_o h5 h6).trans (gbN_o h5 h6 c)
theorem skN_o {σ : St} {k i : Nat} (h4 : k ≠ 4) (h5 : k ≠ 5) (h20 : k ≠ 20) : ∀ m, skN m σ k i = σ k i
  | 0 => rfl
  | m + 1 => (skM_o h4 h5 h20).trans (skN_o h4 h5 h20 m)
theorem haN_o {σ : St} {k i : Nat} (h8 : k ≠ 8) (h9 : k ≠ 9) : ∀ c, haN c σ k i = σ k i
  | 0 => rfl
  | c + 1 => (hS_o (fun q => h8 q.1) (fun q => h9 q.1)).trans (haN_o h8 h9 c)
theorem h0F_o {hr : Nat} {σ : St} {k i : Nat} (h : k ≠ 0) : h0F hr σ k i = σ k i := stU_k h
/-- the rows that no hour writes -/
def rw0 (k : Nat) : Bool := !(k == 0 || k == 4 || k == 5 || k == 6 || k == 8 || k == 9 || k == 12 || k == 20 || k == 23 || k == 24 || k == 25)
theorem rw0_ne {k : Nat} (h : rw0 k = true) : k ≠ 0 ∧ k ≠ 4 ∧ k ≠ 5 ∧ k ≠ 6 ∧ k ≠ 8 ∧ k ≠ 9 ∧ k ≠ 12 ∧ k ≠ 20 ∧ k ≠ 23 ∧ k ≠ 24 ∧ k ≠ 25 := by
  have q : ∀ j, rw0 j = false → k ≠ j := fun j hj e => by rw [e, hj] at h; cases h
  exact ⟨q 0 rfl, q 4 rfl, q 5 rfl, q 6 rfl, q 8 rfl, q 9 rfl, q 12 rfl, q 20 rfl, q 23 rfl, q 24 rfl, q 25 rfl⟩
theorem h1F_o {nS hr : Nat} {σ : St} {k i : Nat} (h : k ≠ 0) (h4 : k ≠ 4) (h12 : k ≠ 12) (h23 : k ≠ 23) : h1F nS hr σ k i = σ k i := (lkN_o h4 h12 h23 nS).trans (h0F_o h)
theorem h2F_o {nS hr : Nat} {σ : St} {k i : Nat} (h : k ≠ 0) (h4 : k ≠ 4) (h5 : k ≠ 5) (h12 : k ≠ 12) (h23 : k ≠ 23) : h2F nS hr σ k i = σ k i := (weN_o h4 h5 h23 24).trans (h1F_o h h4 h12 h23)
theorem h5F_h4 {nS nM w hr : Nat} {σ : St} {k i : Nat} (h5 : k ≠ 5) (h6 : k ≠ 6) : h5F nS nM w hr σ k i = h4F nS nM w hr σ k i := by
  unfold h5F
  split
  · exact gbN_o h5 h6 24
  · rfl
theorem hourF_o {nS nM w hr : Nat} {σ : St} {k i : Nat} (h : rw0 k = true) : hourF nS nM w hr σ k i = σ k i := by
  obtain ⟨a0, a4, a5, a6, a8, a9, a12, a20, a23, a24, a25⟩ := rw0_ne h
  rw [hourF_eq]
  refine (haN_o a8 a9 24).trans ((skN_o a4 a5 a20 nM).trans ((h5F_h4 a5 a6).trans ((drN_o a4 a5 a6 a23 24).trans ((loN_o a20 a24 a25 24).trans ?_))))
  exact h2F_o a0 a4 a5 a12 a23
theorem hrsF_o {nS nM w : Nat} {k i : Nat} (h : rw0 k = true) : ∀ (j hr : Nat) (σ : St), hrsF nS nM w j hr σ k i = σ k i
  | 0, _, _ => rfl
  | j + 1, hr, σ => (hrsF_o h j (hr + 1) _).trans (hourF_o h)
/-! birds -/
def Ob (σ : St) : Prop := ∀ c, c < 24 → 0 ≤ (σ 8 c).toInt ∧ (σ 8 c).toInt ≤ (σ 7 c).toInt ∧ (σ 7 c).toInt ≤ 1000
theorem hS_8 {σ : St} {c a : Nat} {H : Int32} : hS 6 c 7 c 8 c 9 c H σ 8 a = if a = c then σ 8 c + iMin (σ 6 c / 100) (σ 7 c - σ 8 c) else σ 8 a := by
  unfold hS
  try dsimp only
  split
  · by_cases e : a = c
    · rw [if_pos e, e, stU_same]
    · rw [if_neg e, stU_i e]
  · rw [stU_k (by decide)]
    by_cases e : a = c
    · rw [if_pos e, e, stU_same]
    · rw [if_neg e, stU_i e]
theorem haN_B {nS nM hr : Nat} {K : Int} {σ : St} (h : I2 nS nM hr K σ) (hb : Ob σ) : ∀ c, c ≤ 24 → Ob (haN c σ)
  | 0, _ => hb
  | c + 1, hc => by
    have ih := haN_B h hb c (by omega)
    have hi := haN_I h c (by omega)
    intro a ha
    show 0 ≤ (hS 6 c 7 c 8 c 9 c (tabH (haN c σ 2 c)) (haN c σ) 8 a).toInt ∧ (hS 6 c 7 c 8 c 9 c (tabH (haN c σ 2 c)) (haN c σ) 8 a).toInt ≤ (hS 6 c 7 c 8 c 9 c (tabH (haN c σ 2 c)) (haN c σ) 7 a).toInt ∧ (hS 6 c 7 c 8 c 9 c (tabH (haN c σ 2 c)) (haN c σ) 7 a).toInt ≤ 1000
    rw [hS_8, hS_o (k := 7) (by omega) (by omega)]
    obtain ⟨b1, b2, b3⟩ := ih a ha
    by_cases e : a = c
    · subst e
      rw [if_pos rfl]
      have b6 := (hi.2.2.2.1 a ha).1
      have w1 : (haN a σ 6 a / 100).toInt = (haN a σ 6 a).toInt / 100 := t_div b6 (by decide)
      have w2 : (haN a σ 7 a - haN a σ 8 a).toInt = (haN a σ 7 a).toInt - (haN a σ 8 a).toInt := t_sub (by omega) (by omega)
      have w3 : (iMin (haN a σ 6 a / 100) (haN a σ 7 a - haN a σ 8 a)).toInt = min ((haN a σ 6 a).toInt / 100) ((haN a σ 7 a).toInt - (haN a σ 8 a).toInt) := by rw [iMin_int, w1, w2]
      have w4 : (haN a σ 8 a + iMin (haN a σ 6 a / 100) (haN a σ 7 a - haN a σ 8 a)).toInt = (haN a σ 8 a).toInt + min ((haN a σ 6 a).toInt / 100) ((haN a σ 7 a).toInt - (haN a σ 8 a).toInt) := by rw [t_add (by omega) (by omega), w3]
      rw [w4]
      omega
    · rw [if_neg e]
      exact ⟨b1, b2, b3⟩
theorem hour_B {nS nM hr : Nat} {K : Int} (hK : K ≤ 400000) {σ : St} (h : I2 nS nM hr K σ) (hh : hr + 1 < 3000) {w : Nat} (hw : w < 4) (e5 : σ 0 5 = ι w) (hb : Ob σ) : Ob (hourF nS nM w hr σ) := by
  have j6 := (stages hK h hh hw e5).2.2.2.2.2.2.1
  refine haN_B j6 ?_ 24 (Nat.le_refl _)
  have o : ∀ k, k ≠ 0 → k ≠ 4 → k ≠ 5 → k ≠ 6 → k ≠ 12 → k ≠ 20 → k ≠ 23 → k ≠ 24 → k ≠ 25 → ∀ i, h6F nS nM w hr σ k i = σ k i := fun k a0 a4 a5 a6 a12 a20 a23 a24 a25 i =>
    (skN_o a4 a5 a20 nM).trans ((h5F_h4 a5 a6).trans ((drN_o a4 a5 a6 a23 24).trans ((loN_o a20 a24 a25 24).trans (h2F_o a0 a4 a5 a12 a23))))
  intro c hc
  rw [o 8 (by decide) (by decide) (by decide) (by decide) (by decide) (by decide) (by decide) (by decide) (by decide), o 7 (by decide) (by decide) (by decide) (by decide) (by decide) (by decide) (by decide) (by decide) (by decide)]
  exact hb c hc
