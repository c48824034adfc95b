/-! sums over cells and over ways -/
def isum (f : Nat → Int32) : Nat → Int32
  | 0 => 0
  | n + 1 => isum f n + f n
theorem i32_4 (a b x y : Int32) : a + b + (x + y) = a + x + (b + y) := by
  rw [Int32.add_assoc, Int32.add_assoc, ← Int32.add_assoc b, ← Int32.add_assoc x, Int32.add_comm b x]
theorem isum_add (f g : Nat → Int32) : ∀ n, isum (fun a => f a + g a) n = isum f n + isum g n
  | 0 => rfl
  | n + 1 => by
    show isum (fun a => f a + g a) n + (f n + g n) = (isum f n + f n) + (isum g n + g n)
    rw [isum_add f g n, i32_4]
theorem isum_congr {f g : Nat → Int32} : ∀ n, (∀ a, a < n → f a = g a) → isum f n = isum g n
  | 0, _ => rfl
  | n + 1, h => by
    show isum f n + f n = isum g n + g n
    rw [isum_congr n (fun a ha => h a (by omega)), h n (by omega)]
theorem isum_zero : ∀ n, isum (fun _ => 0) n = 0
  | 0 => rfl
  | n + 1 => by
    show isum (fun _ => 0) n + 0 = 0
    rw [isum_zero n]; rfl
theorem isum_one {f : Nat → Int32} {b : Nat} : ∀ n, isum (fun a => if b = a then f a else 0) n = if b < n then f b else 0
  | 0 => by rw [if_neg (Nat.not_lt_zero b)]; rfl
  | n + 1 => by
    show isum (fun a => if b = a then f a else 0) n + (if b = n then f n else 0) = _
    rw [isum_one n]
    by_cases e : b = n
    · subst e
      rw [if_neg (Nat.lt_irrefl b), if_pos rfl, if_pos (Nat.lt_succ_self b), Int32.zero_add]
    · rw [if_neg e, Int32.add_zero]
      by_cases g : b < n
      · rw [if_pos g, if_pos (by omega)]
      · rw [if_neg g, if_neg (by omega)]
/-- the neighbour on the way v, alone -/
def nbv (f : Nat → Int32) (c v : Nat) : Int32 := match bs c v with
  | none => 0
  | some a => f a
theorem isum_nb {f : Nat → Int32} {c v : Nat} (hc : c < 24) (hv : v < 4) : isum (fun a => if bs c v = some a then f a else 0) 24 = nbv f c v := by
  unfold nbv
  cases hb : bs c v with
  | none =>
    rw [isum_congr (g := fun _ => 0) 24 (fun a _ => if_neg (fun q => by cases q)), isum_zero]
  | some b =>
    rw [isum_congr (g := fun a => if b = a then f a else 0) 24 (fun a _ => ?_), isum_one, if_pos (bs_lt hc hv hb)]
    by_cases e : b = a
    · rw [if_pos e, if_pos (by rw [e])]
    · rw [if_neg e, if_neg (fun q => e (Option.some.inj q))]
theorem bs_inj' : ∀ c, c < 24 → ∀ v, v < 4 → ∀ u, u < 4 → v ≠ u → (bs c v).all (fun a => !(bs c u == some a)) = true := by decide +kernel
theorem bs_inj {c v u a : Nat} (hc : c < 24) (hv : v < 4) (hu : u < 4) (h1 : bs c v = some a) (h2 : bs c u = some a) : v = u := by
  by_cases e : v = u
  · exact e
  · have := bs_inj' c hc v hv u hu e
    rw [h1, h2] at this
    simp at this
theorem i32_add4 (a b c d : Int32) : a + b + c + d = a + b + (c + d) := Int32.add_assoc (a + b) c d
/-- a sum over the neighbours -/
theorem nb_sum {f : Nat → Int32} {c : Nat} (hc : c < 24) (h0 : ∀ a, a < 24 → (∀ v, v < 4 → bs c v ≠ some a) → f a = 0) : isum f 24 = nbv f c 0 + nbv f c 1 + nbv f c 2 + nbv f c 3 := by
  have e : ∀ a, a < 24 → f a = (fun a => (fun a => (fun a => (if bs c 0 = some a then f a else 0) + (if bs c 1 = some a then f a else 0)) a + (if bs c 2 = some a then f a else 0)) a + (if bs c 3 = some a then f a else 0)) a := by
    intro a ha
    dsimp only
    by_cases g0 : bs c 0 = some a
    · have n1 : ¬ bs c 1 = some a := fun q => by have := bs_inj hc (by omega) (by omega) g0 q; omega
      have n2 : ¬ bs c 2 = some a := fun q => by have := bs_inj hc (by omega) (by omega) g0 q; omega
      have n3 : ¬ bs c 3 = some a := fun q => by have := bs_inj hc (by omega) (by omega) g0 q; omega
      rw [if_pos g0, if_neg n1, if_neg n2, if_neg n3, Int32.add_zero, Int32.add_zero, Int32.add_zero]
    · by_cases g1 : bs c 1 = some a
      · have n2 : ¬ bs c 2 = some a := fun q => by have := bs_inj hc (by omega) (by omega) g1 q; omega
        have n3 : ¬ bs c 3 = some a := fun q => by have := bs_inj hc (by omega) (by omega) g1 q; omega
        rw [if_neg g0, if_pos g1, if_neg n2, if_neg n3, Int32.add_zero, Int32.add_zero, Int32.zero_add]
      · by_cases g2 : bs c 2 = some a
        · have n3 : ¬ bs c 3 = some a := fun q => by have := bs_inj hc (by omega) (by omega) g2 q; omega
          rw [if_neg g0, if_neg g1, if_pos g2, if_neg n3, Int32.add_zero, Int32.zero_add, Int32.zero_add]
        · by_cases g3 : bs c 3 = some a
          · rw [if_neg g0, if_neg g1, if_neg g2, if_pos g3, Int32.zero_add, Int32.zero_add, Int32.zero_add]
          · rw [if_neg g0, if_neg g1, if_neg g2, if_neg g3, h0 a ha (fun v hv => ?_)]
            · rfl
            · rcases (show v = 0 ∨ v = 1 ∨ v = 2 ∨ v = 3 by omega) with rfl | rfl | rfl | rfl
              · exact g0
              · exact g1
              · exact g2
              · exact g3
  rw [isum_congr 24 e, isum_add, isum_add, isum_add, isum_nb hc (by omega), isum_nb hc (by omega), isum_nb hc (by omega), isum_nb hc (by omega)]
theorem lowS_m {κ : Nat → Int32} {c w e : Nat} {y : Option Nat} (h : lowS κ c w y = some e) : y = some e ∨ bs c w = some e := by
  unfold lowS at h
  cases hb : bs c w with
  | none => rw [hb] at h; exact Or.inl h
  | some d =>
    rw [hb] at h
    dsimp only at h
    by_cases g : κ d = 0
    · rw [if_pos g] at h
      cases y with
      | none => exact Or.inr h
      | some f =>
        dsimp only at h
        by_cases g2 : f ≤ d
        · rw [if_pos g2] at h; exact Or.inl h
        · rw [if_neg g2] at h; exact Or.inr h
    · rw [if_neg g] at h; exact Or.inl h
theorem low_m {κ : Nat → Int32} {c e : Nat} (h : low κ c = some e) : ∃ w, w < 4 ∧ bs c w = some e := by
  unfold low at h
  rcases lowS_m h with h | h
  · rcases lowS_m h with h | h
    · rcases lowS_m h with h | h
      · rcases lowS_m h with h | h
        · cases h
        · exact ⟨0, by omega, h⟩
      · exact ⟨1, by omega, h⟩
    · exact ⟨2, by omega, h⟩
  · exact ⟨3, by omega, h⟩
theorem gsum_is {σ : St} {d : Nat} : ∀ n, gsum σ d n = isum (fun c => if low (σ 2) c = some d then bk (σ 2 c) (σ 6 c) else 0) n
  | 0 => rfl
  | n + 1 => by
    show gsum σ d n + _ = isum _ n + _
    rw [gsum_is n]
theorem gsum_b {σ σ4 : St} {hr c : Nat} (hc : c < 24) (e2 : σ4 2 = σ 2) (ht : tdN (hr + 1) = 6) : gsum σ4 c 24 = bsum σ σ4 hr c 4 := by
  have hv : ∀ v, gv σ σ4 hr c v = nbv (fun d => if low (σ 2) d = some c then bk (σ 2 d) (σ4 6 d) else 0) c v := fun v => by
    unfold gv nbv
    rw [if_pos ht]
    cases bs c v <;> rfl
  rw [gsum_is, e2, nb_sum hc (fun a ha hn => if_neg (fun q => ?_))]
  · show _ = (((0 + gv σ σ4 hr c 0) + gv σ σ4 hr c 1) + gv σ σ4 hr c 2) + gv σ σ4 hr c 3
    rw [hv, hv, hv, hv, Int32.zero_add]
  · obtain ⟨w, hw, hb⟩ := low_m q
    exact hn (op w) (op_lt w hw) ((bs_op a ha w hw c hc).mp hb)
theorem bsum_0 {σ σ4 : St} {hr c : Nat} (ht : ¬ tdN (hr + 1) = 6) : bsum σ σ4 hr c 4 = 0 := by
  have hv : ∀ v, gv σ σ4 hr c v = 0 := fun v => by unfold gv; rw [if_neg ht]
  show (((0 + gv σ σ4 hr c 0) + gv σ σ4 hr c 1) + gv σ σ4 hr c 2) + gv σ σ4 hr c 3 = 0
  rw [hv, hv, hv, hv]; rfl
theorem loN_20 {nS nM hr : Nat} {K : Int} (hK : K ≤ 400000) {σ : St} (h : I2 nS nM hr K σ) {w : Nat} (hw : w < 4) (e5 : σ 0 5 = ι w) {m : Nat} (g : σ 15 m = 1) : ∀ c, c ≤ 24 → loN w nM c σ 20 m = σ 20 m
  | 0, _ => rfl
  | c + 1, hc => by
    obtain ⟨i, -, -⟩ := loN_I hK h hw e5 c (by omega)
    obtain ⟨b, -⟩ := lq_v hK i (show c < 24 by omega) hw
    show fwS (loN w nM c σ) c (lq w nM (loN w nM c σ) c) 20 m = _
    refine Eq.trans ?_ (loN_20 hK h hw e5 g c (by omega))
    unfold fwS
    rw [stU_k (by decide), stU_k (by decide)]
    cases hq : (lq w nM (loN w nM c σ) c).2.2 with
    | none => rfl
    | some x =>
      unfold brk
      dsimp only
      have hx := (b x hq).2.1
      rw [loN_o (by decide) (by decide) (by decide)] at hx
      refine stU_i (fun e => ?_)
      rw [Nat.zero_add] at e
      subst e
      rw [g] at hx
      cases hx
def frv (f : Nat → Int32) : Option Nat → Int32
  | none => 0
  | some a => f a
/-- the same for one hour, found for that cell alone -/
theorem anew9 {nS nM hr : Nat} {K : Int} (hK : K ≤ 400000) {σ : St} (h : I2 nS nM hr K σ) (hh : hr + 1 < 3000) {w : Nat} (hw : w < 4) (e5 : σ 0 5 = ι w) {c : Nat} (hc : c < 24) (ν : Nat → Int32) :
    ∃ ν', sp_X9_nextAnew (ι c) σ ν = some (.inl (hourF nS nM w hr σ 4 c + hourF nS nM w hr σ 5 c + hourF nS nM w hr σ 6 c, ν')) := by
  obtain ⟨j0, j1, j2, ⟨j3, g3⟩, j4, j5, j6, j7, r2, r3⟩ := stages hK h hh hw e5
  have o7 : hourF nS nM w hr σ 2 c = σ 2 c := hourF_o rfl
  have z0 : (0 : Int32).toInt = 0 := rfl
  have e24 : h4F nS nM w hr σ 2 = σ 2 := funext (fun i => (drN_o (by decide) (by decide) (by decide) (by decide) 24).trans ((loN_o (by decide) (by decide) (by decide) 24).trans (h2F_o (by decide) (by decide) (by decide) (by decide) (by decide))))
  unfold sp_X9_nextAnew
  rw [nc9 c hc, bxl, isWater9 hc, b1s]
  by_cases g : σ 2 c = 0
  · rw [if_pos g, if_neg (by decide)]
    -- the class
    obtain ⟨ν1, a1, a2, a3, a4, a5⟩ := weigh9 hK h hh hw e5 hc ν
    have fl : ∃ ν', sp_X5_floatingOf (ι c) σ ν = b1 (sp_X5_leftBySkimmers (ι c) (h2F nS hr σ 4 c - h3F nS nM w hr σ 24 c + frv (h3F nS nM w hr σ 24) (frm σ c w)) (h2F nS hr σ 5 c - h3F nS nM w hr σ 25 c + frv (h3F nS nM w hr σ 25) (frm σ c w) + bsum σ (h4F nS nM w hr σ) hr c 4) σ) (fun x => some (x, ν')) := by
      unfold sp_X5_floatingOf
      rw [a1, b1s, sls, sls, against9 hc hw e5, b1s, a2, a3, a4, a5]
      cases hf : frm σ c w with
      | none =>
        obtain ⟨ν', b⟩ := backL hK h hh hw e5 hc (h2F nS hr σ 4 c - h3F nS nM w hr σ 24 c) (h2F nS hr σ 5 c - h3F nS nM w hr σ 25 c) 4 0 200 ν1 (by omega) (by omega)
        refine ⟨ν', ?_⟩
        rw [show oI none = -1 from rfl, if_pos rfl, show ∀ f, frv f none = 0 from fun _ => rfl, show ∀ f, frv f none = 0 from fun _ => rfl, Int32.add_zero, Int32.add_zero]
        rw [show bsum σ (h4F nS nM w hr σ) hr c 0 = 0 from rfl, Int32.add_zero] at b
        exact b
      | some d =>
        have hd : d < 24 := by
          unfold frm at hf
          cases hb : bs c (op w) with
          | none => rw [hb] at hf; cases hf
          | some a =>
            rw [hb] at hf
            dsimp only at hf
            by_cases q : σ 2 a = 0
            · rw [if_pos q] at hf; cases hf; exact bs_lt hc (op_lt w hw) hb
            · rw [if_neg q] at hf; cases hf
        obtain ⟨ν2, c1, c2, c3, c4, c5⟩ := weigh9 hK h hh hw e5 hd ν1
        obtain ⟨ν', b⟩ := backL hK h hh hw e5 hc (h2F nS hr σ 4 c - h3F nS nM w hr σ 24 c + h3F nS nM w hr σ 24 d) (h2F nS hr σ 5 c - h3F nS nM w hr σ 25 c + h3F nS nM w hr σ 25 d) 4 0 200 ν2 (by omega) (by omega)
        refine ⟨ν', ?_⟩
        rw [show oI (some d) = ι d from rfl, if_neg (oI_ne hd), c1, b1s, sls, sls, c4, c5]
        rw [show bsum σ (h4F nS nM w hr σ) hr c 0 = 0 from rfl, Int32.add_zero] at b
        exact b
    obtain ⟨ν', fl⟩ := fl
    refine ⟨ν', ?_⟩
    -- the hour
    have g' : h3F nS nM w hr σ 2 c = 0 := by
      rw [show h3F nS nM w hr σ 2 c = h2F nS hr σ 2 c from loN_o (by decide) (by decide) (by decide) 24, h2F_o (by decide) (by decide) (by decide) (by decide) (by decide)]
      exact g
    obtain ⟨v4, v5, -⟩ := drN_v (σ := h3F nS nM w hr σ) hw hc 24 (Nat.le_refl _)
    rw [if_pos hc, if_pos g', inc_frm hK h hh hw e5 hc (fun a _ q1 _ => q1), show h3F nS nM w hr σ 4 c = h2F nS hr σ 4 c from loN_o (by decide) (by decide) (by decide) 24] at v4
    rw [if_pos hc, if_pos g', inc_frm hK h hh hw e5 hc (fun a _ _ q2 => q2), show h3F nS nM w hr σ 5 c = h2F nS hr σ 5 c from loN_o (by decide) (by decide) (by decide) 24] at v5
    have u4 : h5F nS nM w hr σ 4 c = h4F nS nM w hr σ 4 c := h5F_h4 (by decide) (by decide)
    have u5 : h5F nS nM w hr σ 5 c = h4F nS nM w hr σ 5 c + bsum σ (h4F nS nM w hr σ) hr c 4 := by
      by_cases t : tdN (hr + 1) = 6
      · rw [show h5F nS nM w hr σ = gbN 24 (h4F nS nM w hr σ) from if_pos t, (gbN_v 24).1 c, gsum_b hc e24 t]
      · rw [show h5F nS nM w hr σ = h4F nS nM w hr σ from if_neg t, bsum_0 t, Int32.add_zero]
    obtain ⟨k4, k5⟩ := skN_v j5 hc nM (Nat.le_refl _)
    have e7 : hourF nS nM w hr σ 4 c = h6F nS nM w hr σ 4 c ∧ hourF nS nM w hr σ 5 c = h6F nS nM w hr σ 5 c := ⟨haN_o (by decide) (by decide) 24, haN_o (by decide) (by decide) 24⟩
    have e6 : hourF nS nM w hr σ 6 c = 0 := by
      have b := j7.2.2.2.1 c hc
      rw [o7, g, show (tabH 0).toInt = 0 by decide] at b
      exact Int32.toInt_inj.mp (by rw [z0]; omega)
    have hM := h.1.2.2.1.1
    have sc : ∀ p, skp (h5F nS nM w hr σ) c p nM = skp σ c p nM := fun p => skp_congr nM (fun m hm => by
      have o : ∀ k, k ≠ 0 → k ≠ 4 → k ≠ 5 → k ≠ 6 → k ≠ 12 → k ≠ 20 → k ≠ 23 → k ≠ 24 → k ≠ 25 → h5F nS nM w hr σ k m = σ k m := fun k a0 a4 a5 a6 a12 a20 a23 a24 a25 =>
        (h5F_h4 a5 a6).trans ((drN_o a4 a5 a6 a23 24).trans ((loN_o a20 a24 a25 24).trans (h2F_o a0 a4 a5 a12 a23)))
      refine ⟨o 15 (by decide) (by decide) (by decide) (by decide) (by decide) (by decide) (by decide) (by decide) (by decide), o 16 (by decide) (by decide) (by decide) (by decide) (by decide) (by decide) (by decide) (by decide) (by decide), o 18 (by decide) (by decide) (by decide) (by decide) (by decide) (by decide) (by decide) (by decide) (by decide), o 19 (by decide) (by decide) (by decide) (by decide) (by decide) (by decide) (by decide) (by decide) (by decide), fun q => ?_⟩
      have q' : h2F nS hr σ 15 m = 1 := (h2F_o (by decide) (by decide) (by decide) (by decide) (by decide)).trans q
      exact (h5F_h4 (by decide) (by decide)).trans ((drN_o (by decide) (by decide) (by decide) (by decide) 24).trans ((loN_20 hK j2 hw r2 q' 24 (Nat.le_refl _)).trans (h2F_o (by decide) (by decide) (by decide) (by decide) (by decide)))))
    have fin : sp_X5_leftBySkimmers (ι c) (h5F nS nM w hr σ 4 c) (h5F nS nM w hr σ 5 c) σ = some (hourF nS nM w hr σ 4 c + hourF nS nM w hr σ 5 c + hourF nS nM w hr σ 6 c) := by
      have s := skimL h (c := c) (h5F nS nM w hr σ 4 c, h5F nS nM w hr σ 5 c) nM 0 200 (by omega) (by omega)
      rw [e7.1, e7.2, e6, Int32.add_zero]
      refine Eq.trans s ?_
      rw [show h6F nS nM w hr σ 4 c = _ from k4, show h6F nS nM w hr σ 5 c = _ from k5, sc]
    have s4 : h2F nS hr σ 4 c - h3F nS nM w hr σ 24 c + frv (h3F nS nM w hr σ 24) (frm σ c w) = h5F nS nM w hr σ 4 c := (u4.trans v4).symm
    have s5 : h2F nS hr σ 5 c - h3F nS nM w hr σ 25 c + frv (h3F nS nM w hr σ 25) (frm σ c w) = h4F nS nM w hr σ 5 c := Eq.symm v5
    rw [fl, s4, s5, ← u5, fin, b1s, b2s]
  · rw [if_neg g, if_pos rfl]
    have e4 : hourF nS nM w hr σ 4 c = 0 := Int32.toInt_inj.mp ((j7.2.1 c hc).2 (by rw [o7]; exact g))
    have e5' : hourF nS nM w hr σ 5 c = 0 := Int32.toInt_inj.mp ((j7.2.2.1 c hc).2 (by rw [o7]; exact g))
    have e6 : hourF nS nM w hr σ 6 c = h5F nS nM w hr σ 6 c := (haN_o (by decide) (by decide) 24).trans (skN_o (by decide) (by decide) (by decide) nM)
    rw [e4, e5', e6, show (0 : Int32) + 0 = 0 from rfl, Int32.zero_add]
    obtain ⟨ν1, a1⟩ := land9 hK h hh hw e5 hc g ν
    unfold sp_X5_strandedOf
    rw [a1, b2s, high9 h.1 (by omega), b1s]
    by_cases t : tdN (hr + 1) = 6
    · rw [if_pos t, if_neg (by decide), low9 hc, b1s, show h5F nS nM w hr σ = gbN 24 (h4F nS nM w hr σ) from if_pos t, (gbN_v 24).2 c, e24]
      cases hl : low (σ 2) c with
      | none =>
        refine ⟨ν1, ?_⟩
        rw [show oI none = -1 from rfl, if_pos rfl]
        unfold sp_X5_strandedOf_32 sp_X5_strandedOf_33
        rw [if_pos rfl, if_neg (fun q => q.2 rfl), b2s]
      | some d =>
        have hd := low_ok hc d hl
        refine ⟨ν1, ?_⟩
        rw [show oI (some d) = ι d from rfl, if_neg (oI_ne hd)]
        unfold sp_X5_strandedOf_33
        rw [if_neg (by decide), backOf9 h.1 hc, b1s, if_pos ⟨hc, fun q => by cases q⟩, b2s]
    · rw [if_neg t, if_pos rfl, show h5F nS nM w hr σ = h4F nS nM w hr σ from if_neg t]
      refine ⟨ν1, ?_⟩
      unfold sp_X5_strandedOf_32 sp_X5_strandedOf_33
      rw [if_pos rfl, b2s]
