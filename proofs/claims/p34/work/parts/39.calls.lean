/-! what the calls of the acts answer -/
theorem bc2l {α β κ : Type} (a : α) (b : β) (f : α → β → Option κ) (g : Nat → Option κ) : bc2 (some (.inl (a, b))) f g = f a b := rfl
theorem bc2r {α β κ : Type} (k : Nat) (f : α → β → Option κ) (g : Nat → Option κ) : bc2 (some (.inr k)) f g = g k := rfl
theorem bc3l {α β δ κ : Type} (a : α) (b : β) (c : δ) (f : α → β → δ → Option κ) (g : Nat → Option κ) : bc3 (some (.inl (a, b, c))) f g = f a b c := rfl
theorem bc3r {α β δ κ : Type} (k : Nat) (f : α → β → δ → Option κ) (g : Nat → Option κ) : bc3 (some (.inr k)) f g = g k := rfl
theorem bc1l {α κ : Type} (a : α) (f : α → Option κ) (g : Nat → Option κ) : bc1 (some (.inl a)) f g = f a := rfl
theorem bc1r {α κ : Type} (k : Nat) (f : α → Option κ) (g : Nat → Option κ) : bc1 (some (.inr k)) f g = g k := rfl
theorem wat9 {σ : St} {c : Nat} (hc : c < 24) (g : σ 2 c = 0) : sp_X9_needWater (ι c) σ = some (.inl ()) := by
  unfold sp_X9_needWater
  rw [isWater9 hc, b1s, if_pos g, if_neg (by decide)]
theorem wat9n {σ : St} {c : Nat} (hc : c < 24) (g : ¬ σ 2 c = 0) : sp_X9_needWater (ι c) σ = some (.inr 3) := by
  unfold sp_X9_needWater
  rw [isWater9 hc, b1s, if_neg g, if_pos rfl]
/-- what a ship's call does -/
def shS (σ : St) (nS c : Nat) (l : Int32) : St := stU (stU (stU σ 11 nS (ι c)) 12 nS l) 10 0 (ι (nS + 1))
theorem ship9 {nS nM hr : Nat} {σ : St} (h : I2 nS nM hr 400000 σ) {c : Nat} (hc : c < 24) (g : σ 2 c = 0) (hn : nS < 4) {l : Int32} (l0 : 0 ≤ l.toInt) (l1 : l.toInt ≤ 100000) : sp_X9_ship (ι c) l σ = some (.inl (ι nS, shS σ nS c l)) := by
  have e10 := h.1.2.1.2
  unfold sp_X9_ship sp_X8_add
  rw [nc9 c hc, bxl, nrY (show (0 : Int32).toInt ≤ _ from l0) (show _ ≤ (100000 : Int32).toInt from l1), bxl, wat9 hc g, bxl, e10, if_pos (by rw [show (4 : Int32) = ι 4 from rfl, ι_lt (by omega) (by omega)]; exact hn), sls, ix hn (by omega), ι_nat (by omega), sls, ix2 hn (by omega), sls, sls, stU_k (by decide), stU_k (by decide), e10, ι_one, b2s]
  rfl
theorem ship9n {nS nM hr : Nat} {σ : St} (h : I2 nS nM hr 400000 σ) {c : Nat} (hc : c < 24) (g : ¬ (σ 2 c = 0 ∧ nS < 4)) {l : Int32} (l0 : 0 ≤ l.toInt) (l1 : l.toInt ≤ 100000) : sp_X9_ship (ι c) l σ = some (.inr 3) := by
  have e10 := h.1.2.1.2
  have hS := h.1.2.1.1
  unfold sp_X9_ship
  rw [nc9 c hc, bxl, nrY (show (0 : Int32).toInt ≤ _ from l0) (show _ ≤ (100000 : Int32).toInt from l1), bxl]
  by_cases q : σ 2 c = 0
  · rw [wat9 hc q, bxl, e10, if_neg (by rw [show (4 : Int32) = ι 4 from rfl, ι_lt (by omega) (by omega)]; exact fun z => g ⟨q, z⟩)]
  · rw [wat9n hc q, bxr]
theorem tryShip {nS nM hr : Nat} {σ : St} (h : I2 nS nM hr 400000 σ) {c : Nat} (hc : c < 24) {x : Int32} (x0 : 0 ≤ x.toInt) (y : Int32) : ((σ 2 c = 0 ∧ nS < 4) → sp_L_tryLay 2 (ι c) x y σ = some (ι nS, shS σ nS c (x - x / 9000 * 9000))) ∧ (¬ (σ 2 c = 0 ∧ nS < 4) → sp_L_tryLay 2 (ι c) x y σ = some (-200, σ)) := by
  obtain ⟨l0, l1⟩ := remV x0 (n := 9000) (by decide)
  have l2 : (x - x / 9000 * 9000).toInt ≤ 100000 := by have : (9000 : Int32).toInt = 9000 := rfl; omega
  constructor
  · intro g
    unfold sp_L_tryLay
    rw [if_neg (by decide), if_neg (by decide), ship9 h hc g.1 g.2 l0 l2, bc2l]
  · intro g
    unfold sp_L_tryLay
    rw [if_neg (by decide), if_neg (by decide), ship9n h hc g l0 l2, bc2r, if_neg (by decide), if_neg (by decide), if_pos rfl]
theorem hole9 {nS nM hr : Nat} {σ : St} (h : I2 nS nM hr 400000 σ) {s y : Nat} (hs : s < nS) (hy : y < 100) : ∃ v, sp_X9_hole (ι s) (ι y) σ = some (.inl (v, stU σ 13 s (ι y))) := by
  have e10 := h.1.2.1.2
  have hS := h.1.2.1.1
  refine ⟨σ 13 s, ?_⟩
  unfold sp_X9_hole
  rw [e10, nnY hs (by omega), bxl, nrY (show (0 : Int32).toInt ≤ _ by rw [ι_toInt (by omega)]; show (0 : Int) ≤ _; omega) (show _ ≤ (99 : Int32).toInt by rw [ι_toInt (by omega)]; show _ ≤ (99 : Int); omega), bxl, ix (show s < 4 by omega) (by omega), ι_nat (by omega), sls, ix2 (show s < 4 by omega) (by omega), sls]
theorem room9Y {nS nM hr : Nat} {σ : St} (h : I2 nS nM hr 400000 σ) (hn : nM < 20) : sp_X9_needRoomForMeans σ = some (.inl ()) := by
  unfold sp_X9_needRoomForMeans
  rw [h.1.2.2.1.2, if_pos (by rw [show (20 : Int32) = ι 20 from rfl, ι_lt (by omega) (by omega)]; exact hn)]
theorem room9N {nS nM hr : Nat} {σ : St} (h : I2 nS nM hr 400000 σ) (hn : ¬ nM < 20) : sp_X9_needRoomForMeans σ = some (.inr 3) := by
  have hM := h.1.2.2.1.1
  unfold sp_X9_needRoomForMeans
  rw [h.1.2.2.1.2, if_neg (by rw [show (20 : Int32) = ι 20 from rfl, ι_lt (by omega) (by omega)]; exact hn)]
theorem add9 {nS nM hr : Nat} {σ : St} (h : I2 nS nM hr 400000 σ) (hn : nM < 20) (so ce po : Int32) : sp_X4_add so ce po σ = some (ι nM, clA σ nM so ce po) := by
  have e14 := h.1.2.2.1.2
  unfold sp_X4_add clA
  rw [e14, sls, ix hn (by omega), ι_nat (by omega), sls, ix2 hn (by omega), sls, ix2 hn (by omega), sls, ix2 hn (by omega), sls, sls, stU_k (by decide), stU_k (by decide), stU_k (by decide), stU_k (by decide), e14, ι_one]
theorem boom9' {nS nM hr : Nat} {σ : St} (h : I2 nS nM hr 400000 σ) {c w : Nat} (hc : c < 24) (hw : w < 4) {s : Int32} (s1 : 1 ≤ s.toInt) (s9 : s.toInt ≤ 9) : (nM < 20 ∧ sp_X9_boom (ι c) (ι w) s σ = some (.inl (ι nM, stU (clA σ nM 0 (ι c) s) 17 nM (ι w)))) ∨ sp_X9_boom (ι c) (ι w) s σ = some (.inr 3) := by
  obtain ⟨hM, h14⟩ := h.1.2.2.1
  unfold sp_X9_boom
  rw [nc9 c hc, bxl, nrY (show (0 : Int32).toInt ≤ _ by rw [ι_toInt (by omega)]; show (0 : Int) ≤ _; omega) (show _ ≤ (3 : Int32).toInt by rw [ι_toInt (by omega)]; show _ ≤ (3 : Int); omega), bxl, nrY (show (1 : Int32).toInt ≤ _ from s1) (show _ ≤ (9 : Int32).toInt from s9), bxl, boomOn9 hM h14 hc hw, b1s]
  cases hb : bmN σ c w nM 0 with
  | none =>
    rw [show oI none = -1 from rfl, if_pos rfl]
    by_cases hn : nM < 20
    · left
      refine ⟨hn, ?_⟩
      rw [room9Y h hn, bxl, add9 h hn, b2s, ix hn (by omega), ι_nat (by omega), sls]
    · right
      rw [room9N h hn, bxr]
  | some b =>
    right
    have := (bmN_lt hb).1
    rw [show oI (some b) = ι b from rfl, if_neg (oI_ne' (by omega))]
theorem skim9' {nS nM hr : Nat} {σ : St} (h : I2 nS nM hr 400000 σ) {c p q : Nat} (hc : c < 24) (p1 : 1 ≤ p) (p5 : p ≤ 500) (q1 : 1 ≤ q) (q5 : q ≤ 5000) : ((σ 2 c = 0 ∧ nM < 20) ∧ sp_X9_skimmer (ι c) (ι p) (ι q) σ = some (.inl (ι nM, stU (clA σ nM 1 (ι c) (ι p)) 19 nM (ι q)))) ∨ (¬ (σ 2 c = 0 ∧ nM < 20) ∧ sp_X9_skimmer (ι c) (ι p) (ι q) σ = some (.inr 3)) := by
  unfold sp_X9_skimmer
  rw [nc9 c hc, bxl, nrY (show (1 : Int32).toInt ≤ _ by rw [ι_toInt (by omega)]; show (1 : Int) ≤ _; omega) (show _ ≤ (500 : Int32).toInt by rw [ι_toInt (by omega)]; show _ ≤ (500 : Int); omega), bxl, nrY (show (1 : Int32).toInt ≤ _ by rw [ι_toInt (by omega)]; show (1 : Int) ≤ _; omega) (show _ ≤ (5000 : Int32).toInt by rw [ι_toInt (by omega)]; show _ ≤ (5000 : Int); omega), bxl]
  by_cases g : σ 2 c = 0
  · rw [wat9 hc g, bxl]
    by_cases hn : nM < 20
    · left
      refine ⟨⟨g, hn⟩, ?_⟩
      rw [room9Y h hn, bxl, add9 h hn, b2s, ix hn (by omega), ι_nat (by omega), sls]
    · right
      exact ⟨fun q => hn q.2, by rw [room9N h hn, bxr]⟩
  · right
    exact ⟨fun q => g q.1, by rw [wat9n hc g, bxr]⟩
theorem team9 {nS nM hr : Nat} {σ : St} (h : I2 nS nM hr 400000 σ) (hn : nM < 20) {p : Nat} (p1 : 1 ≤ p) (p5 : p ≤ 50) (t : Int32) : sp_X9_team (ι p) t σ = some (.inl (ι nM, stU (clA σ nM 2 (-1) (ι p)) 21 nM (vp_nar .boolean t))) := by
  unfold sp_X9_team
  rw [nrY (show (1 : Int32).toInt ≤ _ by rw [ι_toInt (by omega)]; show (1 : Int) ≤ _; omega) (show _ ≤ (50 : Int32).toInt by rw [ι_toInt (by omega)]; show _ ≤ (50 : Int); omega), bxl, room9Y h hn, bxl, add9 h hn, b2s, ix hn (by omega), ι_nat (by omega), sls]
theorem wind9 {σ : St} {x y : Nat} (hx : x < 4) (hy : y < 10) : ∃ v, sp_X9_wind (ι x) (ι y) σ = some (.inl (v, stU (stU σ 0 5 (ι x)) 0 6 (ι y))) := by
  refine ⟨10 * σ 0 5 + σ 0 6, ?_⟩
  unfold sp_X9_wind
  rw [nrY (show (0 : Int32).toInt ≤ _ by rw [ι_toInt (by omega)]; show (0 : Int) ≤ _; omega) (show _ ≤ (3 : Int32).toInt by rw [ι_toInt (by omega)]; show _ ≤ (3 : Int); omega), bxl, nrY (show (0 : Int32).toInt ≤ _ by rw [ι_toInt (by omega)]; show (0 : Int) ≤ _; omega) (show _ ≤ (9 : Int32).toInt by rw [ι_toInt (by omega)]; show _ ≤ (9 : Int); omega), bxl, sls, sls, sls]
/-! means that act -/
theorem sort9 {σ : St} {m : Nat} (hm : m < 20) (s : Int32) : sp_X9_needSort (ι m) s σ = if σ 15 m = s then some (.inl ()) else some (.inr 3) := by
  unfold sp_X9_needSort
  rw [ix hm (by omega), ι_nat (by omega)]
theorem rest9 {σ : St} {m : Nat} (hm : m < 20) (t : Int32) : ∃ b, sp_X4_hasRested (ι m) t σ = some b := by
  unfold sp_X4_hasRested
  rw [ix hm (by omega), ι_nat (by omega), ix2 hm (by omega)]
  by_cases g : σ 22 m = -1
  · exact ⟨1, if_pos g⟩
  · rw [if_neg g]
    by_cases g2 : t - σ 22 m < 12
    · exact ⟨0, if_pos g2⟩
    · exact ⟨1, if_neg g2⟩
theorem can9 {σ : St} {m : Nat} (hm : m < 20) (t : Int32) : ∃ b, sp_X4_canWork (ι m) t σ = some b := by
  obtain ⟨r, hr⟩ := rest9 (σ := σ) hm t
  unfold sp_X4_canWork
  rw [ix hm (by omega), ι_nat (by omega), ix2 hm (by omega), hr, b1s, ix2 hm (by omega)]
  by_cases g : σ 21 m = 0
  · exact ⟨0, if_pos g⟩
  · rw [if_neg g]
    by_cases g2 : σ 22 m = t
    · exact ⟨0, if_pos g2⟩
    · rw [if_neg g2]
      by_cases g3 : r = 0
      · rw [if_pos g3]
        by_cases g4 : 8 ≤ σ 20 m
        · exact ⟨0, if_pos g4⟩
        · exact ⟨1, if_neg g4⟩
      · exact ⟨1, if_neg g3⟩
theorem note9' {σ : St} {m : Nat} (hm : m < 20) (t : Int32) : ∃ b, sp_X4_noteWork (ι m) t σ = some (stU (stU σ 20 m b) 22 m t) := by
  obtain ⟨r, hr⟩ := rest9 (σ := σ) hm t
  unfold sp_X4_noteWork sp_X4_noteWork_26
  rw [hr, b1s]
  simp only [ι_nat (show m < 100000 by omega), ix2 hm (show 20 < 100000 by omega), sls]
  by_cases g : r = 0
  · exact ⟨σ 20 m + 1, if_pos g⟩
  · exact ⟨1, if_neg g⟩
/-- what a mean's act does, whatever it is -/
theorem mean9 {nS nM hr : Nat} {B : Int} {σ δ : St} (h : Iv nS nM hr B σ δ) {a m c : Nat} (ha : a < 3) (hm : m < nM + 1) (hc : c < 24) : ∃ its σ' δ', sp_L_tryMean (ι a) (ι m) (ι c) σ δ = some (its, σ', δ') ∧ Iv nS nM hr B σ' δ' ∧ (nM ≤ m → its = -300) ∧ Ws δ' = Ws δ + (if a < 2 ∧ 0 < its.toInt then its.toInt else 0) ∧ (a = 1 → 0 ≤ its.toInt → sto nM σ' = sto nM σ - its.toInt) := by
  have i2 := h.1
  obtain ⟨hM, e14⟩ := i2.1.2.2.1
  have n3 : (-300 : Int32).toInt = -300 := rfl
  have n2 : (-200 : Int32).toInt = -200 := rfl
  have W0 : ∀ z : Int32, z.toInt ≤ 0 → Ws δ = Ws δ + (if a < 2 ∧ 0 < z.toInt then z.toInt else 0) := fun z hz => by rw [if_neg (by omega)]; omega
  unfold sp_L_tryMean
  by_cases hmm : nM ≤ m
  · have em : m = nM := by omega
    subst em
    have nn : sp_X9_needNumber (ι m) (ι m) = some (.inr 1) := nnN (Nat.le_refl m) (by omega)
    refine ⟨-300, σ, δ, ?_, h, fun _ => rfl, W0 _ (by decide), fun _ q => absurd q (by decide)⟩
    rcases (show a = 0 ∨ a = 1 ∨ a = 2 by omega) with rfl | rfl | rfl
    · rw [if_pos (by decide)]
      unfold sp_X9_clean
      rw [e14, nn, bxr, bc3r, if_pos rfl]
    · rw [if_neg (by decide), if_pos (by decide)]
      unfold sp_X9_carry
      rw [e14, nn, bxr, bc3r, if_pos rfl]
    · rw [if_neg (by decide), if_neg (by decide)]
      unfold sp_X9_move
      rw [e14, nn, bxr, bc2r, if_pos rfl]
  · have hm' : m < nM := by omega
    have hm20 : m < 20 := by omega
    have ny : sp_X9_needNumber (ι m) (ι nM) = some (.inl ()) := nnY hm' (by omega)
    rcases (show a = 0 ∨ a = 1 ∨ a = 2 by omega) with rfl | rfl | rfl
    · rw [if_pos (by decide)]
      unfold sp_X9_clean
      rw [e14, ny, bxl, nc9 c hc, bxl, sort9 hm20]
      by_cases g15 : σ 15 m = 2
      · rw [if_pos g15, bxl]
        unfold sp_X9_needShore
        rw [isWater9 hc, b1s]
        by_cases g2 : σ 2 c = 0
        · refine ⟨-200, σ, δ, ?_, h, fun q => absurd q hmm, W0 _ (by decide), fun q => absurd q (by decide)⟩
          rw [if_pos g2, if_neg (by decide), bxr, bc3r, if_neg (by decide), if_pos rfl]
        · rw [if_neg g2, if_pos rfl, bxl]
          obtain ⟨b, hb⟩ := can9 (σ := σ) hm20 (σ 0 4)
          rw [hb, b1s]
          by_cases gb : b = 0
          · refine ⟨-200, σ, δ, ?_, h, fun q => absurd q hmm, W0 _ (by decide), fun q => absurd q (by decide)⟩
            rw [if_pos gb, bc3r, if_neg (by decide), if_pos rfl]
          · obtain ⟨t, ht⟩ := note9' (σ := σ) hm20 (σ 0 4)
            obtain ⟨p, hp, e18⟩ := h.2.2.2.2.1 m hm' g15
            have b6 := i2.2.2.2.1 c hc
            have w10 : ((10 : Int32) * ι p).toInt = 10 * (p : Int) := by
              rw [t_mul (by rw [ι_toInt (by omega)]; show _ ≤ (10 : Int) * _; omega) (by rw [ι_toInt (by omega)]; show (10 : Int) * _ ≤ _; omega), ι_toInt (by omega)]; rfl
            have wx : (iMin ((10 : Int32) * ι p) (σ 6 c)).toInt = min (10 * (p : Int)) (σ 6 c).toInt := by rw [iMin_int, w10]
            have o18 : stU (stU σ 20 m t) 22 m (σ 0 4) 18 m = ι p := by rw [stU_k (by decide), stU_k (by decide)]; exact e18
            have o6 : stU (stU σ 20 m t) 22 m (σ 0 4) 6 c = σ 6 c := by rw [stU_k (by decide), stU_k (by decide)]
            generalize hx : iMin ((10 : Int32) * ι p) (σ 6 c) = x at *
            obtain ⟨u1, u2⟩ := U_clean h hm' hc g15 x t (σ 0 4) (by omega) (by omega)
            refine ⟨x, _, _, ?_, u1, fun q => absurd q hmm, ?_, fun q => absurd q (by decide)⟩
            · rw [if_neg gb, ht, b1s, ix hm20 (by omega), ι_nat (show m < 100000 by omega), ix hc (by omega), ι_nat (show c < 100000 by omega), o18, o6, hx, sls, ix2 hc (by omega), ix2 hc (by omega), sls, sls, bc3l]
              rfl
            · rw [Ws_1, u2]
              have : Ws δ = (δ 1 0).toInt + (δ 1 1).toInt := rfl
              by_cases gx : 0 < x.toInt
              · rw [if_pos ⟨by omega, gx⟩]; omega
              · rw [if_neg (fun q => gx q.2)]; omega
      · refine ⟨-200, σ, δ, ?_, h, fun q => absurd q hmm, W0 _ (by decide), fun q => absurd q (by decide)⟩
        rw [if_neg g15, bxr, bc3r, if_neg (by decide), if_pos rfl]
    · rw [if_neg (by decide), if_pos (by decide)]
      unfold sp_X9_carry
      rw [e14, ny, bxl, sort9 hm20]
      by_cases g15 : σ 15 m = 1
      · obtain ⟨u1, u2, u3, u4⟩ := U_carry h hm' g15
        refine ⟨σ 20 m, _, _, ?_, u1, fun q => absurd q hmm, ?_, fun _ _ => u4⟩
        · rw [if_pos g15, bxl, ix hm20 (by omega), ι_nat (by omega), sls, ix2 hm20 (by omega), sls, sls, bc3l]
          rfl
        · rw [Ws_0, u2]
          have : Ws δ = (δ 1 0).toInt + (δ 1 1).toInt := rfl
          by_cases gx : 0 < (σ 20 m).toInt
          · rw [if_pos ⟨by omega, gx⟩]; omega
          · rw [if_neg (fun q => gx q.2)]; omega
      · refine ⟨-200, σ, δ, ?_, h, fun q => absurd q hmm, W0 _ (by decide), fun _ q => absurd q (by decide)⟩
        rw [if_neg g15, bxr, bc3r, if_neg (by decide), if_pos rfl]
    · rw [if_neg (by decide), if_neg (by decide)]
      unfold sp_X9_move
      have w2 : ∀ z : Int, Ws δ = Ws δ + (if 2 < 2 ∧ 0 < z then z else 0) := fun z => by rw [if_neg (by omega)]; omega
      rw [e14, ny, bxl, nc9 c hc, bxl, sort9 hm20]
      by_cases g15 : σ 15 m = 1
      · rw [if_pos g15, bxl]
        by_cases g2 : σ 2 c = 0
        · refine ⟨σ 16 m, _, δ, ?_, U_move h hm' hc, fun q => absurd q hmm, w2 _, fun q => absurd q (by decide)⟩
          rw [wat9 hc g2, bxl, ix hm20 (by omega), ι_nat (by omega), sls, ix2 hm20 (by omega), sls, bc2l]
        · refine ⟨-200, σ, δ, ?_, h, fun q => absurd q hmm, w2 _, fun q => absurd q (by decide)⟩
          rw [wat9n hc g2, bxr, bc2r, if_neg (by decide), if_pos rfl]
      · refine ⟨-200, σ, δ, ?_, h, fun q => absurd q hmm, w2 _, fun q => absurd q (by decide)⟩
        rw [if_neg g15, bxr, bc2r, if_neg (by decide), if_pos rfl]
