/-! one step of an hour each -/
def wea (σ : St) (c : Nat) : St :=
  let a := σ 4 c / 20
  let σ1 := stU σ 4 c (σ 4 c - a)
  let σ2 := stU σ1 23 2 (σ1 23 2 + a)
  let t := σ2 4 c / 10
  let σ3 := stU σ2 4 c (σ2 4 c - t)
  let σ4 := stU σ3 5 c (σ3 5 c + t)
  let k := σ4 5 c / 50
  let σ5 := stU σ4 5 c (σ4 5 c - k)
  stU σ5 23 3 (σ5 23 3 + k)
theorem wea9 {σ : St} {c n : Nat} (hc : c < 24) : sp_X0_weather_2 (n + 1) (ι c) σ = sp_X0_weather_2 n (ι (c + 1)) (wea σ c) := by
  have q : ¬ (24 : Int32) ≤ ι c := by rw [show (24 : Int32) = ι 24 from rfl, ι_le (by omega) (by omega)]; omega
  rw [sp_X0_weather_2, if_neg q]
  simp only [ι_nat (show c < 100000 by omega), ix2 hc (show 24 < 100000 by omega), sl, ι_one]
  rfl
/-- what weather takes -/
def wa (f : Int32) : Int32 := f / 20
def wt (f : Int32) : Int32 := (f - wa f) / 10
def wk (f t : Int32) : Int32 := (t + wt f) / 50
def weaS (k4 i4 k5 i5 ka ia kb ib : Nat) (σ : St) : St :=
  stU (stU (stU (stU σ k4 i4 (σ k4 i4 - wa (σ k4 i4) - wt (σ k4 i4))) k5 i5 (σ k5 i5 + wt (σ k4 i4) - wk (σ k4 i4) (σ k5 i5))) ka ia (σ ka ia + wa (σ k4 i4))) kb ib (σ kb ib + wk (σ k4 i4) (σ k5 i5))
theorem wea_S {σ : St} {c : Nat} : wea σ c = weaS 4 c 5 c 23 2 23 3 σ := by
  have e1 : wea σ c = stU (stU (stU (stU (stU (stU σ 4 c (σ 4 c - wa (σ 4 c))) 23 2 (σ 23 2 + wa (σ 4 c))) 4 c (σ 4 c - wa (σ 4 c) - wt (σ 4 c))) 5 c (σ 5 c + wt (σ 4 c))) 5 c (σ 5 c + wt (σ 4 c) - wk (σ 4 c) (σ 5 c))) 23 3 (σ 23 3 + wk (σ 4 c) (σ 5 c)) := by
    unfold wea wk wt wa
    simp [stU_ite]
  rw [e1]
  unfold weaS
  funext k i
  simp only [stU_ite]
  by_cases h1 : k = 4
  · subst h1; by_cases g : i = c <;> simp [g]
  · by_cases h2 : k = 5
    · subst h2; by_cases g : i = c <;> simp [g]
    · by_cases h3 : k = 23
      · subst h3; simp
      · simp [h1, h2, h3]
theorem wa_v {f : Int32} (h : 0 ≤ f.toInt) : (wa f).toInt = f.toInt / 20 := t_div h (by decide)
theorem wt_v {f : Int32} (h : 0 ≤ f.toInt) : (wt f).toInt = (f.toInt - f.toInt / 20) / 10 := by
  have h1 := wa_v h
  have h2 : f.toInt ≤ 2147483647 := Int32.toInt_le f
  have h3 : (f - wa f).toInt = f.toInt - f.toInt / 20 := by rw [t_sub (by omega) (by omega), h1]
  unfold wt
  rw [t_div (by omega) (by decide), h3]
  rfl
theorem wk_v {f t : Int32} (hf : 0 ≤ f.toInt) (ht : 0 ≤ t.toInt) (hb : f.toInt + t.toInt ≤ 1000000) : (wk f t).toInt = (t.toInt + (f.toInt - f.toInt / 20) / 10) / 50 := by
  have h1 := wt_v hf
  have h3 : (t + wt f).toInt = t.toInt + (f.toInt - f.toInt / 20) / 10 := by rw [t_add (by omega) (by omega), h1]
  unfold wk
  rw [t_div (by omega) (by decide), h3]
  rfl
theorem weaI {nS nM : Nat} {K : Int} (hK : K ≤ 400000) {σ : St} (h : I1 nS nM K σ) {c : Nat} (hc : c < 24) : I1 nS nM K (wea σ c) := by
  obtain ⟨b1, b2, b3, b4⟩ := h.b4 hc
  have va := wa_v b2
  have vt := wt_v b2
  have vk := wk_v b2 b3 (by omega)
  have z4 := (h.1 c hc).2
  have z5 := (h.2.1 c hc).2
  have v1 : (σ 4 c - wa (σ 4 c)).toInt = (σ 4 c).toInt - (wa (σ 4 c)).toInt := t_sub (by omega) (by omega)
  have v2 : (σ 4 c - wa (σ 4 c) - wt (σ 4 c)).toInt = (σ 4 c).toInt - (wa (σ 4 c)).toInt - (wt (σ 4 c)).toInt := by rw [t_sub (by omega) (by omega), v1]
  have v3 : (σ 5 c + wt (σ 4 c)).toInt = (σ 5 c).toInt + (wt (σ 4 c)).toInt := t_add (by omega) (by omega)
  have v4 : (σ 5 c + wt (σ 4 c) - wk (σ 4 c) (σ 5 c)).toInt = (σ 5 c).toInt + (wt (σ 4 c)).toInt - (wk (σ 4 c) (σ 5 c)).toInt := by rw [t_sub (by omega) (by omega), v3]
  rw [wea_S]
  unfold weaS
  refine I1.oth (I1.oth ?_ rfl) rfl
  have s1 := h.s4 (c := c) (x := σ 4 c - wa (σ 4 c) - wt (σ 4 c)) hc (by omega) (fun q => by have := z4 q; omega)
  have s2 := s1.s5 (c := c) (x := σ 5 c + wt (σ 4 c) - wk (σ 4 c) (σ 5 c)) hc (by omega) (fun q => by rw [stU_k (by decide)] at q; have a1 := z4 q; have a2 := z5 q; omega)
  rw [stU_k (by decide)] at s2
  exact s2.mono (by omega)
theorem wea0 {nS nM hr : Nat} {σ : St} (h : I0 nS nM hr σ) {c : Nat} : I0 nS nM hr (wea σ c) := by
  rw [wea_S]
  exact I0.oth (I0.oth (I0.oth (I0.oth h rfl) rfl) rfl) rfl
def tdN (h : Nat) : Nat := if 6 < h % 12 then 12 - h % 12 else h % 12
theorem td9' : ∀ a, a < 56 → ∀ b, b < 56 → sp_X0_tideOf (ι (56 * a + b)) = some (ι (tdN (56 * a + b))) := by decide +kernel
theorem td9 (h : Nat) (hh : h < 3001) : sp_X0_tideOf (ι h) = some (ι (tdN h)) := by
  have := td9' (h / 56) (by omega) (h % 56) (by omega)
  rwa [Nat.div_add_mod] at this
theorem tdN_le (h : Nat) : tdN h ≤ 6 := by
  unfold tdN
  by_cases q : 6 < h % 12
  · rw [if_pos q]; omega
  · rw [if_neg q]; omega
/-- what leaks -/
def lk (L r t : Int32) : Int32 := if L / 1000 - t ≤ 0 then 0 else iMin (r * (L / 1000 - t)) L
theorem lk_v {L : Int32} {r t : Nat} (h0 : 0 ≤ L.toInt) (h1 : L.toInt ≤ 400000) (hr : r < 100) (ht : t ≤ 6) : 0 ≤ (lk L (ι r) (ι t)).toInt ∧ (lk L (ι r) (ι t)).toInt ≤ L.toInt := by
  unfold lk
  have a1 : (L / 1000).toInt = L.toInt / 1000 := t_div h0 (by decide)
  have a2 : (L / 1000 - ι t).toInt = L.toInt / 1000 - t := by rw [t_sub (by rw [a1, ι_toInt (by omega)]; omega) (by rw [a1, ι_toInt (by omega)]; omega), a1, ι_toInt (by omega)]
  by_cases q : L / 1000 - ι t ≤ 0
  · rw [if_pos q]; exact ⟨Int.le_refl 0, h0⟩
  · rw [if_neg q, iMin_int]
    rw [Int32.le_iff_toInt_le, a2] at q
    have z0 : (0 : Int32).toInt = 0 := rfl
    have p1 : (0 : Int) ≤ (r : Int) * (L.toInt / 1000 - t) := Int.mul_nonneg (by omega) (by omega)
    have p2 : (r : Int) * (L.toInt / 1000 - t) ≤ 99 * 400 := Int.mul_le_mul (by omega) (by omega) (by omega) (by omega)
    have a3 : (ι r * (L / 1000 - ι t)).toInt = (r : Int) * (L.toInt / 1000 - t) := by
      rw [t_mul (by rw [ι_toInt (by omega), a2]; omega) (by rw [ι_toInt (by omega), a2]; omega), ι_toInt (by omega), a2]
    rw [a3]
    omega
theorem leakOf9 {σ : St} {s : Nat} (hs : s < 4) (t : Int32) : sp_X8_leakOf (ι s) t σ = some (lk (σ 12 s) (σ 13 s) t) := by
  unfold sp_X8_leakOf lk
  simp only [ι_nat (show s < 100000 by omega), ix2 hs (show 4 < 100000 by omega), sl]
  by_cases q : σ 12 s / 1000 - t ≤ 0
  · rw [if_pos q, if_pos q]
  · rw [if_neg q, if_neg q]
/-- the note of a leak -/
def noteS (k1 i1 k0 i0 : Nat) (l h : Int32) (σ : St) : St := if l ≤ 0 then stU σ k0 i0 (σ k0 i0 + l) else if σ k1 i1 = -1 then stU (stU σ k0 i0 (σ k0 i0 + l)) k1 i1 h else stU σ k0 i0 (σ k0 i0 + l)
theorem note9 {σ : St} {l h : Int32} : sp_X1_noteLeak l h σ = some (noteS 23 1 23 0 l h σ) := by
  unfold sp_X1_noteLeak sp_X1_noteLeak_17 noteS
  by_cases q : l ≤ 0
  · rw [if_pos q, if_pos q]; rfl
  · rw [if_neg q, if_neg q]
    by_cases q2 : σ 23 1 = -1
    · rw [if_pos q2, if_pos q2]
      simp only [sl]
      rw [stU_comm (by decide), stU_i (by decide)]
    · rw [if_neg q2, if_neg q2]; rfl
def lkS (σ : St) (s c : Nat) (l : Int32) : St := noteS 23 1 23 0 l (σ 0 4) (stU (stU σ 12 s (σ 12 s - l)) 4 c (σ 4 c + l))
theorem lk9 {σ : St} {s c n nS : Nat} (hS : nS ≤ 4) (h10 : σ 10 0 = ι nS) (hs : s < nS) (hc : c < 24) (h11 : σ 11 s = ι c) (t : Int32) : sp_X0_leak_10 t (n + 1) (ι s) σ = sp_X0_leak_10 t n (ι (s + 1)) (lkS σ s c (lk (σ 12 s) (σ 13 s) t)) := by
  have q : ¬ ι nS ≤ ι s := by rw [ι_le (by omega) (by omega)]; omega
  rw [sp_X0_leak_10, h10, if_neg q, leakOf9 (by omega)]
  simp only [b1, sl, ι_nat (show s < 100000 by omega), ix2 (show s < 4 by omega) (show 4 < 100000 by omega), ι_one, note9]
  have e11 : ∀ x, stU σ 12 s x 11 s = ι c := fun x => by rw [stU_k (by decide)]; exact h11
  simp only [e11, ι_nat (show c < 100000 by omega), ix2 hc (show 24 < 100000 by omega)]
  unfold lkS
  simp only [stU_k (show (4 : Nat) ≠ 12 by decide), stU_k (show (0 : Nat) ≠ 12 by decide), stU_k (show (0 : Nat) ≠ 4 by decide)]
theorem note1 {nS nM : Nat} {K : Int} {σ : St} (h : I1 nS nM K σ) (l hh : Int32) : I1 nS nM K (noteS 23 1 23 0 l hh σ) := by
  unfold noteS
  by_cases g : l ≤ 0
  · rw [if_pos g]; exact h.oth rfl
  · rw [if_neg g]
    by_cases g2 : σ 23 1 = -1
    · rw [if_pos g2]; exact (h.oth rfl).oth rfl
    · rw [if_neg g2]; exact h.oth rfl
theorem note0 {nS nM hr : Nat} {σ : St} (h : I0 nS nM hr σ) (l hh : Int32) : I0 nS nM hr (noteS 23 1 23 0 l hh σ) := by
  unfold noteS
  by_cases g : l ≤ 0
  · rw [if_pos g]; exact h.oth rfl
  · rw [if_neg g]
    by_cases g2 : σ 23 1 = -1
    · rw [if_pos g2]; exact (h.oth rfl).oth rfl
    · rw [if_neg g2]; exact h.oth rfl
theorem I1.b12 {nS nM : Nat} {K : Int} {σ : St} (h : I1 nS nM K σ) {s : Nat} (hs : s < 4) : 0 ≤ (σ 12 s).toInt ∧ (σ 12 s).toInt ≤ K := by
  obtain ⟨a1, a2, a3, a4, a5, a6⟩ := h
  have b1 : 0 ≤ rs σ 4 24 := Sm_nn (fun i hi => (a1 i hi).1)
  have b2 : 0 ≤ rs σ 5 24 := Sm_nn (fun i hi => (a2 i hi).1)
  have b3 : 0 ≤ rs σ 6 24 := Sm_nn (fun i hi => (a3 i hi).1)
  have b4 : (σ 12 s).toInt ≤ rs σ 12 4 := Sm_le (f := fun i => (σ 12 i).toInt) (fun i hi => (a4 i hi).1) hs
  unfold tot at a6
  exact ⟨(a4 s hs).1, by omega⟩
theorem I1.p12 {nS nM : Nat} {K : Int} {σ : St} (h : I1 nS nM K σ) {s c : Nat} (hs : s < 4) (hc : c < 24) : (σ 12 s).toInt + (σ 4 c).toInt ≤ K := by
  obtain ⟨a1, a2, a3, a4, a5, a6⟩ := h
  have b1 : (σ 4 c).toInt ≤ rs σ 4 24 := Sm_le (f := fun i => (σ 4 i).toInt) (fun i hi => (a1 i hi).1) hc
  have b2 : 0 ≤ rs σ 5 24 := Sm_nn (fun i hi => (a2 i hi).1)
  have b3 : 0 ≤ rs σ 6 24 := Sm_nn (fun i hi => (a3 i hi).1)
  have b4 : (σ 12 s).toInt ≤ rs σ 12 4 := Sm_le (f := fun i => (σ 12 i).toInt) (fun i hi => (a4 i hi).1) hs
  unfold tot at a6
  omega
theorem kd {nS nM hr : Nat} {σ : St} (h : I0 nS nM hr σ) {c : Nat} (hc : c < 24) : ∃ k, k < 4 ∧ σ 2 c = ι k := h.2.2.2.2.2.1 c hc
theorem roomOf9 {nS nM hr : Nat} {σ : St} (h : I0 nS nM hr σ) {d : Nat} (hd : d < 24) : sp_X2_roomOf (ι d) σ = some (tabH (σ 2 d) - σ 6 d) := by
  obtain ⟨k, hk, e⟩ := kd h hd
  unfold sp_X2_roomOf
  simp only [ι_nat (show d < 100000 by omega), ix2 hd (show 24 < 100000 by omega), e, ι_nat (show k < 100000 by omega), ix2 hk (show 4 < 100000 by omega)]
/-- the room behind a border -/
def roomB (σ : St) : Option Nat → Int32
  | none => 1000000
  | some d => if σ 2 d = 0 then 1000000 else tabH (σ 2 d) - σ 6 d
theorem room9 {nS nM hr : Nat} {σ : St} (h : I0 nS nM hr σ) {c w : Nat} (hc : c < 24) (hw : w < 4) (e5 : σ 0 5 = ι w) : sp_X0_roomBehind (ι c) σ = some (roomB σ (bs c w)) := by
  unfold sp_X0_roomBehind
  rw [e5, bs9 c hc w hw]
  simp only [b1]
  cases hb : bs c w with
  | none => rw [show oI none = -1 from rfl, if_pos rfl]; rfl
  | some d =>
    have hd := bs_lt hc hw hb
    rw [show oI (some d) = ι d from rfl, if_neg (oI_ne hd), isWater9 hd, roomOf9 h hd]
    unfold roomB
    by_cases g : σ 2 d = 0 <;> simp [g]
theorem tabH_v {k : Nat} (hk : k < 4) : 0 ≤ (tabH (ι k)).toInt ∧ (tabH (ι k)).toInt ≤ 1000 := by
  rcases (show k = 0 ∨ k = 1 ∨ k = 2 ∨ k = 3 by omega) with rfl | rfl | rfl | rfl <;> decide
/-- litres that the wind would take, and what there is room for -/
def bl (f st : Int32) : Int32 := f * st / 10
theorem bl_v {f : Int32} {s : Nat} (h0 : 0 ≤ f.toInt) (h1 : f.toInt ≤ 400000) (hs : s < 10) : (bl f (ι s)).toInt = f.toInt * s / 10 ∧ 0 ≤ (bl f (ι s)).toInt ∧ (bl f (ι s)).toInt ≤ f.toInt := by
  have p0 : 0 ≤ f.toInt * (s : Int) := Int.mul_nonneg h0 (by omega)
  have p1 : f.toInt * (s : Int) ≤ f.toInt * 9 := Int.mul_le_mul_of_nonneg_left (by omega) h0
  have a1 : (f * ι s).toInt = f.toInt * s := by rw [t_mul (by rw [ι_toInt (by omega)]; omega) (by rw [ι_toInt (by omega)]; omega), ι_toInt (by omega)]
  unfold bl
  rw [t_div (by rw [a1]; exact p0) (by decide), a1, show (10 : Int32).toInt = 10 from rfl]
  refine ⟨rfl, by omega, by omega⟩
def gof (σ : St) (to : Option Nat) (f : Int32) : Int32 := match to with
  | none => f
  | some d => if σ 2 d = 0 then f else iMin f (tabH (σ 2 d) - σ 6 d)
def got (σ : St) (to : Option Nat) (f t : Int32) : Int32 := match to with
  | none => t
  | some d => if σ 2 d = 0 then t else iMin t (tabH (σ 2 d) - σ 6 d - gof σ to f)
theorem iMin_l {a b : Int32} (h : a.toInt ≤ b.toInt) : iMin a b = a := Int32.toInt_inj.mp (by rw [iMin_int]; omega)
theorem room_gof {σ : St} {to : Option Nat} {f t : Int32} (f0 : 0 ≤ f.toInt) (t0 : 0 ≤ t.toInt) (hb : f.toInt + t.toInt ≤ 400000) : iMin f (roomB σ to) = gof σ to f ∧ iMin t (roomB σ to - gof σ to f) = got σ to f t := by
  have z : (1000000 : Int32).toInt = 1000000 := rfl
  have w : (1000000 - f : Int32).toInt = 1000000 - f.toInt := by rw [t_sub (by rw [z]; omega) (by rw [z]; omega), z]
  cases to with
  | none => exact ⟨iMin_l (by rw [show roomB σ none = 1000000 from rfl, z]; omega), iMin_l (by show t.toInt ≤ (1000000 - f : Int32).toInt; rw [w]; omega)⟩
  | some d =>
    unfold roomB got gof
    by_cases g : σ 2 d = 0
    · simp only [if_pos g]
      exact ⟨iMin_l (by rw [z]; omega), iMin_l (by rw [w]; omega)⟩
    · simp only [if_neg g]
      exact ⟨trivial, trivial⟩
theorem oI_ne' {d : Nat} (h : d < 20) : ¬ ι d = -1 := oI_ne (by omega)
/-- what is stored: litres that go, and the boom that breaks -/
def dec (σ : St) (F T : Int32) (y : Option Nat) : Int32 × Int32 × Option Nat :=
  if F + T ≤ 0 then (F, T, none) else match y with
  | none => (F, T, none)
  | some b => if σ 18 b < σ 0 6 then (F, T, some b) else (0, 0, none)
def brk (k o : Nat) (σ : St) : Option Nat → St
  | none => σ
  | some b => stU σ k (o + b) 1
def fwS (σ : St) (c : Nat) (q : Int32 × Int32 × Option Nat) : St := stU (stU (brk 20 0 σ q.2.2) 24 c q.1) 25 c q.2.1
theorem fw108 {σ : St} {c : Nat} (hc : c < 24) {F T : Int32} : sp_X0_findWhatGoes_108 (ι c) F T σ = some (stU (stU σ 24 c F) 25 c T) := by
  unfold sp_X0_findWhatGoes_108
  simp only [ι_nat (show c < 100000 by omega), ix2 hc (show 24 < 100000 by omega), sl]
theorem fw9 {nS nM hr : Nat} {σ : St} (h : I0 nS nM hr σ) {c w : Nat} (hc : c < 24) (hw : w < 4) (e5 : σ 0 5 = ι w) {y : Option Nat} (hy : sp_X4_boomOn (ι c) (ι w) σ = some (oI y)) (hy20 : ∀ b, y = some b → b < 20)
    (g1 : iMin (bl (σ 4 c) (σ 0 6)) (roomB σ (bs c w)) = gof σ (bs c w) (bl (σ 4 c) (σ 0 6))) (g2 : iMin (bl (σ 5 c) (σ 0 6)) (roomB σ (bs c w) - gof σ (bs c w) (bl (σ 4 c) (σ 0 6))) = got σ (bs c w) (bl (σ 4 c) (σ 0 6)) (bl (σ 5 c) (σ 0 6))) :
    sp_X0_findWhatGoes (ι c) σ = some (fwS σ c (dec σ (gof σ (bs c w) (bl (σ 4 c) (σ 0 6))) (got σ (bs c w) (bl (σ 4 c) (σ 0 6)) (bl (σ 5 c) (σ 0 6))) y)) := by
  unfold sp_X0_findWhatGoes sp_X0_blown
  rw [room9 h hc hw e5]
  simp only [b1, ι_nat (show c < 100000 by omega), ix2 hc (show 24 < 100000 by omega)]
  rw [show σ 4 c * σ 0 6 / 10 = bl (σ 4 c) (σ 0 6) from rfl, show σ 5 c * σ 0 6 / 10 = bl (σ 5 c) (σ 0 6) from rfl, g1, g2]
  generalize gof σ (bs c w) (bl (σ 4 c) (σ 0 6)) = F
  generalize got σ (bs c w) (bl (σ 4 c) (σ 0 6)) (bl (σ 5 c) (σ 0 6)) = T
  unfold dec fwS
  by_cases q : F + T ≤ 0
  · rw [if_pos q, if_pos q, fw108 hc]; rfl
  · rw [if_neg q, if_neg q, e5, hy]
    cases y with
    | none => simp only [show oI none = -1 from rfl, if_pos]; unfold sp_X0_findWhatGoes_91; rw [if_pos rfl, fw108 hc]; rfl
    | some b =>
      have hb := hy20 b rfl
      simp only [show oI (some b) = ι b from rfl, ι_nat (show b < 100000 by omega), ix2 hb (show 20 < 100000 by omega)]
      rw [if_neg (oI_ne' hb)]
      by_cases p : σ 18 b < σ 0 6
      · rw [if_pos p, if_pos p]
        unfold sp_X0_findWhatGoes_91
        rw [if_neg (oI_ne' hb)]
        simp only [ι_nat (show b < 100000 by omega), ix2 hb (show 20 < 100000 by omega), sl]
        rw [fw108 hc]
        show _ = some (stU (stU (stU σ 20 (0 + b) 1) 24 c F) 25 c T)
        rw [Nat.zero_add]
      · rw [if_neg p, if_neg p, fw108 hc]; rfl
theorem go_v {nS nM hr : Nat} {K : Int} (hK : K ≤ 400000) {σ : St} (h0 : I0 nS nM hr σ) (h1 : I1 nS nM K σ) {c w : Nat} (hc : c < 24) (hw : w < 4) : 0 ≤ (gof σ (bs c w) (bl (σ 4 c) (σ 0 6))).toInt ∧ (gof σ (bs c w) (bl (σ 4 c) (σ 0 6))).toInt ≤ (σ 4 c).toInt ∧ 0 ≤ (got σ (bs c w) (bl (σ 4 c) (σ 0 6)) (bl (σ 5 c) (σ 0 6))).toInt ∧ (got σ (bs c w) (bl (σ 4 c) (σ 0 6)) (bl (σ 5 c) (σ 0 6))).toInt ≤ (σ 5 c).toInt ∧
    (∀ d, bs c w = some d → ¬ σ 2 d = 0 → (σ 6 d).toInt + (gof σ (bs c w) (bl (σ 4 c) (σ 0 6))).toInt + (got σ (bs c w) (bl (σ 4 c) (σ 0 6)) (bl (σ 5 c) (σ 0 6))).toInt ≤ (tabH (σ 2 d)).toInt) ∧ (bl (σ 4 c) (σ 0 6)).toInt + (bl (σ 5 c) (σ 0 6)).toInt ≤ 400000 ∧ 0 ≤ (bl (σ 4 c) (σ 0 6)).toInt ∧ 0 ≤ (bl (σ 5 c) (σ 0 6)).toInt := by
  obtain ⟨s, hs, e6⟩ := h0.2.2.2.2.1
  obtain ⟨b1, b2, b3, b4⟩ := h1.b4 hc
  obtain ⟨-, f0, f1⟩ := bl_v (f := σ 4 c) (s := s) b2 (by omega) hs
  obtain ⟨-, t0, t1⟩ := bl_v (f := σ 5 c) (s := s) b3 (by omega) hs
  rw [← e6] at f0 f1 t0 t1
  generalize bl (σ 4 c) (σ 0 6) = f at *
  generalize bl (σ 5 c) (σ 0 6) = t at *
  cases hb : bs c w with
  | none => exact ⟨f0, f1, t0, t1, (fun d hd => by cases hd), by omega, f0, t0⟩
  | some d =>
    have hd := bs_lt hc hw hb
    obtain ⟨k, hk, ek⟩ := kd h0 hd
    have r6 := h1.2.2.1 d hd
    have hH := tabH_v hk
    rw [← ek] at hH
    have w1 : (tabH (σ 2 d) - σ 6 d).toInt = (tabH (σ 2 d)).toInt - (σ 6 d).toInt := t_sub (by omega) (by omega)
    unfold got gof
    by_cases g : σ 2 d = 0
    · simp only [if_pos g]
      exact ⟨f0, f1, t0, t1, fun d2 hd2 hn => by cases hd2; exact absurd g hn, by omega, f0, t0⟩
    · simp only [if_neg g]
      have w2 : (iMin f (tabH (σ 2 d) - σ 6 d)).toInt = min f.toInt ((tabH (σ 2 d)).toInt - (σ 6 d).toInt) := by rw [iMin_int, w1]
      have w3 : (tabH (σ 2 d) - σ 6 d - iMin f (tabH (σ 2 d) - σ 6 d)).toInt = (tabH (σ 2 d)).toInt - (σ 6 d).toInt - min f.toInt ((tabH (σ 2 d)).toInt - (σ 6 d).toInt) := by rw [t_sub (by rw [w1, w2]; omega) (by rw [w1, w2]; omega), w1, w2]
      rw [iMin_int t, w3, w2]
      refine ⟨by omega, by omega, by omega, by omega, fun d2 hd2 hn => ?_, by omega, f0, t0⟩
      cases hd2
      omega
theorem dec_c {σ : St} (F T : Int32) (y : Option Nat) : (∃ z, dec σ F T y = (F, T, z) ∧ (z = none ∨ z = y)) ∨ dec σ F T y = (0, 0, none) := by
  unfold dec
  by_cases q : F + T ≤ 0
  · rw [if_pos q]; exact Or.inl ⟨none, rfl, Or.inl rfl⟩
  · rw [if_neg q]
    cases y with
    | none => exact Or.inl ⟨none, rfl, Or.inl rfl⟩
    | some b =>
      dsimp only
      by_cases p : σ 18 b < σ 0 6
      · rw [if_pos p]; exact Or.inl ⟨some b, rfl, Or.inr rfl⟩
      · rw [if_neg p]; exact Or.inr rfl
theorem brk_o {k o k2 i2 : Nat} {σ : St} {z : Option Nat} (h : k2 ≠ k) : brk k o σ z k2 i2 = σ k2 i2 := by
  cases z with
  | none => rfl
  | some b => exact stU_k h
theorem fwS_o {σ : St} {c k i : Nat} {q : Int32 × Int32 × Option Nat} (h1 : k ≠ 20) (h2 : k ≠ 24) (h3 : k ≠ 25) : fwS σ c q k i = σ k i := by
  unfold fwS
  rw [stU_k h3, stU_k h2, brk_o h1]
def ldS (σ : St) (c : Nat) (F T : Int32) (to : Option Nat) : St := match to with
  | none => stU (stU (stU σ 4 c (σ 4 c - F)) 5 c (σ 5 c - T)) 23 4 (σ 23 4 + (F + T))
  | some d => if σ 2 d = 0 then stU (stU (stU (stU σ 4 c (σ 4 c - F)) 5 c (σ 5 c - T)) 4 d (σ 4 d + F)) 5 d (σ 5 d + T) else stU (stU (stU σ 4 c (σ 4 c - F)) 5 c (σ 5 c - T)) 6 d (σ 6 d + (F + T))
theorem ld9 {σ : St} {c w : Nat} (hc : c < 24) (hw : w < 4) : sp_X0_letGo (ι c) (oI (bs c w)) σ = some (ldS σ c (σ 24 c) (σ 25 c) (bs c w)) := by
  unfold sp_X0_letGo
  simp only [ι_nat (show c < 100000 by omega), ix2 hc (show 24 < 100000 by omega), sl]
  generalize σ 24 c = F
  generalize σ 25 c = T
  have a5 : ∀ x, stU σ 4 c x 5 c = σ 5 c := fun x => stU_k (by decide)
  simp only [a5]
  cases hb : bs c w with
  | none =>
    rw [show oI none = -1 from rfl, if_pos rfl]
    unfold ldS
    rw [stU_k (by decide), stU_k (by decide)]
  | some d =>
    have hd := bs_lt hc hw hb
    have hdc : d ≠ c := fun e => bs_ne c hc w hw (by rw [hb, e])
    rw [show oI (some d) = ι d from rfl, if_neg (oI_ne hd), isWater9 hd]
    have k2 : ∀ x y, stU (stU σ 4 c x) 5 c y 2 d = σ 2 d := fun x y => by rw [stU_k (by decide), stU_k (by decide)]
    have k4 : ∀ x y, stU (stU σ 4 c x) 5 c y 4 d = σ 4 d := fun x y => by rw [stU_k (by decide), stU_i hdc]
    have k5 : ∀ x y z, stU (stU (stU σ 4 c x) 5 c y) 4 d z 5 d = σ 5 d := fun x y z => by rw [stU_k (by decide), stU_i hdc, stU_k (by decide)]
    have k6 : ∀ x y, stU (stU σ 4 c x) 5 c y 6 d = σ 6 d := fun x y => by rw [stU_k (by decide), stU_k (by decide)]
    simp only [b1, ι_nat (show d < 100000 by omega), ix2 hd (show 24 < 100000 by omega), k2, k4, k5, k6]
    unfold ldS
    by_cases g : σ 2 d = 0 <;> simp [g]
theorem ld0 {nS nM hr : Nat} {σ : St} (h : I0 nS nM hr σ) {c : Nat} {F T : Int32} {to : Option Nat} : I0 nS nM hr (ldS σ c F T to) := by
  unfold ldS
  cases to with
  | none => exact ((h.oth rfl).oth rfl).oth rfl
  | some d =>
    dsimp only
    by_cases g : σ 2 d = 0
    · rw [if_pos g]; exact (((h.oth rfl).oth rfl).oth rfl).oth rfl
    · rw [if_neg g]; exact ((h.oth rfl).oth rfl).oth rfl
theorem I1.pp {nS nM : Nat} {K : Int} {σ : St} (h : I1 nS nM K σ) {c d : Nat} (hc : c < 24) (hd : d < 24) : (σ 4 c).toInt ≤ K ∧ (σ 5 c).toInt ≤ K ∧ (σ 6 d).toInt ≤ K := by
  have a := h.b4 hc
  have b := h.b4 hd
  omega
theorem ldI {nS nM : Nat} {K : Int} (hK : K ≤ 400000) {σ : St} (h : I1 nS nM K σ) {c : Nat} (hc : c < 24) {F T : Int32} {to : Option Nat} (ht : ∀ d, to = some d → d < 24 ∧ d ≠ c) (f0 : 0 ≤ F.toInt) (f1 : F.toInt ≤ (σ 4 c).toInt) (t0 : 0 ≤ T.toInt) (t1 : T.toInt ≤ (σ 5 c).toInt) (sh : ∀ d, to = some d → ¬ σ 2 d = 0 → (σ 6 d).toInt + F.toInt + T.toInt ≤ (tabH (σ 2 d)).toInt) : I1 nS nM K (ldS σ c F T to) := by
  obtain ⟨b1, b2, b3, b4⟩ := h.b4 hc
  have z4 := (h.1 c hc).2
  have z5 := (h.2.1 c hc).2
  have w1 : (σ 4 c - F).toInt = (σ 4 c).toInt - F.toInt := t_sub (by omega) (by omega)
  have w2 : (σ 5 c - T).toInt = (σ 5 c).toInt - T.toInt := t_sub (by omega) (by omega)
  have w3 : (F + T).toInt = F.toInt + T.toInt := t_add (by omega) (by omega)
  have s1 := h.s4 (c := c) (x := σ 4 c - F) hc (by omega) (fun q => by have := z4 q; omega)
  have s2 := s1.s5 (c := c) (x := σ 5 c - T) hc (by omega) (fun q => by rw [stU_k (by decide)] at q; have := z5 q; omega)
  rw [stU_k (by decide), w1, w2] at s2
  unfold ldS
  cases to with
  | none => exact (s2.mono (by omega)).oth rfl
  | some d =>
    obtain ⟨hd, hdc⟩ := ht d rfl
    obtain ⟨p1, p2, p3, p4⟩ := h.b4 hd
    have sh' := sh d rfl
    dsimp only
    by_cases g : σ 2 d = 0
    · rw [if_pos g]
      have v4 : (σ 4 d + F).toInt = (σ 4 d).toInt + F.toInt := t_add (by omega) (by omega)
      have v5 : (σ 5 d + T).toInt = (σ 5 d).toInt + T.toInt := t_add (by omega) (by omega)
      have g' : ∀ x y, stU (stU σ 4 c x) 5 c y 2 d = 0 := fun x y => by rw [stU_k (by decide), stU_k (by decide)]; exact g
      have s3 := s2.s4 (c := d) (x := σ 4 d + F) hd (by omega) (fun q => absurd (g' _ _) q)
      have s4 := s3.s5 (c := d) (x := σ 5 d + T) hd (by omega) (fun q => absurd (by rw [stU_k (by decide)]; exact g' _ _) q)
      rw [stU_k (by decide), stU_i hdc, stU_k (by decide), stU_i hdc, stU_k (by decide), v4, v5] at s4
      exact s4.mono (by omega)
    · rw [if_neg g]
      have sg := sh' g
      have v6 : (σ 6 d + (F + T)).toInt = (σ 6 d).toInt + F.toInt + T.toInt := by rw [t_add (by omega) (by omega), w3]; omega
      have s3 := s2.s6 (c := d) (x := σ 6 d + (F + T)) hd (by omega) (by rw [stU_k (by decide), stU_k (by decide)]; omega)
      rw [stU_k (by decide), stU_k (by decide), v6] at s3
      exact s3.mono (by omega)
theorem ldS_o {σ : St} {c k i : Nat} {F T : Int32} {to : Option Nat} (h4 : k ≠ 4) (h5 : k ≠ 5) (h6 : k ≠ 6) (h23 : k ≠ 23) : ldS σ c F T to k i = σ k i := by
  unfold ldS
  cases to with
  | none => dsimp only; rw [stU_k h23, stU_k h5, stU_k h4]
  | some d =>
    dsimp only
    by_cases g : σ 2 d = 0
    · rw [if_pos g, stU_k h5, stU_k h4, stU_k h5, stU_k h4]
    · rw [if_neg g, stU_k h6, stU_k h5, stU_k h4]
theorem ldS_4 {σ : St} {c a : Nat} {F T : Int32} {to : Option Nat} (ha : a ≠ c) : ldS σ c F T to 4 a = σ 4 a ∨ ldS σ c F T to 4 a = σ 4 a + F := by
  unfold ldS
  cases to with
  | none => dsimp only; left; rw [stU_k (by decide), stU_k (by decide), stU_i ha]
  | some d =>
    dsimp only
    by_cases g : σ 2 d = 0
    · rw [if_pos g, stU_k (by decide)]
      by_cases e : a = d
      · right; subst e; rw [stU_same]
      · left; rw [stU_i e, stU_k (by decide), stU_i ha]
    · left; rw [if_neg g, stU_k (by decide), stU_k (by decide), stU_i ha]
theorem ldS_5 {σ : St} {c a : Nat} {F T : Int32} {to : Option Nat} (ha : a ≠ c) : ldS σ c F T to 5 a = σ 5 a ∨ ldS σ c F T to 5 a = σ 5 a + T := by
  unfold ldS
  cases to with
  | none => dsimp only; left; rw [stU_k (by decide), stU_i ha, stU_k (by decide)]
  | some d =>
    dsimp only
    by_cases g : σ 2 d = 0
    · rw [if_pos g]
      by_cases e : a = d
      · right; subst e; rw [stU_same]
      · left; rw [stU_i e, stU_k (by decide), stU_i ha, stU_k (by decide)]
    · left; rw [if_neg g, stU_k (by decide), stU_i ha, stU_k (by decide)]
theorem ldS_6 {σ : St} {c b : Nat} {F T : Int32} {to : Option Nat} (hb : to ≠ some b) : ldS σ c F T to 6 b = σ 6 b := by
  unfold ldS
  cases to with
  | none => dsimp only; rw [stU_k (by decide), stU_k (by decide), stU_k (by decide)]
  | some d =>
    have hbd : b ≠ d := fun e => hb (by rw [e])
    dsimp only
    by_cases g : σ 2 d = 0
    · rw [if_pos g, stU_k (by decide), stU_k (by decide), stU_k (by decide), stU_k (by decide)]
    · rw [if_neg g, stU_i hbd, stU_k (by decide), stU_k (by decide)]
def bk (k p : Int32) : Int32 := if tabB k = 0 then 0 else p / tabB k
theorem backOf9 {nS nM hr : Nat} {σ : St} (h : I0 nS nM hr σ) {c : Nat} (hc : c < 24) (p : Int32) : sp_X2_backOf (ι c) p σ = some (bk (σ 2 c) p) := by
  obtain ⟨k, hk, e⟩ := kd h hc
  unfold sp_X2_backOf bk
  simp only [ι_nat (show c < 100000 by omega), ix2 hc (show 24 < 100000 by omega), sl]
  rw [e]
  simp only [ι_nat (show k < 100000 by omega), ix2 hk (show 4 < 100000 by omega)]
  by_cases q : tabB (ι k) = 0
  · rw [if_pos q, if_pos q]
  · rw [if_neg q, if_neg q, if_neg q]
theorem bk_v {k : Nat} (hk : k < 4) {p : Int32} (h0 : 0 ≤ p.toInt) : 0 ≤ (bk (ι k) p).toInt ∧ (bk (ι k) p).toInt ≤ p.toInt := by
  unfold bk
  rcases (show k = 0 ∨ k = 1 ∨ k = 2 ∨ k = 3 by omega) with rfl | rfl | rfl | rfl
  · rw [if_pos (by decide)]; exact ⟨Int.le_refl 0, h0⟩
  · rw [if_neg (by decide), t_div h0 (by decide), show (tabB (ι 1)).toInt = 5 by decide]; omega
  · rw [if_neg (by decide), t_div h0 (by decide), show (tabB (ι 2)).toInt = 10 by decide]; omega
  · rw [if_pos (by decide)]; exact ⟨Int.le_refl 0, h0⟩
theorem gb9 {nS nM hr : Nat} {σ : St} (h : I0 nS nM hr σ) {c n : Nat} (hc : c < 24) : sp_X0_giveBack_2 (n + 1) (ι c) σ = sp_X0_giveBack_2 n (ι (c + 1)) (match low (σ 2) c with | none => σ | some d => stU (stU σ 6 c (σ 6 c - bk (σ 2 c) (σ 6 c))) 5 d (σ 5 d + bk (σ 2 c) (σ 6 c))) := by
  have q : ¬ (24 : Int32) ≤ ι c := by rw [show (24 : Int32) = ι 24 from rfl, ι_le (by omega) (by omega)]; omega
  rw [sp_X0_giveBack_2, if_neg q, low9 hc]
  simp only [b1]
  cases hl : low (σ 2) c with
  | none => rw [show oI none = -1 from rfl, if_pos rfl, ι_one]
  | some d =>
    have hd := low_ok hc d hl
    rw [show oI (some d) = ι d from rfl, if_neg (oI_ne hd)]
    simp only [ι_nat (show c < 100000 by omega), ix2 hc (show 24 < 100000 by omega), backOf9 h hc, ι_nat (show d < 100000 by omega), ix2 hd (show 24 < 100000 by omega), sl, ι_one]
    rw [stU_k (by decide)]
theorem lowS_w {κ : Nat → Int32} {c w : Nat} {y : Option Nat} (hy : ∀ e, y = some e → κ e = 0) : ∀ e, lowS κ c w y = some e → κ e = 0 := by
  intro e he
  unfold lowS at he
  cases hb : bs c w with
  | none => rw [hb] at he; exact hy e he
  | some d =>
    rw [hb] at he
    dsimp only at he
    by_cases h : κ d = 0
    · rw [if_pos h] at he
      cases y with
      | none => cases he; exact h
      | some f =>
        dsimp only at he
        by_cases h2 : f ≤ d
        · rw [if_pos h2] at he; exact hy e he
        · rw [if_neg h2] at he; cases he; exact h
    · rw [if_neg h] at he; exact hy e he
theorem low_w {κ : Nat → Int32} {c d : Nat} (h : low κ c = some d) : κ d = 0 :=
  lowS_w (lowS_w (lowS_w (lowS_w (fun e he => by cases he)))) d h
theorem bk0 (p : Int32) : bk 0 p = 0 := by unfold bk; rw [if_pos (by decide)]
def sf (p f fr : Int32) : Int32 := iMin (iMin p f) fr
def sth (p F t fr : Int32) : Int32 := iMin (iMin ((p - F) / 2) t) (fr - F)
theorem ft9 {σ : St} {m : Nat} (hm : m < 20) (f : Int32) : sp_X4_freshTaken (ι m) f σ = some (sf (σ 18 m) f (σ 19 m - σ 20 m)) := by
  unfold sp_X4_freshTaken sf
  simp only [ι_nat (show m < 100000 by omega), ix2 hm (show 20 < 100000 by omega), sl]
theorem tt9 {σ : St} {m : Nat} (hm : m < 20) (F t : Int32) : sp_X4_thickTaken (ι m) F t σ = some (sth (σ 18 m) F t (σ 19 m - σ 20 m)) := by
  unfold sp_X4_thickTaken sth
  simp only [ι_nat (show m < 100000 by omega), ix2 hm (show 20 < 100000 by omega), sl]
def skS (k4 i4 k5 i5 k20 i20 : Nat) (F T : Int32) (σ : St) : St := stU (stU (stU σ k4 i4 (σ k4 i4 - F)) k5 i5 (σ k5 i5 - T)) k20 i20 (σ k20 i20 + (F + T))
theorem sk9 {nM : Nat} {σ : St} {m c n : Nat} (hM : nM ≤ 20) (h14 : σ 14 0 = ι nM) (hm : m < nM) (h15 : σ 15 m = 1) (hc : c < 24) (h16 : σ 16 m = ι c) {F T : Int32} (hF : F = sf (σ 18 m) (σ 4 c) (σ 19 m - σ 20 m)) (hT : T = sth (σ 18 m) F (σ 5 c) (σ 19 m - σ 20 m)) : sp_X0_skim_2 (n + 1) (ι m) σ = sp_X0_skim_2 n (ι (m + 1)) (skS 4 c 5 c 20 m F T σ) := by
  have q : ¬ ι nM ≤ ι m := by rw [ι_le (by omega) (by omega)]; omega
  have hm20 : m < 20 := by omega
  rw [sp_X0_skim_2, h14, if_neg q]
  simp only [ι_nat (show m < 100000 by omega), ix2 hm20 (show 20 < 100000 by omega), h15, h16, ι_nat (show c < 100000 by omega), ix2 hc (show 24 < 100000 by omega), sl, ft9 hm20, tt9 hm20, b1, ι_one]
  rw [if_pos trivial, ← hF, ← hT]
  unfold skS
  rw [stU_k (show (5 : Nat) ≠ 4 by decide), stU_k (show (20 : Nat) ≠ 5 by decide), stU_k (show (20 : Nat) ≠ 4 by decide)]
theorem sk_v {p f t st ta : Int32} (p0 : 0 ≤ p.toInt) (p1 : p.toInt ≤ 500) (f0 : 0 ≤ f.toInt) (t0 : 0 ≤ t.toInt) (s1 : st.toInt ≤ 5000) (a0 : 0 ≤ ta.toInt) (a1 : ta.toInt ≤ st.toInt) :
    0 ≤ (sf p f (st - ta)).toInt ∧ (sf p f (st - ta)).toInt ≤ f.toInt ∧ 0 ≤ (sth p (sf p f (st - ta)) t (st - ta)).toInt ∧ (sth p (sf p f (st - ta)) t (st - ta)).toInt ≤ t.toInt ∧ ta.toInt + (sf p f (st - ta)).toInt + (sth p (sf p f (st - ta)) t (st - ta)).toInt ≤ st.toInt := by
  have w1 : (st - ta).toInt = st.toInt - ta.toInt := t_sub (by omega) (by omega)
  have v : (sf p f (st - ta)).toInt = min (min p.toInt f.toInt) (st.toInt - ta.toInt) := by unfold sf; rw [iMin_int, iMin_int, w1]
  generalize sf p f (st - ta) = F at *
  have w2 : (p - F).toInt = p.toInt - F.toInt := t_sub (by omega) (by omega)
  have w3 : ((p - F) / 2).toInt = (p.toInt - F.toInt) / 2 := by rw [t_div (by omega) (by decide), w2]; rfl
  have w4 : (st - ta - F).toInt = st.toInt - ta.toInt - F.toInt := by rw [t_sub (by omega) (by omega), w1]
  have u : (sth p F t (st - ta)).toInt = min (min ((p.toInt - F.toInt) / 2) t.toInt) (st.toInt - ta.toInt - F.toInt) := by unfold sth; rw [iMin_int, iMin_int, w3, w4]
  rw [u]
  omega
def hS (k6 i6 k7 i7 k8 i8 k9 i9 : Nat) (H : Int32) (σ : St) : St :=
  let s1 := stU σ k8 i8 (σ k8 i8 + iMin (σ k6 i6 / 100) (σ k7 i7 - σ k8 i8))
  if σ k6 i6 ≤ H / 20 then s1 else stU s1 k9 i9 0
theorem harm9 {nS nM hr : Nat} {σ : St} (h : I0 nS nM hr σ) {c n : Nat} (hc : c < 24) : sp_X0_harmShores_2 (n + 1) (ι c) σ = sp_X0_harmShores_2 n (ι (c + 1)) (hS 6 c 7 c 8 c 9 c (tabH (σ 2 c)) σ) := by
  have q : ¬ (24 : Int32) ≤ ι c := by rw [show (24 : Int32) = ι 24 from rfl, ι_le (by omega) (by omega)]; omega
  obtain ⟨k, hk, ek⟩ := kd h hc
  have e1 : sp_X2_oilBirds (ι c) σ = some (stU σ 8 c (σ 8 c + iMin (σ 6 c / 100) (σ 7 c - σ 8 c))) := by
    unfold sp_X2_oilBirds
    simp only [ι_nat (show c < 100000 by omega), ix2 hc (show 24 < 100000 by omega), sl]
  rw [sp_X0_harmShores_2, if_neg q, e1]
  simp only [b1]
  unfold sp_X2_isTooDirty hS
  have a2 : ∀ x, stU σ 8 c x 2 c = ι k := fun x => by rw [stU_k (by decide)]; exact ek
  have a6 : ∀ x, stU σ 8 c x 6 c = σ 6 c := fun x => stU_k (by decide)
  simp only [ι_nat (show c < 100000 by omega), ix2 hc (show 24 < 100000 by omega), a2, a6, ek, ι_nat (show k < 100000 by omega), ix2 hk (show 4 < 100000 by omega), sl, ι_one]
  by_cases g : σ 6 c ≤ tabH (ι k) / 20
  · simp [g]
  · simp [g]
theorem hS_o {σ : St} {c k i : Nat} {H : Int32} (h : ¬ (k = 8 ∧ i = c)) (h2 : ¬ (k = 9 ∧ i = c)) : hS 6 c 7 c 8 c 9 c H σ k i = σ k i := by
  unfold hS
  try dsimp only
  by_cases g : σ 6 c ≤ H / 20
  · rw [if_pos g, stU_ite, if_neg h]
  · rw [if_neg g, stU_ite, if_neg h2, stU_ite, if_neg h]
theorem hS0 {nS nM hr : Nat} {σ : St} (h : I0 nS nM hr σ) {c : Nat} {H : Int32} : I0 nS nM hr (hS 6 c 7 c 8 c 9 c H σ) := by
  unfold hS
  try dsimp only
  by_cases g : σ 6 c ≤ H / 20
  · rw [if_pos g]; exact h.oth rfl
  · rw [if_neg g]; exact (h.oth rfl).oth rfl
theorem hS1 {nS nM : Nat} {K : Int} {σ : St} (h : I1 nS nM K σ) {c : Nat} {H : Int32} : I1 nS nM K (hS 6 c 7 c 8 c 9 c H σ) := by
  unfold hS
  try dsimp only
  by_cases g : σ 6 c ≤ H / 20
  · rw [if_pos g]; exact h.oth rfl
  · rw [if_neg g]; exact (h.oth rfl).oth rfl
theorem I0.hr {nS nM hr : Nat} {σ : St} (h : I0 nS nM hr σ) (hh : hr + 1 < 3000) : I0 nS nM (hr + 1) (stU σ 0 4 (ι (hr + 1))) := by
  obtain ⟨a1, a2, a3, a4, a5, a6, a7, a8, a9⟩ := h
  exact ⟨⟨hh, stU_same _ _ _ _⟩, a2, a3, a4, a5, a6, a7, a8, a9⟩
