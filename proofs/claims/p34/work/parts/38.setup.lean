/-! the six cells at the start -/
def SZ (k : Nat) (σ : St) : Prop := I2 0 0 0 400000 σ ∧ (∀ c, c < 24 → σ 4 c = 0 ∧ σ 5 c = 0 ∧ σ 6 c = 0) ∧ (∀ c, c < 24 → σ 8 c = 0 ∧ 0 ≤ (σ 7 c).toInt ∧ (σ 7 c).toInt ≤ 30 * (k : Int)) ∧ De σ ∧ (∀ i, i < 7 → i ≠ 1 → σ 23 i = 0)
theorem any0 {σ : St} (e10 : σ 10 0 = ι 0) (y : Int32) : sp_X8_isAnyAt y σ = some 0 := by
  have : ∀ n, sp_X8_isAnyAt_2 σ y (n + 1) 0 = some 0 := fun n => by rw [sp_X8_isAnyAt_2, e10, if_pos (by decide)]
  exact this 199
theorem skm0 {σ : St} (e14 : σ 14 0 = ι 0) (y : Int32) : sp_X4_isSkimmerAt y σ = some 0 := by
  have : ∀ n, sp_X4_isSkimmerAt_2 σ y (n + 1) 0 = some 0 := fun n => by rw [sp_X4_isSkimmerAt_2, e14, if_pos (by decide)]
  exact this 199
def bcS (σ : St) (c k : Nat) : St := stU (stU (stU (stU (stU σ 2 c (ι k)) 3 c (if k = 0 then 20 else 0)) 7 c 0) 8 c 0) 9 c 0
theorem become9 {σ : St} {c k : Nat} (hc : c < 24) (hk : k < 4) : sp_X2_become (ι c) (ι k) σ = some (bcS σ c k) := by
  unfold sp_X2_become sp_X2_become_22 bcS
  simp only [ι_nat (show c < 100000 by omega), ix2 hc (show 24 < 100000 by omega), sls]
  by_cases g : k = 0
  · subst g; rfl
  · have n : ¬ ι k = 0 := by rw [show (0 : Int32) = ι 0 from rfl, ι_inj (by omega) (by omega)]; exact g
    rw [if_neg n, if_neg g]
theorem shore9 {σ : St} (h : I2 0 0 0 400000 σ) {c k : Nat} (hc : c < 24) (hk : k < 4) : ∃ x, sp_X9_shore (ι c) (ι k) σ = some (.inl (x, bcS σ c k)) := by
  refine ⟨σ 2 c, ?_⟩
  unfold sp_X9_shore
  rw [nc9 c hc, bxl, nrY (show (0 : Int32).toInt ≤ (ι k).toInt by rw [ι_toInt (by omega)]; show (0 : Int) ≤ _; omega) (show (ι k).toInt ≤ (3 : Int32).toInt by rw [ι_toInt (by omega)]; show _ ≤ (3 : Int); omega), bxl, h.1.1.2, if_pos (show ι 0 = (0 : Int32) from rfl), any0 h.1.2.1.2, b1s, if_pos rfl, skm0 h.1.2.2.1.2, b1s, if_pos rfl, ix hc (by omega), ι_nat (by omega), sls, become9 hc hk, b1s]
theorem SZ_bc {n : Nat} {σ : St} (h : SZ n σ) {c k : Nat} (hc : c < 24) (hk : k < 4) : SZ n (bcS σ c k) ∧ bcS σ c k 7 c = 0 := by
  obtain ⟨⟨i0, i1⟩, hz, hb, de, h23⟩ := h
  have o : ∀ j, j ≠ 2 → j ≠ 3 → j ≠ 7 → j ≠ 8 → j ≠ 9 → ∀ a, bcS σ c k j a = σ j a := fun j a1 a2 a3 a4 a5 a => by
    unfold bcS
    rw [stU_k a5, stU_k a4, stU_k a3, stU_k a2, stU_k a1]
  have e2 : ∀ a, bcS σ c k 2 a = if a = c then ι k else σ 2 a := fun a => by
    unfold bcS
    rw [stU_k (by decide), stU_k (by decide), stU_k (by decide), stU_k (by decide)]
    by_cases e : a = c
    · rw [if_pos e, e, stU_same]
    · rw [if_neg e, stU_i e]
  have k2 : ∀ a, a < 24 → ∃ j, j < 4 ∧ bcS σ c k 2 a = ι j := fun a ha => by
    rw [e2]
    by_cases e : a = c
    · rw [if_pos e]; exact ⟨k, hk, rfl⟩
    · rw [if_neg e]; exact i0.2.2.2.2.2.1 a ha
  have i0' : I0 0 0 0 (bcS σ c k) := ⟨i0.1, i0.2.1, i0.2.2.1, i0.2.2.2.1, i0.2.2.2.2.1, k2, fun s hs => absurd hs (Nat.not_lt_zero s), i0.2.2.2.2.2.2.2.1, fun m hm => absurd hm (Nat.not_lt_zero m)⟩
  have z0 : (0 : Int32).toInt = 0 := rfl
  have t : tot (bcS σ c k) = tot σ := by
    unfold tot
    rw [rs_k (k := 12) (fun i => o 12 (by decide) (by decide) (by decide) (by decide) (by decide) i), rs_k (k := 4) (fun i => o 4 (by decide) (by decide) (by decide) (by decide) (by decide) i), rs_k (k := 5) (fun i => o 5 (by decide) (by decide) (by decide) (by decide) (by decide) i), rs_k (k := 6) (fun i => o 6 (by decide) (by decide) (by decide) (by decide) (by decide) i)]
  have i1' : I1 0 0 400000 (bcS σ c k) := by
    refine ⟨fun a ha => ?_, fun a ha => ?_, fun a ha => ?_, fun s hs => ?_, fun m hm => ⟨fun q => absurd q (Nat.not_lt_zero m), ?_⟩, by rw [t]; exact i1.2.2.2.2.2⟩
    · rw [o 4 (by decide) (by decide) (by decide) (by decide) (by decide), (hz a ha).1]; exact ⟨Int.le_refl 0, fun _ => rfl⟩
    · rw [o 5 (by decide) (by decide) (by decide) (by decide) (by decide), (hz a ha).2.1]; exact ⟨Int.le_refl 0, fun _ => rfl⟩
    · rw [o 6 (by decide) (by decide) (by decide) (by decide) (by decide), (hz a ha).2.2]
      obtain ⟨j, hj, ej⟩ := k2 a ha
      rw [ej]
      exact ⟨Int.le_refl 0, (tabH_v hj).1⟩
    · rw [o 12 (by decide) (by decide) (by decide) (by decide) (by decide)]; exact i1.2.2.2.1 s hs
    · rw [o 20 (by decide) (by decide) (by decide) (by decide) (by decide)]; exact (i1.2.2.2.2.1 m hm).2
  refine ⟨⟨⟨i0', i1'⟩, fun a ha => ?_, fun a ha => ?_, fun a ha hn => ?_, fun i h1 h2 => ?_⟩, ?_⟩
  · rw [o 4 (by decide) (by decide) (by decide) (by decide) (by decide), o 5 (by decide) (by decide) (by decide) (by decide) (by decide), o 6 (by decide) (by decide) (by decide) (by decide) (by decide)]
    exact hz a ha
  · have e8 : bcS σ c k 8 a = 0 := by
      unfold bcS
      rw [stU_k (by decide)]
      by_cases e : a = c
      · rw [e, stU_same]
      · rw [stU_i e, stU_k (by decide), stU_k (by decide), stU_k (by decide)]; exact (hb a ha).1
    refine ⟨e8, ?_⟩
    unfold bcS
    rw [stU_k (by decide), stU_k (by decide)]
    by_cases e : a = c
    · rw [e, stU_same, z0]; omega
    · rw [stU_i e, stU_k (by decide), stU_k (by decide)]; exact (hb a ha).2
  · rw [e2] at hn
    unfold bcS
    rw [stU_k (by decide), stU_k (by decide), stU_k (by decide)]
    by_cases e : a = c
    · rw [if_pos e] at hn
      rw [e, stU_same, if_neg]
      intro q
      subst q
      exact hn rfl
    · rw [if_neg e] at hn
      rw [stU_i e, stU_k (by decide)]
      exact de a ha hn
  · rw [o 23 (by decide) (by decide) (by decide) (by decide) (by decide)]; exact h23 i h1 h2
  · unfold bcS
    rw [stU_k (by decide), stU_k (by decide), stU_same]
theorem SZ_up {n : Nat} {σ : St} (h : SZ n σ) : SZ (n + 1) σ := by
  obtain ⟨i2, hz, hb, de, h23⟩ := h
  exact ⟨i2, hz, fun c hc => ⟨(hb c hc).1, (hb c hc).2.1, by have := (hb c hc).2.2; omega⟩, de, h23⟩
theorem SZ_birds {n : Nat} {σ : St} (h : SZ n σ) {c : Nat} {x : Int32} (h0 : 0 ≤ x.toInt) (h1 : x.toInt ≤ 30) : SZ (n + 1) (stU σ 7 c x) := by
  obtain ⟨⟨i0, i1⟩, hz, hb, de, h23⟩ := h
  refine ⟨⟨i0.oth rfl, i1.oth rfl⟩, hz, fun a ha => ⟨(hb a ha).1, ?_⟩, de, h23⟩
  by_cases e : a = c
  · rw [e, stU_same]; omega
  · rw [stU_i e]
    have := (hb a ha).2
    omega
theorem su9 {k : Nat} (hk : k < 6) (c0 : Int32) {σ : St} (h : SZ k σ) (i5 : Int32) (τ : St) (ν : Nat → Int32) (δ : St) (π : St × Int64) : ∃ σ9, st_su 0 0 0 i5 c0 σ τ ν δ π = some σ9 ∧ SZ (k + 1) σ9 := by
  obtain ⟨c, hc, e1⟩ := lowN c0 (n := 24) (by omega) (by omega)
  obtain ⟨b, hb, e2⟩ := lowN (c0 >>> ((5 : Int32) &&& 31)) (n := 4) (by omega) (by omega)
  obtain ⟨d, hd, e3⟩ := lowN (c0 >>> ((7 : Int32) &&& 31)) (n := 30) (by omega) (by omega)
  obtain ⟨x, ex⟩ := shore9 h.1 hc hb
  obtain ⟨s1, s2⟩ := SZ_bc h hc hb
  have e2c : bcS σ c b 2 c = ι b := by
    unfold bcS
    rw [stU_k (by decide), stU_k (by decide), stU_k (by decide), stU_k (by decide), stU_same]
  unfold st_su
  rw [show (24 : Int32) = ι 24 from rfl, show (4 : Int32) = ι 4 from rfl, show (30 : Int32) = ι 30 from rfl, e1, b1s, e2, b1s, ex, bt2s, b1s, (at_k hc).2.2.2.1, bt1s, e2c]
  by_cases g : b = 0
  · subst g
    exact ⟨bcS σ c 0, by rw [if_pos (by decide)], SZ_up s1⟩
  · have n : ¬ ι b ≤ 0 := by rw [show (0 : Int32) = ι 0 from rfl, ι_le (by omega) (by omega)]; omega
    have w : ((1 : Int32) + ι d).toInt = 1 + (d : Int) := by rw [t_add (by rw [ι_toInt (by omega)]; show _ ≤ (1 : Int) + _; omega) (by rw [ι_toInt (by omega)]; show (1 : Int) + _ ≤ _; omega), ι_toInt (by omega)]; rfl
    have nz : ¬ ι b = 0 := by rw [show (0 : Int32) = ι 0 from rfl, ι_inj (by omega) (by omega)]; exact g
    have eb : sp_X9_birds (ι c) ((1 : Int32) + ι d) (bcS σ c b) = some (.inl ((1 : Int32) + ι d, stU (bcS σ c b) 7 c ((1 : Int32) + ι d))) := by
      unfold sp_X9_birds sp_X9_needShore
      rw [nc9 c hc, bxl, nrY (show (1 : Int32).toInt ≤ _ by rw [w]; show (1 : Int) ≤ _; omega) (show _ ≤ (100 : Int32).toInt by rw [w]; show _ ≤ (100 : Int); omega), bxl, isWater9 hc, b1s, e2c, if_neg nz, if_pos rfl, bxl, ix hc (by omega), ι_nat (by omega), s2, Int32.zero_add, if_pos (by rw [Int32.le_iff_toInt_le, w]; show _ ≤ (1000 : Int); omega), ix2 hc (by omega), ix2 hc (by omega), sls, ix2 hc (by omega), stU_same]
    refine ⟨stU (bcS σ c b) 7 c ((1 : Int32) + ι d), ?_, SZ_birds s1 (by rw [w]; omega) (by rw [w]; omega)⟩
    rw [if_neg n, b1s, e3, b1s, eb, bt2s]
theorem SZ_0 : SZ 0 σI := by
  have z : ∀ k i, k ≠ 3 → k ≠ 23 → σI k i = 0 := fun k i h1 h2 => by unfold σI; rw [if_neg h1, if_neg h2]
  have d3 : ∀ i, i < 24 → σI 3 i = 20 := fun i hi => by unfold σI; rw [if_pos rfl, if_pos hi]
  have i0 : I0 0 0 0 σI := ⟨⟨by decide, rfl⟩, ⟨by decide, rfl⟩, ⟨by decide, rfl⟩, ⟨0, by decide, rfl⟩, ⟨0, by decide, rfl⟩, fun c _ => ⟨0, by decide, rfl⟩, fun s hs => absurd hs (Nat.not_lt_zero s), fun s _ => ⟨0, by decide, rfl⟩, fun m hm => absurd hm (Nat.not_lt_zero m)⟩
  refine ⟨⟨i0, ?_⟩, fun c _ => ⟨rfl, rfl, rfl⟩, fun c _ => ⟨rfl, Int.le_refl 0, Int.le_refl 0⟩, fun c hc hn => absurd rfl hn, fun i h1 h2 => ?_⟩
  · refine ⟨fun c _ => ⟨Int.le_refl 0, fun _ => rfl⟩, fun c _ => ⟨Int.le_refl 0, fun _ => rfl⟩, fun c _ => ⟨Int.le_refl 0, by show (0 : Int) ≤ (tabH 0).toInt; decide⟩, fun s _ => ⟨Int.le_refl 0, fun _ => rfl⟩, fun m _ => ⟨fun q => absurd q (Nat.not_lt_zero m), fun _ => rfl⟩, ?_⟩
    have r : ∀ k n, k ≠ 3 → k ≠ 23 → rs σI k n = 0 := fun k n h1 h2 => by
      unfold rs
      rw [Sm_congr (g := fun _ => 0) (fun i _ => by rw [z k i h1 h2]; rfl)]
      induction n with
      | zero => rfl
      | succ n ih => show Sm n (fun _ => 0) + 0 = 0; rw [ih]; rfl
    unfold tot
    rw [r 12 4 (by decide) (by decide), r 4 24 (by decide) (by decide), r 5 24 (by decide) (by decide), r 6 24 (by decide) (by decide)]
    decide
  · show (if i = 1 then (-1 : Int32) else 0) = 0
    rw [if_neg h2]
theorem SZ_Iv {σ : St} (h : SZ 6 σ) : Iv 0 0 0 0 σ δI := by
  obtain ⟨i2, hz, hb, de, h23⟩ := h
  have z0 : (0 : Int32).toInt = 0 := rfl
  have r : ∀ k, (∀ c, c < 24 → σ k c = 0) → rs σ k 24 = 0 := fun k hk => by
    unfold rs
    rw [Sm_congr (g := fun _ => 0) (fun i hi => by rw [hk i hi]; rfl)]
    rfl
  have r12 : rs σ 12 4 = 0 := by
    have := rs12_eq i2.2 (show 0 ≤ 4 by omega)
    rw [← this]; rfl
  have w : Ws δI = 0 := rfl
  refine ⟨i2, ?_, fun c hc => ?_, de, fun m hm => absurd hm (Nat.not_lt_zero m), ⟨Int.le_refl 0, Int.le_refl 0, rfl⟩⟩
  · unfold Cq Bn bk5 oil
    rw [h23 0 (by decide) (by decide), h23 2 (by decide) (by decide), h23 3 (by decide) (by decide), h23 4 (by decide) (by decide), h23 5 (by decide) (by decide), h23 6 (by decide) (by decide), r 4 (fun c hc => (hz c hc).1), r 5 (fun c hc => (hz c hc).2.1), r 6 (fun c hc => (hz c hc).2.2), r12, w, z0]
    exact ⟨⟨Int.le_refl 0, Int.le_refl 0, Int.le_refl 0, Int.le_refl 0, Int.le_refl 0, Int.le_refl 0⟩, Int.le_refl 0, by decide, rfl, rfl⟩
  · obtain ⟨a1, a2, a3⟩ := hb c hc
    rw [a1, z0]
    exact ⟨Int.le_refl 0, a2, by omega⟩
