/-! shores and birds -/
def hS (k6 i6 k7 i7 k8 i8 k9 i9 : Nat) (H : Int32) (σ : St) : St :=
  let s1 := stU σ k8 i8 (σ k8 i8 + iMin (σ k6 i6 / 100) (σ k7 i7 - σ k8 i8))
  if σ k6 i6 ≤ H / 20 then s1 else stU s1 k9 i9 0
theorem harm9 {nS nM hr : Nat} {σ : St} (h : I0 nS nM hr σ) {c n : Nat} (hc : c < 24) : sp_X0_harmShores_2 (n + 1) (ι c) σ = sp_X0_harmShores_2 n (ι (c + 1)) (hS 6 c 7 c 8 c 9 c (tabH (σ 2 c)) σ) := by
  have q : ¬ (24 : Int32) ≤ ι c := by rw [show (24 : Int32) = ι 24 from rfl, ι_le (by omega) (by omega)]; omega
  obtain ⟨k, hk, ek⟩ := kd h hc
  have e1 : sp_X2_oilBirds (ι c) σ = some (stU σ 8 c (σ 8 c + iMin (σ 6 c / 100) (σ 7 c - σ 8 c))) := by
    unfold sp_X2_oilBirds
    simp only [ι_nat (show c < 100000 by omega), ix2 hc (show 24 < 100000 by omega), sl]
  rw [sp_X0_harmShores_2, if_neg q, e1]
  simp only [b1]
  unfold sp_X2_isTooDirty hS
  have a2 : ∀ x, stU σ 8 c x 2 c = ι k := fun x => by rw [stU_k (by decide)]; exact ek
  have a6 : ∀ x, stU σ 8 c x 6 c = σ 6 c := fun x => stU_k (by decide)
  simp only [ι_nat (show c < 100000 by omega), ix2 hc (show 24 < 100000 by omega), a2, a6, ek, ι_nat (show k < 100000 by omega), ix2 hk (show 4 < 100000 by omega), sl, ι_one]
  by_cases g : σ 6 c ≤ tabH (ι k) / 20
  · simp [g]
  · simp [g]
