/-! ahead, and pass -/
theorem Iv.wd {nS nM hr : Nat} {B : Int} {σ δ : St} (h : Iv nS nM hr B σ δ) : ∃ w, w < 4 ∧ σ 0 5 = ι w := h.1.1.2.2.2.1
theorem ahead9 {nS nM hr : Nat} {σ : St} (h : I2 nS nM hr 400000 σ) {w : Nat} (hw : w < 4) (e5 : σ 0 5 = ι w) {c H : Nat} (hc : c < 24) (H1 : 1 ≤ H) (H2 : H ≤ 48) (hh : hr + H < 3000) (τ : St) :
    ∃ τ', sp_X9_ahead (ι c) (ι H) σ τ = some (.inl (hrsF nS nM w H hr σ 4 c + hrsF nS nM w H hr σ 5 c + hrsF nS nM w H hr σ 6 c, τ')) := by
  obtain ⟨τ1, l1, l2⟩ := like τ σ
  have hK : (400000 : Int) ≤ 400000 := Int.le_refl _
  have h1 := h.cg l2
  have e51 : τ1 0 5 = ι w := by rw [← e5]; exact l2 0 5 (Or.inr (Or.inl rfl))
  obtain ⟨p1, p2, p3⟩ := pass9 hK hw (H := H) (by omega) H 0 200 hr τ1 (by omega) (by omega) h1 e51 hh
  have ag := hrs_A hK hw H hr τ1 σ l2 h hh e5
  refine ⟨hrsF nS nM w H hr τ1, ?_⟩
  have p1' : sp_X0_letPass (ι H) τ1 = some (hrsF nS nM w H hr τ1) := p1
  unfold sp_X9_ahead sp_X2_oilOf
  rw [nc9 c hc, bxl, nrY (show (1 : Int32).toInt ≤ _ by rw [ι_toInt (by omega)]; show (1 : Int) ≤ _; omega) (show _ ≤ (48 : Int32).toInt by rw [ι_toInt (by omega)]; show _ ≤ (48 : Int); omega), bxl, l1, b1s, p1', b1s, ix hc (by omega), ix hc (by omega), ix hc (by omega), b1s, ι_nat (by omega)]
  rw [show hrsF nS nM w H hr τ1 4 c = hrsF nS nM w H hr σ 4 c from ag 4 c hc, show hrsF nS nM w H hr τ1 5 c = hrsF nS nM w H hr σ 5 c from ag 5 c hc, show hrsF nS nM w H hr τ1 6 c = hrsF nS nM w H hr σ 6 c from ag 6 c hc]
theorem passC9 {nS nM hr : Nat} {σ : St} (h : I2 nS nM hr 400000 σ) {w : Nat} (hw : w < 4) (e5 : σ 0 5 = ι w) {H : Nat} (H1 : 1 ≤ H) (H2 : H ≤ 48) (hh : hr + H ≤ 2000) :
    ∃ x, sp_X9_pass (ι H) σ = some (.inl (x, hrsF nS nM w H hr σ)) := by
  have hK : (400000 : Int) ≤ 400000 := Int.le_refl _
  obtain ⟨p1, p2, p3⟩ := pass9 hK hw (H := H) (by omega) H 0 200 hr σ (by omega) (by omega) h e5 (by omega)
  have p1' : sp_X0_letPass (ι H) σ = some (hrsF nS nM w H hr σ) := p1
  have e4 : σ 0 4 = ι hr := h.1.1.2
  have e : ι hr + ι H = ι (hr + H) := by
    rw [← Int32.toInt_inj, t_add (by rw [ι_toInt (by omega), ι_toInt (by omega)]; omega) (by rw [ι_toInt (by omega), ι_toInt (by omega)]; omega), ι_toInt (by omega), ι_toInt (by omega), ι_toInt (by omega)]
    omega
  refine ⟨hrsF nS nM w H hr σ 0 4, ?_⟩
  unfold sp_X9_pass
  rw [nrY (show (1 : Int32).toInt ≤ _ by rw [ι_toInt (by omega)]; show (1 : Int) ≤ _; omega) (show _ ≤ (48 : Int32).toInt by rw [ι_toInt (by omega)]; show _ ≤ (48 : Int); omega), bxl, e4, e, if_pos (by rw [show (2000 : Int32) = ι 2000 from rfl, ι_le (by omega) (by omega)]; exact hh), p1', b1s]
