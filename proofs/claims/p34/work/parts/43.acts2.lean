/-! the acts: why and use, the hours, and all of them -/
theorem act_use {i5 : Int32} {k nS nM hr : Nat} {B : Int} {br : Int32} {σ τ δ : St} {ν : Nat → Int32} (h : Iv nS nM hr B σ δ) (hb : br.toInt = B) (hB : B ≤ 9000 * (nS : Int)) (hh : hr ≤ 9 * k) (g e wf : Int32) {c : Nat} (hc : c < 24) (hf : (wf = 0 ∧ ¬ σ 2 c = 0) ∨ (wf = 1 ∧ σ 2 c = 0)) : GA k (sg_act_426 i5 (ι nS) (ι nM) br g e (ι c) wf 6 σ τ ν δ πI) := by
  obtain ⟨u, hu, e1⟩ := lowN g (n := 2) (by omega) (by omega)
  have e1' : sp_L_low g (2 : Int32) = some (ι u) := e1
  have z0 : (0 : Int32).toInt = 0 := rfl
  unfold sg_act_426
  rw [if_neg (show ¬ (6 : Int32) = 4 by decide), if_neg (show ¬ (6 : Int32) = 5 by decide), if_pos (show (6 : Int32) = 6 from rfl), e1', b1s]
  rcases hf with ⟨f0, w0⟩ | ⟨f1, w1⟩
  · obtain ⟨q1, q2, q3, q4⟩ := rules9n hc w0 hu
    rw [q1, b1s, q2, b1s, q3, b1s, (at_k hc).1, bt1s, q4, b2s, if_pos f0]
    unfold sg_act_682 sg_act_706 sg_act_762 sg_act_784
    rw [if_pos (show (-200 : Int32) = -200 from rfl), if_pos f0, if_pos (show (-200 : Int32) < 0 by decide)]
    exact act940 h hb hB (by omega)
  · obtain ⟨f, l, n, ⟨k1, k2, k3, k4⟩, q1, q2, q3, q4⟩ := rules9 h.1 hc w1 hu
    obtain ⟨u1, u2⟩ := use9 h hc w1 hu q4
    have nf : ¬ wf = 0 := by rw [f1]; decide
    rw [q1, b1s, q2, b1s, q3, b1s, (at_k hc).1, bt1s]
    by_cases gn : n ≤ 0
    · obtain ⟨x, σ', t1, t2, t3, t4, t5⟩ := u2 gn
      have n0 : n = 0 := by
        rw [Int32.le_iff_toInt_le, z0] at gn
        rw [Int32.lt_iff_toInt_lt, z0] at k4
        exact Int32.toInt_inj.mp (by rw [z0]; omega)
      have f0 : f = 0 := k1.mpr n0
      have nx : ¬ x < 0 := by rw [Int32.lt_iff_toInt_lt, z0]; omega
      have K : GA k (sg_act_762 i5 (ι nS) (ι nM) br (ι c) (σ 4 c) x σ' τ ν δ πI) := by
        unfold sg_act_762 sg_act_784
        rw [if_neg nx, (at_k hc).1, bt1s, if_pos t4]
        exact act940 t3 hb hB (by omega)
      have K2 : GA k (sg_act_706 i5 (ι nS) (ι nM) br (ι c) wf f l n (σ 4 c) x x σ' τ ν δ πI) := by
        unfold sg_act_706
        rw [if_pos (show x = x from rfl), if_neg nf, if_pos f0]
        unfold sg_act_730
        rw [if_pos n0]
        unfold sg_act_740
        rw [if_pos (show (1 : Int32) = 1 from rfl), if_neg k2, if_neg k3]
        exact K
      rw [t1, b2s, if_neg nf, if_pos gn]
      by_cases gu : u = 0
      · subst gu
        rw [if_pos rfl] at t2
        rw [if_pos (show ι 0 = 0 from rfl), ← t2]
        rw [← t2] at K2
        exact K2
      · rw [if_neg gu] at t2
        rw [if_neg (by rw [show (0 : Int32) = ι 0 from rfl, ι_inj (by omega) (by omega)]; exact gu), ← t2]
        exact K2
    · have n0 : ¬ n = 0 := fun q => gn (by rw [q]; decide)
      have f0 : ¬ f = 0 := fun q => n0 (k1.mp q)
      rw [u1 gn, b2s, if_neg nf, if_neg gn]
      unfold sg_act_682 sg_act_706
      rw [if_pos (show (-200 : Int32) = -200 from rfl), if_neg nf, if_neg f0]
      unfold sg_act_730
      rw [if_neg n0]
      unfold sg_act_740
      rw [if_pos (show (0 : Int32) = 0 from rfl), if_neg k2, if_neg k3]
      unfold sg_act_762 sg_act_784
      rw [if_pos (show (-200 : Int32) < 0 by decide)]
      exact act940 h hb hB (by omega)
theorem act_pass {i5 : Int32} {k nS nM hr : Nat} {B : Int} {br : Int32} {σ τ δ : St} {ν : Nat → Int32} (h : Iv nS nM hr B σ δ) (hb : br.toInt = B) (hB : B ≤ 9000 * (nS : Int)) (hh : hr ≤ 9 * k) (hk : k < 30) (g e wf wh : Int32) {c : Nat} (hc : c < 24) (w4 : ¬ wh = 4) (w5 : ¬ wh = 5) (w6 : ¬ wh = 6) : GA k (sg_act_426 i5 (ι nS) (ι nM) br g e (ι c) wf wh σ τ ν δ πI) := by
  have hK : (400000 : Int) ≤ 400000 := Int.le_refl _
  obtain ⟨w, hw, e5⟩ := h.wd
  obtain ⟨d, hd, e1⟩ := lowN (e >>> ((9 : Int32) &&& 31)) (n := 24) (by omega) (by omega)
  obtain ⟨r, hr7, e2⟩ := lowN g (n := 7) (by omega) (by omega)
  have e1' : sp_L_low (e >>> ((9 : Int32) &&& 31)) (24 : Int32) = some (ι d) := e1
  have e2' : sp_L_low g (7 : Int32) = some (ι r) := e2
  obtain ⟨ν1, n1⟩ := anew9 hK h.1 (by omega) hw e5 hc ν
  obtain ⟨ν2, n2⟩ := anew9 hK h.1 (by omega) hw e5 hd ν1
  obtain ⟨τ1, a1⟩ := ahead9 h.1 hw e5 hc (H := 3) (by omega) (by omega) (by omega) τ
  obtain ⟨τ2, a2⟩ := ahead9 h.1 hw e5 hc (H := 1) (by omega) (by omega) (by omega) τ1
  obtain ⟨τ3, a3⟩ := ahead9 h.1 hw e5 hd (H := 1) (by omega) (by omega) (by omega) τ2
  obtain ⟨v, p1⟩ := passC9 h.1 hw e5 (H := 1) (by omega) (by omega) (by omega)
  have h1 : Iv nS nM (hr + 1) B (hourF nS nM w hr σ) δ := U_hour h (by omega) hw e5
  have e51 := hour_w hK h.1 (by omega) hw e5
  obtain ⟨τ4, a4⟩ := ahead9 h1.1 hw e51 hc (H := 2) (by omega) (by omega) (by omega) τ3
  obtain ⟨v2, p2⟩ := passC9 h1.1 hw e51 (H := 2 + r) (by omega) (by omega) (by omega)
  have h2 := U_hrs hw (2 + r) (hr + 1) _ h1 (by omega) e51
  have a1' : sp_X9_ahead (ι c) (3 : Int32) σ τ = some (.inl (hrsF nS nM w 2 (hr + 1) (hourF nS nM w hr σ) 4 c + hrsF nS nM w 2 (hr + 1) (hourF nS nM w hr σ) 5 c + hrsF nS nM w 2 (hr + 1) (hourF nS nM w hr σ) 6 c, τ1)) := a1
  have a2' : sp_X9_ahead (ι c) (1 : Int32) σ τ1 = some (.inl (hourF nS nM w hr σ 4 c + hourF nS nM w hr σ 5 c + hourF nS nM w hr σ 6 c, τ2)) := a2
  have a3' : sp_X9_ahead (ι d) (1 : Int32) σ τ2 = some (.inl (hourF nS nM w hr σ 4 d + hourF nS nM w hr σ 5 d + hourF nS nM w hr σ 6 d, τ3)) := a3
  have p1' : sp_X9_pass (1 : Int32) σ = some (.inl (v, hourF nS nM w hr σ)) := p1
  have a4' : sp_X9_ahead (ι c) (2 : Int32) (hourF nS nM w hr σ) τ3 = some (.inl (hrsF nS nM w 2 (hr + 1) (hourF nS nM w hr σ) 4 c + hrsF nS nM w 2 (hr + 1) (hourF nS nM w hr σ) 5 c + hrsF nS nM w 2 (hr + 1) (hourF nS nM w hr σ) 6 c, τ4)) := a4
  have e2r : (2 : Int32) + ι r = ι (2 + r) := by
    rw [← Int32.toInt_inj, t_add (by rw [ι_toInt (by omega)]; show _ ≤ (2 : Int) + _; omega) (by rw [ι_toInt (by omega)]; show (2 : Int) + _ ≤ _; omega), ι_toInt (by omega), ι_toInt (by omega)]
    show (2 : Int) + _ = _
    omega
  unfold sg_act_426
  rw [if_neg w4, if_neg w5, if_neg w6, n1, bt2s, e1', b1s, n2, bt2s, a1', bt2s, a2', bt2s, if_pos rfl, a3', bt2s, if_pos rfl, p1', bt2s, (at_k hc).1, bt1s, (at_k hc).2.1, bt1s, (at_k hc).2.2.1, bt1s, if_pos rfl, (at_k hd).1, bt1s, (at_k hd).2.1, bt1s, (at_k hd).2.2.1, bt1s, if_pos rfl, a4', bt2s, if_pos rfl, e2', b1s, e2r, p2, bt2s]
  exact act940 h2 hb hB (by omega)
theorem act179 {i5 : Int32} {k nS nM hr : Nat} {B : Int} {br : Int32} {σ τ δ : St} {ν : Nat → Int32} (h : Iv nS nM hr B σ δ) (hb : br.toInt = B) (hB : B ≤ 9000 * (nS : Int)) (hh : hr ≤ 9 * k) (hk : k < 30) (g e wf : Int32) {c : Nat} (hc : c < 24) (hf : (wf = 0 ∧ ¬ σ 2 c = 0) ∨ (wf = 1 ∧ σ 2 c = 0)) {wh : Nat} (hwh : wh < 11) : GA k (sg_act_179 i5 (ι nS) (ι nM) br g e (ι c) wf (ι wh) σ τ ν δ πI) := by
  have hM := h.1.1.2.2.1.1
  have hS := h.1.1.2.1.1
  have z0 : (0 : Int32).toInt = 0 := rfl
  have nw : ¬ σ 2 c = 0 ↔ wf = 0 := by
    rcases hf with ⟨f, q⟩ | ⟨f, q⟩
    · exact ⟨fun _ => f, fun _ => q⟩
    · exact ⟨fun z => absurd q z, fun z => by rw [f] at z; exact absurd z (by decide)⟩
  unfold sg_act_179
  by_cases g0 : wh = 0
  · subst g0
    rw [if_pos (show ι 0 = 0 from rfl)]
    by_cases gf : wf = 0
    · rw [if_pos gf]
      exact act200 h hb hB hh hc g e (fun q => nw.mpr gf q.1)
    · rw [if_neg gf]
      by_cases gs : nS < 4
      · rw [if_neg (by rw [show (4 : Int32) = ι 4 from rfl, ι_le (by omega) (by omega)]; omega)]
        exact act201 h hb hB hh hc g e (Classical.byContradiction (fun q => gf (nw.mp q))) gs
      · rw [if_pos (by rw [show (4 : Int32) = ι 4 from rfl, ι_le (by omega) (by omega)]; omega)]
        exact act200 h hb hB hh hc g e (fun q => gs q.2)
  · rw [if_neg (by rw [show (0 : Int32) = ι 0 from rfl, ι_inj (by omega) (by omega)]; exact g0)]
    by_cases g3 : 3 ≤ wh
    · rw [if_pos (by rw [show (3 : Int32) = ι 3 from rfl, ι_le (by omega) (by omega)]; exact g3)]
      by_cases g33 : wh = 3
      · subst g33
        rw [if_pos (show ι 3 = 3 from rfl)]
        by_cases gm : nM < 20
        · rw [if_neg (by rw [show (20 : Int32) = ι 20 from rfl, ι_le (by omega) (by omega)]; omega)]
          obtain ⟨p, hp, ep⟩ := lowN g (n := 50) (by omega) (by omega)
          obtain ⟨t, ht, et⟩ := lowN e (n := 2) (by omega) (by omega)
          have ep' : sp_L_low g (50 : Int32) = some (ι p) := ep
          have et' : sp_L_low e (2 : Int32) = some (ι t) := et
          rw [ep', b1s, et', b1s, Int32.add_comm, ι_one]
          by_cases gt : ι t = 0
          · rw [if_pos gt]; exact act411 h hb hB hh gm (by omega) (by omega) _
          · rw [if_neg gt]; exact act411 h hb hB hh gm (by omega) (by omega) _
        · rw [if_pos (by rw [show (20 : Int32) = ι 20 from rfl, ι_le (by omega) (by omega)]; omega)]
          exact act_pass h hb hB hh hk g e wf _ hc (by decide) (by decide) (by decide)
      · rw [if_neg (by rw [show (3 : Int32) = ι 3 from rfl, ι_inj (by omega) (by omega)]; exact g33)]
        by_cases g4 : wh = 4
        · subst g4; exact act_wind h hb hB hh g e (ι c) wf
        · by_cases g5 : wh = 5
          · subst g5; exact act_mean h hb hB hh g e wf hc
          · by_cases g6 : wh = 6
            · subst g6; exact act_use h hb hB hh g e wf hc hf
            · exact act_pass h hb hB hh hk g e wf _ hc (by rw [show (4 : Int32) = ι 4 from rfl, ι_inj (by omega) (by omega)]; exact g4) (by rw [show (5 : Int32) = ι 5 from rfl, ι_inj (by omega) (by omega)]; exact g5) (by rw [show (6 : Int32) = ι 6 from rfl, ι_inj (by omega) (by omega)]; exact g6)
    · rw [if_neg (by rw [show (3 : Int32) = ι 3 from rfl, ι_le (by omega) (by omega)]; exact g3)]
      obtain ⟨x, ex, x0, x1⟩ := lowV g 9999 (by decide)
      obtain ⟨y, ey, y0, y1⟩ := lowV (e >>> ((6 : Int32) &&& 31)) 9999 (by decide)
      rw [ex, b1s, ey, b1s]
      have n2 : (-200 : Int32) < 0 := by decide
      have np : ∀ a, a < 100000 → ¬ ι a < 0 := fun a ha => by rw [show (0 : Int32) = ι 0 from rfl, ι_lt ha (by omega)]; omega
      by_cases g1 : wh = 1
      · subst g1
        obtain ⟨a0, a1⟩ := remV x0 (n := 4) (by decide)
        obtain ⟨b0, b1⟩ := remV y0 (n := 9) (by decide)
        rw [show (4 : Int32).toInt = 4 from rfl] at a1
        rw [show (9 : Int32).toInt = 9 from rfl] at b1
        obtain ⟨w, w1, w2⟩ := ofI a0 (by omega)
        have s1 : ((1 : Int32) + (y - y / 9 * 9)).toInt = 1 + (y - y / 9 * 9).toInt := t_add (by show _ ≤ (1 : Int) + _; omega) (by show (1 : Int) + _ ≤ _; omega)
        have T : sp_L_tryLay (ι 1 - 1) (ι c) x y σ = bc2 (sp_X9_boom (ι c) (ι w) ((1 : Int32) + (y - y / 9 * 9)) σ) (fun x1 σ2 => some (x1, σ2)) (fun k9 => if k9 = 1 then some (-300, σ) else if k9 = 2 then some (-100, σ) else if k9 = 3 then some (-200, σ) else none) := by
          unfold sp_L_tryLay
          rw [if_pos (show ι 1 - 1 = 0 from rfl), w2]
        rw [T]
        rcases boom9' h.1 (w := w) hc (by omega) (s := (1 : Int32) + (y - y / 9 * 9)) (by omega) (by omega) with ⟨q1, q2⟩ | q2
        · rw [q2, bc2l, b2s, if_neg (np nM (by omega)), if_pos rfl]
          exact act359p (U_mean h q1 (Or.inl rfl) (fun q => absurd q (by decide)) (fun q => absurd q (by decide))) hb hB hh (np nM (by omega))
        · rw [q2, bc2r, if_neg (show ¬ (3 : Nat) = 1 by decide), if_neg (show ¬ (3 : Nat) = 2 by decide), if_pos (show (3 : Nat) = 3 from rfl), b2s, if_pos n2, if_pos (show (-200 : Int32) = -200 from rfl), if_neg (show ¬ ι 1 = 2 by decide)]
          exact act359n h hb hB hh n2
      · have g2 : wh = 2 := by omega
        subst g2
        obtain ⟨a0, a1⟩ := remV x0 (n := 300) (by decide)
        obtain ⟨b0, b1⟩ := remV y0 (n := 900) (by decide)
        rw [show (300 : Int32).toInt = 300 from rfl] at a1
        rw [show (900 : Int32).toInt = 900 from rfl] at b1
        obtain ⟨p, p1, p2⟩ := ofI a0 (by omega)
        obtain ⟨q, q1, q2⟩ := ofI b0 (by omega)
        have T : sp_L_tryLay (ι 2 - 1) (ι c) x y σ = bc2 (sp_X9_skimmer (ι c) (ι (p + 1)) (ι (q + 1)) σ) (fun x1 σ2 => some (x1, σ2)) (fun k9 => if k9 = 1 then some (-300, σ) else if k9 = 2 then some (-100, σ) else if k9 = 3 then some (-200, σ) else none) := by
          unfold sp_L_tryLay
          rw [if_neg (show ¬ ι 2 - 1 = 0 by decide), if_pos (show ι 2 - 1 = 1 from rfl), p2, q2, Int32.add_comm 1 (ι p), Int32.add_comm 1 (ι q), ι_one, ι_one]
        rw [T]
        rcases skim9' h.1 hc (p := p + 1) (q := q + 1) (by omega) (by omega) (by omega) (by omega) with ⟨⟨k1, k2⟩, k3⟩ | ⟨k1, k3⟩
        · rw [k3, bc2l, b2s, if_neg (np nM (by omega)), if_pos rfl]
          exact act359p (U_mean h k2 (Or.inr (Or.inl rfl)) (fun _ => ⟨rfl, ⟨c, hc, rfl⟩, ⟨p + 1, by omega, rfl⟩, ⟨q + 1, by omega, rfl⟩⟩) (fun q => absurd q (by decide))) hb hB hh (np nM (by omega))
        · rw [k3, bc2r, if_neg (show ¬ (3 : Nat) = 1 by decide), if_neg (show ¬ (3 : Nat) = 2 by decide), if_pos (show (3 : Nat) = 3 from rfl), b2s, if_pos n2, if_pos (show (-200 : Int32) = -200 from rfl), if_pos (show ι 2 = 2 from rfl)]
          have K : GA k (sg_act_359 i5 (ι nS) (ι nM) br (-200) σ τ ν δ πI) := act359n h hb hB hh n2
          by_cases gf : wf = 0
          · rw [if_pos gf]; exact K
          · rw [if_neg gf, if_pos (by
              rw [show (20 : Int32) = ι 20 from rfl, ι_le (by omega) (by omega)]
              exact Nat.le_of_not_lt (fun z => k1 ⟨Classical.byContradiction (fun q => gf (nw.mp q)), z⟩))]
            exact K
theorem act_all {k : Nat} (hk : k < 30) (c0 c1 : Int32) {z : Z8} (h : RA k z) : ∃ z9, st_act z.1 z.2.1 z.2.2.1 (Int32.ofNat k) c0 c1 z.2.2.2.1 z.2.2.2.2.1 z.2.2.2.2.2.1 z.2.2.2.2.2.2.1 z.2.2.2.2.2.2.2 = some z9 ∧ RA (k + 1) z9 := by
  obtain ⟨nS, nM, hr, B, e1, e2, hb, hB, hh, hI, eπ⟩ := h
  obtain ⟨c, hc, ec⟩ := lowN c1 (n := 24) (by omega) (by omega)
  have ec' : sp_L_low c1 (24 : Int32) = some (ι c) := ec
  obtain ⟨y, hy, ey⟩ := lowN (c0 >>> ((20 : Int32) &&& 31)) (n := 11) (by omega) (by omega)
  have ey' : sp_L_low (c0 >>> ((20 : Int32) &&& 31)) (11 : Int32) = some (ι y) := ey
  rw [e1, e2, eπ]
  have K : ∀ wf : Int32, (wf = 0 ∧ ¬ z.2.2.2.1 2 c = 0) ∨ (wf = 1 ∧ z.2.2.2.1 2 c = 0) → GA k (sg_act_158 (Int32.ofNat k) (ι nS) (ι nM) z.2.2.1 c0 c1 (ι c) wf z.2.2.2.1 z.2.2.2.2.1 z.2.2.2.2.2.1 z.2.2.2.2.2.2.1 πI) := by
    intro wf hf
    unfold sg_act_158
    by_cases g : Int32.ofNat k = 0
    · rw [if_pos g]
      exact act179 hI hb hB hh hk c0 c1 wf hc hf (wh := 0) (by omega)
    · rw [if_neg g, ey', b1s]
      exact act179 hI hb hB hh hk c0 c1 wf hc hf hy
  unfold st_act
  rw [ec', b1s, (at_k hc).2.2.2.1, bt1s]
  by_cases g : z.2.2.2.1 2 c = 0
  · rw [if_pos g]; exact K 1 (Or.inr ⟨rfl, g⟩)
  · rw [if_neg g]; exact K 0 (Or.inl ⟨rfl, g⟩)
theorem RA_0 {σ : St} (h : SZ 6 σ) : RA 0 (0, 0, 0, σ, σI, νI, δI, πI) := ⟨0, 0, 0, 0, rfl, rfl, rfl, by decide, by decide, SZ_Iv h, rfl⟩
