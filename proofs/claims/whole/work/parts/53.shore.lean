theorem u_shore {nS nM : Nat} {σ δ μ : St} {π : St × Int64} (h : RR nS nM 0 σ δ π μ) {c k : Nat} (hc : c < 24) (hk : k < 4) (hsh : ∀ s, s < nS → ¬ σ 11 s = ι c) : RR nS nM 0 (stU (stU (stU (stU (stU σ 2 c (ι k)) 3 c (if ι k = 0 then 20 else 0)) 7 c 0) 8 c 0) 9 c 0) δ π (stU (stU (stU (stU (stU μ 3 c (ι k)) 4 c 20) 1 (72 + c) 0) 1 (96 + c) 0) 1 (120 + c) 0) := by
  obtain ⟨⟨r, b, i0, i1⟩, hh, hx, hs, hd, hz, ht, h0, hp, hD, hP⟩ := h
  obtain ⟨z4, z5, z6⟩ := h0 rfl c hc
  have z : (0 : Int32).toInt = 0 := rfl
  have tn : 0 ≤ (tabH (ι k)).toInt := by
    have : ∀ k, k < 4 → 0 ≤ (tabH (ι k)).toInt := by decide
    exact this k hk
  have r1 := (((((r.upd dmu (k := 2) (i := c) (Or.inl hc) (x := ι k) (y := ι k) (fun _ => rfl)).left (k := 3) (i := c) id (x := if ι k = 0 then 20 else 0)).out1 (k := 4) (i := c) (x := 20) (fun e => by cases e)).upd dmu (k := 7) (i := c) (Or.inl ⟨trivial, hc⟩) (x := 0) (y := 0) (fun _ => rfl)).upd dmu (k := 8) (i := c) (Or.inl ⟨trivial, hc⟩) (x := 0) (y := 0) (fun _ => rfl)).upd dmu (k := 9) (i := c) (Or.inl ⟨trivial, hc⟩) (x := 0) (y := 0) (fun _ => rfl)
  obtain ⟨q1, q2, q3, q4, q5, q6, q7, q8, q9⟩ := i0
  obtain ⟨a1, a2, a3, a4, a5, a6⟩ := i1
  have k2 : ∀ a, a ≠ c → stU σ 2 c (ι k) 2 a = σ 2 a := fun a e => stU_i e
  refine ⟨⟨r1, ?_, ⟨q1, q2, q3, q4, q5, ?_, ?_, q8, q9⟩, ⟨?_, ?_, ?_, a4, a5, a6⟩⟩, hh, ?_, ?_, ?_, hz, ht, h0, hp, hD, hP⟩
  · exact (((((b : Bo nM σ μ).right (by decide)).right (by decide)).right (by decide)).right (by decide)).right (by decide)
  · exact pt_upd (P := fun _ v => ∃ j, j < 4 ∧ v = ι j) q6 (fun _ => ⟨k, hk, rfl⟩)
  · intro s hs1
    obtain ⟨d, e1, e2, e3⟩ := q7 s hs1
    have ne : d ≠ c := fun q => hsh s hs1 (by rw [e2, q])
    exact ⟨d, e1, e2, (k2 d ne).trans e3⟩
  · intro a ha
    show 0 ≤ (σ 4 a).toInt ∧ (¬ stU σ 2 c (ι k) 2 a = 0 → (σ 4 a).toInt = 0)
    refine ⟨(a1 a ha).1, fun _ => by rw [(h0 rfl a ha).1]; rfl⟩
  · intro a ha
    show 0 ≤ (σ 5 a).toInt ∧ (¬ stU σ 2 c (ι k) 2 a = 0 → (σ 5 a).toInt = 0)
    refine ⟨(a2 a ha).1, fun _ => by rw [(h0 rfl a ha).2.1]; rfl⟩
  · intro a ha
    show 0 ≤ (σ 6 a).toInt ∧ (σ 6 a).toInt ≤ (tabH (stU σ 2 c (ι k) 2 a)).toInt
    by_cases e : a = c
    · subst e; rw [stU_same, z6]; exact ⟨Int.le_refl 0, tn⟩
    · rw [k2 a e]; exact a3 a ha
  · intro _ a ha g
    show stU σ 7 c 0 7 a = 0 ∧ stU σ 8 c 0 8 a = 0 ∧ stU σ 9 c 0 9 a = 0
    by_cases e : a = c
    · subst e; exact ⟨stU_same _ _ _ _, stU_same _ _ _ _, stU_same _ _ _ _⟩
    · rw [stU_i e, stU_i e, stU_i e]
      have g1 : stU σ 2 c (ι k) 2 a = 0 := g
      rw [k2 a e] at g1
      exact hx trivial a ha g1
  · exact pt_upd (P := fun _ v => ∃ s, s < 8 ∧ v = ι s) hs (fun _ => ⟨0, by decide, rfl⟩)
  · intro a ha
    show stU σ 3 c (if ι k = 0 then 20 else 0) 3 a = if stU σ 2 c (ι k) 2 a = 0 then stU μ 4 c 20 4 a else 0
    by_cases e : a = c
    · subst e; rw [stU_same, stU_same, stU_same]
    · rw [stU_i e, stU_i e, stU_i e]; exact hd a ha
