/-! booms on a border -/
theorem ix2 {α : Type} {c n : Nat} {A B : α} (h : c < n) (hn : n < 100000) : (if ι c < 0 ∨ n ≤ c then A else B) = B := by
  refine if_neg ?_
  rw [show (0 : Int32) = ι 0 from rfl, ι_lt (by omega) (by omega)]
  omega
/-- a boom's border, as the class has it and as the reference has it -/
def Bo (nM : Nat) (σ μ : St) : Prop := ∀ m, m < nM → σ 15 m = 0 → ∃ c w, c < 24 ∧ w < 4 ∧ σ 16 m = ι c ∧ σ 17 m = ι w ∧ μ 10 m = ι (bor c w)
theorem boom_eq {nM : Nat} (hM : nM ≤ 20) {σ μ : St} (h14 : σ 14 0 = ι nM) (h10 : μ 0 10 = ι nM) (h15 : ∀ m, m < nM → μ 8 m = σ 15 m) (h20 : ∀ m, m < nM → μ 1 (148 + m) = σ 20 m) (hB : Bo nM σ μ) {c w : Nat} (hc : c < 24) (hw : w < 4) :
    ∀ (j m n n' : Nat), m + j = nM → j < n → j < n' → ∃ y : Option Nat, sp_X4_boomOn_15 σ (ι c) (ι w) (oI (bs c w)) (ι (op w)) n (ι m) = some (oI y) ∧ sp_X10_boomOn_2 μ (ι (bor c w)) n' (ι m) = some (oI y) ∧ ∀ k, y = some k → k < nM ∧ σ 15 k = 0 ∧ σ 20 k = 0 := by
  intro j
  induction j with
  | zero =>
    intro m n n' h1 h2 h3
    obtain ⟨n, rfl⟩ : ∃ q, n = q + 1 := ⟨n - 1, by omega⟩
    obtain ⟨n', rfl⟩ : ∃ q, n' = q + 1 := ⟨n' - 1, by omega⟩
    refine ⟨none, ?_, ?_, fun k hk => by cases hk⟩
    · rw [sp_X4_boomOn_15, h14, if_pos ((ι_le (by omega) (by omega)).mpr (by omega))]; rfl
    · rw [sp_X10_boomOn_2, h10, if_pos ((ι_le (by omega) (by omega)).mpr (by omega))]; rfl
  | succ j ih =>
    intro m n n' h1 h2 h3
    obtain ⟨n, rfl⟩ : ∃ q, n = q + 1 := ⟨n - 1, by omega⟩
    obtain ⟨n', rfl⟩ : ∃ q, n' = q + 1 := ⟨n' - 1, by omega⟩
    obtain ⟨y, e1, e2, e3⟩ := ih (m + 1) n n' (by omega) (by omega) (by omega)
    have hm : m < 20 := by omega
    have q1 : ¬ ι nM ≤ ι m := by rw [ι_le (by omega) (by omega)]; omega
    have i148 : (148 : Int32) + ι m = ι (148 + m) := ι_add 148 m
    rw [sp_X4_boomOn_15, sp_X10_boomOn_2, h14, h10, if_neg q1, if_neg q1]
    simp only [ix2 hm (show 20 < 100000 by omega), i148, ix2 (show 148 + m < 174 by omega) (show 174 < 100000 by omega), ι_nat (show m < 100000 by omega), ι_nat (show 148 + m < 100000 by omega), ι_one, h15 m (by omega), h20 m (by omega), e1, e2]
    by_cases a1 : σ 15 m = 0
    · obtain ⟨d, v, hd, hv, b1, b2, b3⟩ := hB m (by omega) a1
      rw [if_pos a1, if_pos a1, b1, b2, b3]
      have hi := bor_iff hc hw hd hv
      have hbl := bor_lt c hc w hw
      have hbl2 := bor_lt d hd v hv
      simp only [ι_inj (show bor d v < 100000 by omega) (show bor c w < 100000 by omega), ι_inj (show d < 100000 by omega) (show c < 100000 by omega), ι_inj (show v < 100000 by omega) (show w < 100000 by omega), ι_inj (show v < 100000 by omega) (show op w < 100000 by have := op_lt w hw; omega)]
      by_cases a2 : σ 20 m = 0
      · simp only [if_pos a2]
        by_cases hbb : bor d v = bor c w
        · refine ⟨some m, ?_, ?_, fun k hk => by cases hk; exact ⟨by omega, a1, a2⟩⟩
          · rcases hi.mp hbb with ⟨rfl, rfl⟩ | ⟨g1, rfl⟩
            · rw [if_pos rfl, if_pos rfl]; rfl
            · rw [g1]
              have : ¬ oI (some d) = -1 := oI_ne hd
              rw [if_neg this, show oI (some d) = ι d from rfl, if_pos rfl, if_pos rfl]
              by_cases u1 : d = c
              · by_cases u2 : op w = w
                · rw [if_pos u1, if_pos u2]; rfl
                · rw [if_pos u1, if_neg u2]; rfl
              · rw [if_neg u1]; rfl
          · rw [if_pos hbb]; rfl
        · refine ⟨y, ?_, ?_, e3⟩
          · have z1 : ¬ (d = c ∧ v = w) := fun q => hbb (hi.mpr (Or.inl q))
            have z2 : ¬ (bs c w = some d ∧ v = op w) := fun q => hbb (hi.mpr (Or.inr q))
            have key : (if oI (bs c w) = -1 then (some (oI y) : Option Int32) else if ι d = oI (bs c w) then (if v = op w then some (ι m) else some (oI y)) else some (oI y)) = some (oI y) := by
              cases hbs : bs c w with
              | none => rw [show oI none = -1 from rfl, if_pos rfl]
              | some t =>
                have ht := bs_lt hc hw hbs
                rw [show oI (some t) = ι t from rfl, if_neg (oI_ne ht)]
                by_cases u : ι d = ι t
                · rw [if_pos u]
                  have : d = t := (ι_inj (by omega) (by omega)).mp u
                  subst this
                  rw [if_neg (fun q => z2 ⟨hbs, q⟩)]
                · rw [if_neg u]
            rw [key]
            by_cases u1 : d = c
            · rw [if_pos u1, if_neg (fun q => z1 ⟨u1, q⟩)]
            · rw [if_neg u1]
          · rw [if_neg hbb]
      · simp only [if_neg a2]
        refine ⟨y, rfl, ?_, e3⟩
        by_cases hbb : bor d v = bor c w
        · rw [if_pos hbb]
        · rw [if_neg hbb]
    · rw [if_neg a1, if_neg a1]
      exact ⟨y, rfl, rfl, e3⟩
