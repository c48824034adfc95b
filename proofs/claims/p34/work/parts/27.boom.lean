/-! the boom on a border: the first that lies there and is not broken -/
abbrev bmt (σ : St) (c w m : Nat) : Prop := σ 15 m = 0 ∧ σ 20 m = 0 ∧ ((σ 16 m = ι c ∧ σ 17 m = ι w) ∨ (¬ oI (bs c w) = -1 ∧ σ 16 m = oI (bs c w) ∧ σ 17 m = ι (op w)))
def bmN (σ : St) (c w : Nat) : Nat → Nat → Option Nat
  | 0, _ => none
  | j + 1, m => if bmt σ c w m then some m else bmN σ c w j (m + 1)
theorem boom9 {nM : Nat} (hM : nM ≤ 20) {σ : St} (h14 : σ 14 0 = ι nM) {c w : Nat} :
    ∀ (j m n : Nat), m + j = nM → j < n → sp_X4_boomOn_15 σ (ι c) (ι w) (oI (bs c w)) (ι (op w)) n (ι m) = some (oI (bmN σ c w j m)) := by
  intro j
  induction j with
  | zero =>
    intro m n h1 h2
    obtain ⟨n, rfl⟩ : ∃ q, n = q + 1 := ⟨n - 1, by omega⟩
    rw [sp_X4_boomOn_15, h14, if_pos ((ι_le (by omega) (by omega)).mpr (by omega))]; rfl
  | succ j ih =>
    intro m n h1 h2
    obtain ⟨n, rfl⟩ : ∃ q, n = q + 1 := ⟨n - 1, by omega⟩
    have hm : m < 20 := by omega
    have q1 : ¬ ι nM ≤ ι m := by rw [ι_le (by omega) (by omega)]; omega
    have e := ih (m + 1) n (by omega) (by omega)
    rw [sp_X4_boomOn_15, h14, if_neg q1]
    simp only [ix2 hm (show 20 < 100000 by omega), ι_nat (show m < 100000 by omega), ι_one, e]
    have T : bmN σ c w (j + 1) m = if bmt σ c w m then some m else bmN σ c w j (m + 1) := rfl
    rw [T]
    generalize bmN σ c w j (m + 1) = y
    by_cases a1 : σ 15 m = 0
    · rw [if_pos a1]
      by_cases a2 : σ 20 m = 0
      · rw [if_pos a2]
        by_cases a34 : σ 16 m = ι c ∧ σ 17 m = ι w
        · rw [if_pos a34.1, if_pos a34.2, if_pos ⟨a1, a2, Or.inl a34⟩]; rfl
        · have key : (if oI (bs c w) = -1 then (some (oI y) : Option Int32) else if σ 16 m = oI (bs c w) then (if σ 17 m = ι (op w) then some (ι m) else some (oI y)) else some (oI y)) = some (oI (if bmt σ c w m then some m else y)) := by
            by_cases u1 : oI (bs c w) = -1
            · rw [if_pos u1, if_neg (fun q => q.2.2.elim a34 (fun r => r.1 u1))]
            · rw [if_neg u1]
              by_cases u2 : σ 16 m = oI (bs c w)
              · rw [if_pos u2]
                by_cases u3 : σ 17 m = ι (op w)
                · rw [if_pos u3, if_pos ⟨a1, a2, Or.inr ⟨u1, u2, u3⟩⟩]; rfl
                · rw [if_neg u3, if_neg (fun q => q.2.2.elim a34 (fun r => u3 r.2.2))]
              · rw [if_neg u2, if_neg (fun q => q.2.2.elim a34 (fun r => u2 r.2.1))]
          rw [key]
          by_cases u1 : σ 16 m = ι c
          · rw [if_pos u1, if_neg (fun q => a34 ⟨u1, q⟩)]
          · rw [if_neg u1]
      · rw [if_neg a2, if_neg (fun q => a2 q.2.1)]
    · rw [if_neg a1, if_neg (fun q => a1 q.1)]
theorem boomOn9 {nM : Nat} (hM : nM ≤ 20) {σ : St} (h14 : σ 14 0 = ι nM) {c w : Nat} (hc : c < 24) (hw : w < 4) : sp_X4_boomOn (ι c) (ι w) σ = some (oI (bmN σ c w nM 0)) := by
  unfold sp_X4_boomOn
  rw [bs9 c hc w hw, b1s, op9 w hw, b1s]
  exact boom9 hM h14 nM 0 200 (by omega) (by omega)
theorem bmN_lt {σ : St} {c w k : Nat} : ∀ {j m : Nat}, bmN σ c w j m = some k → k < m + j ∧ bmt σ c w k
  | 0, _, h => by cases h
  | j + 1, m, h => by
    have T : bmN σ c w (j + 1) m = if bmt σ c w m then some m else bmN σ c w j (m + 1) := rfl
    rw [T] at h
    by_cases g : bmt σ c w m
    · rw [if_pos g] at h; cases h; exact ⟨by omega, g⟩
    · rw [if_neg g] at h
      obtain ⟨h1, h2⟩ := bmN_lt h
      exact ⟨by omega, h2⟩
theorem bmN_congr {σ τ : St} {c w : Nat} : ∀ {j m : Nat}, (∀ k, m ≤ k → k < m + j → (bmt σ c w k ↔ bmt τ c w k)) → bmN σ c w j m = bmN τ c w j m
  | 0, _, _ => rfl
  | j + 1, m, h => by
    have T : ∀ ξ : St, bmN ξ c w (j + 1) m = if bmt ξ c w m then some m else bmN ξ c w j (m + 1) := fun _ => rfl
    rw [T, T, bmN_congr (fun k h1 h2 => h k (by omega) (by omega))]
    by_cases g : bmt σ c w m
    · rw [if_pos g, if_pos ((h m (by omega) (by omega)).mp g)]
    · rw [if_neg g, if_neg (fun q => g ((h m (by omega) (by omega)).mpr q))]
/-- a boom lies in the way of one cell only -/
theorem bmt_one {σ : St} {a c w m : Nat} (ha : a < 24) (hc : c < 24) (hw : w < 4) (h1 : bmt σ a w m) (h2 : bmt σ c w m) : a = c := by
  have hne : ¬ ι w = ι (op w) := by
    rw [ι_inj (by omega) (by have := op_lt w hw; omega)]
    rcases (show w = 0 ∨ w = 1 ∨ w = 2 ∨ w = 3 by omega) with rfl | rfl | rfl | rfl <;> decide
  rcases h1.2.2 with ⟨x1, x2⟩ | ⟨x0, x1, x2⟩
  · rcases h2.2.2 with ⟨y1, y2⟩ | ⟨y0, y1, y2⟩
    · exact (ι_inj (by omega) (by omega)).mp (x1.symm.trans y1)
    · exact absurd (x2.symm.trans y2) hne
  · rcases h2.2.2 with ⟨y1, y2⟩ | ⟨y0, y1, y2⟩
    · exact absurd (y2.symm.trans x2) hne
    · have e := x1.symm.trans y1
      cases ea : bs a w with
      | none => rw [ea] at x0; exact absurd rfl x0
      | some d =>
        cases ec : bs c w with
        | none => rw [ec] at y0; exact absurd rfl y0
        | some d' =>
          rw [ea, ec] at e
          have hd := bs_lt ha hw ea
          have hd' := bs_lt hc hw ec
          have : d = d' := (ι_inj (by omega) (by omega)).mp e
          subst this
          have q1 := (bs_op a ha w hw d hd).mp ea
          have q2 := (bs_op c hc w hw d hd).mp ec
          rw [q1] at q2
          exact Option.some.inj q2
/-- the boom that breaks for one cell is nothing to another -/
theorem bm_stab {σ : St} {a c w b nM : Nat} (ha : a < 24) (hc : c < 24) (hw : w < 4) (hac : a ≠ c) (hb : bmt σ a w b) (x : Int32) : bmN (stU σ 20 b x) c w nM 0 = bmN σ c w nM 0 := by
  refine bmN_congr (fun k _ _ => ?_)
  by_cases e : k = b
  · subst e
    have n1 : ¬ bmt σ c w k := fun q => hac (bmt_one ha hc hw hb q)
    refine ⟨fun q => absurd ?_ n1, fun q => absurd q n1⟩
    refine ⟨?_, hb.2.1, ?_⟩
    · have := q.1; rwa [stU_k (by decide)] at this
    · have := q.2.2; rwa [stU_k (by decide), stU_k (by decide)] at this
  · unfold bmt
    rw [stU_k (by decide), stU_i e, stU_k (by decide), stU_k (by decide)]
