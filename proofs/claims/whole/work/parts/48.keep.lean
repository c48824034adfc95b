/-! what an hour of the reference leaves: all rows but now (1) and going (5) -/
def Eo (μ1 μ : St) : Prop := ∀ k, k ≠ 1 → k ≠ 5 → μ1 k = μ k
theorem Eo.rf {μ : St} : Eo μ μ := fun _ _ _ => rfl
theorem Eo.s1 {μ1 μ : St} (h : Eo μ1 μ) {i : Nat} {x : Int32} : Eo (stU μ1 1 i x) μ := fun k h1 h5 => (show stU μ1 1 i x k = μ1 k from if_neg h1).trans (h k h1 h5)
theorem Eo.s5 {μ1 μ : St} (h : Eo μ1 μ) {i : Nat} {x : Int32} : Eo (stU μ1 5 i x) μ := fun k h1 h5 => (show stU μ1 5 i x k = μ1 k from if_neg h5).trans (h k h1 h5)
theorem Eo.tr {a b c : St} (h : Eo a b) (g : Eo b c) : Eo a c := fun k h1 h5 => (h k h1 h5).trans (g k h1 h5)
def Kk (o : Option St) (μ : St) : Prop := ∀ μ', o = some μ' → Eo μ' μ
theorem Kk.no {μ : St} : Kk none μ := fun _ h => by cases h
theorem Kk.so {μ μ1 : St} (h : Eo μ1 μ) : Kk (some μ1) μ := fun _ e => by cases e; exact h
theorem Kk.ite {c : Prop} [Decidable c] {a b : Option St} {μ : St} (h1 : Kk a μ) (h2 : Kk b μ) : Kk (if c then a else b) μ := by
  by_cases h : c
  · rw [if_pos h]; exact h1
  · rw [if_neg h]; exact h2
theorem Kk.slI {x : Int32} {f : Int32 → Option St} {μ : St} (h : ∀ y, Kk (f y) μ) : Kk (sl x f) μ := h x
theorem Kk.slS {a : St} {f : St → Option St} {μ : St} (ha : Eo a μ) (h : ∀ y, Eo y μ → Kk (f y) μ) : Kk (sl a f) μ := h a ha
theorem Kk.bI {x : Option Int32} {f : Int32 → Option St} {μ : St} (h : ∀ y, Kk (f y) μ) : Kk (b1 x f) μ := by
  cases x with
  | none => exact Kk.no
  | some y => exact h y
theorem Kk.bS {x : Option St} {f : St → Option St} {μ : St} (hx : Kk x μ) (h : ∀ y, Eo y μ → Kk (f y) μ) : Kk (b1 x f) μ := by
  cases x with
  | none => exact Kk.no
  | some y => exact h y (hx y rfl)
theorem kp_weather {μ0 μ : St} {p : Int32} (h : Eo μ μ0) : Kk (sp_X10_weather p μ) μ0 := by
  unfold sp_X10_weather
  repeat' with_reducible first
    | exact Kk.no
    | (refine Kk.so ?_; assumption)
    | (refine Kk.slS (Eo.s1 ?_) ?_; assumption; intro _ _)
    | (refine Kk.slS (Eo.s5 ?_) ?_; assumption; intro _ _)
    | (refine Kk.slI ?_; intro _)
    | (refine Kk.bI ?_; intro _)
    | refine Kk.ite ?_ ?_
theorem kp_look_193 {μ0 μ : St} {a : Int32} {b : Int32} {c : Int32} {d : Int32} {f : Int32} (h : Eo μ μ0) : Kk (sp_X10_look_193 a b c d f μ) μ0 := by
  unfold sp_X10_look_193
  repeat' with_reducible first
    | exact Kk.no
    | (refine Kk.so ?_; assumption)
    | (refine Kk.slS (Eo.s1 ?_) ?_; assumption; intro _ _)
    | (refine Kk.slS (Eo.s5 ?_) ?_; assumption; intro _ _)
    | (refine Kk.slI ?_; intro _)
    | (refine Kk.bI ?_; intro _)
    | refine Kk.ite ?_ ?_
theorem kp_look_178 {μ0 μ : St} {a : Int32} {b : Int32} {c : Int32} {d : Int32} (h : Eo μ μ0) : Kk (sp_X10_look_178 a b c d μ) μ0 := by
  unfold sp_X10_look_178
  repeat' with_reducible first
    | exact Kk.no
    | (refine Kk.so ?_; assumption)
    | (refine kp_look_193 ?_; assumption)
    | (refine Kk.slS (Eo.s1 ?_) ?_; assumption; intro _ _)
    | (refine Kk.slS (Eo.s5 ?_) ?_; assumption; intro _ _)
    | (refine Kk.slI ?_; intro _)
    | (refine Kk.bI ?_; intro _)
    | refine Kk.ite ?_ ?_
theorem kp_look_153 {μ0 μ : St} {a : Int32} {b : Int32} {c : Int32} {d : Int32} {f : Int32} (h : Eo μ μ0) : Kk (sp_X10_look_153 a b c d f μ) μ0 := by
  unfold sp_X10_look_153
  repeat' with_reducible first
    | exact Kk.no
    | (refine Kk.so ?_; assumption)
    | (refine kp_look_178 ?_; assumption)
    | (refine Kk.slS (Eo.s1 ?_) ?_; assumption; intro _ _)
    | (refine Kk.slS (Eo.s5 ?_) ?_; assumption; intro _ _)
    | (refine Kk.slI ?_; intro _)
    | (refine Kk.bI ?_; intro _)
    | refine Kk.ite ?_ ?_
theorem kp_look_152 {μ0 μ : St} {a : Int32} {b : Int32} {c : Int32} {d : Int32} (h : Eo μ μ0) : Kk (sp_X10_look_152 a b c d μ) μ0 := by
  unfold sp_X10_look_152
  repeat' with_reducible first
    | exact Kk.no
    | (refine Kk.so ?_; assumption)
    | (refine kp_look_153 ?_; assumption)
    | (refine Kk.slS (Eo.s1 ?_) ?_; assumption; intro _ _)
    | (refine Kk.slS (Eo.s5 ?_) ?_; assumption; intro _ _)
    | (refine Kk.slI ?_; intro _)
    | (refine Kk.bI ?_; intro _)
    | refine Kk.ite ?_ ?_
theorem kp_look_117 {μ0 μ : St} {a : Int32} {b : Int32} {c : Int32} {d : Int32} (h : Eo μ μ0) : Kk (sp_X10_look_117 a b c d μ) μ0 := by
  unfold sp_X10_look_117
  repeat' with_reducible first
    | exact Kk.no
    | (refine Kk.so ?_; assumption)
    | (refine kp_look_152 ?_; assumption)
    | (refine kp_look_153 ?_; assumption)
    | (refine Kk.slS (Eo.s1 ?_) ?_; assumption; intro _ _)
    | (refine Kk.slS (Eo.s5 ?_) ?_; assumption; intro _ _)
    | (refine Kk.slI ?_; intro _)
    | (refine Kk.bI ?_; intro _)
    | refine Kk.ite ?_ ?_
theorem kp_look_94 {μ0 μ : St} {a : Int32} {b : Int32} {c : Int32} (h : Eo μ μ0) : Kk (sp_X10_look_94 a b c μ) μ0 := by
  unfold sp_X10_look_94
  repeat' with_reducible first
    | exact Kk.no
    | (refine Kk.so ?_; assumption)
    | (refine kp_look_117 ?_; assumption)
    | (refine Kk.slS (Eo.s1 ?_) ?_; assumption; intro _ _)
    | (refine Kk.slS (Eo.s5 ?_) ?_; assumption; intro _ _)
    | (refine Kk.slI ?_; intro _)
    | (refine Kk.bI ?_; intro _)
    | refine Kk.ite ?_ ?_
theorem kp_look {μ0 μ : St} {p : Int32} (h : Eo μ μ0) : Kk (sp_X10_look p μ) μ0 := by
  unfold sp_X10_look
  repeat' with_reducible first
    | exact Kk.no
    | (refine Kk.so ?_; assumption)
    | (refine kp_look_94 ?_; assumption)
    | (refine Kk.slS (Eo.s1 ?_) ?_; assumption; intro _ _)
    | (refine Kk.slS (Eo.s5 ?_) ?_; assumption; intro _ _)
    | (refine Kk.slI ?_; intro _)
    | (refine Kk.bI ?_; intro _)
    | refine Kk.ite ?_ ?_
theorem kp_drift {μ0 μ : St} {p : Int32} (h : Eo μ μ0) : Kk (sp_X10_drift p μ) μ0 := by
  unfold sp_X10_drift
  repeat' with_reducible first
    | exact Kk.no
    | (refine Kk.so ?_; assumption)
    | (refine Kk.slS (Eo.s1 ?_) ?_; assumption; intro _ _)
    | (refine Kk.slS (Eo.s5 ?_) ?_; assumption; intro _ _)
    | (refine Kk.slI ?_; intro _)
    | (refine Kk.bI ?_; intro _)
    | refine Kk.ite ?_ ?_
theorem kp_skim {μ0 μ : St} {p : Int32} (h : Eo μ μ0) : Kk (sp_X10_skim p μ) μ0 := by
  unfold sp_X10_skim
  repeat' with_reducible first
    | exact Kk.no
    | (refine Kk.so ?_; assumption)
    | (refine Kk.slS (Eo.s1 ?_) ?_; assumption; intro _ _)
    | (refine Kk.slS (Eo.s5 ?_) ?_; assumption; intro _ _)
    | (refine Kk.slI ?_; intro _)
    | (refine Kk.bI ?_; intro _)
    | refine Kk.ite ?_ ?_
theorem kp_suffer {μ0 μ : St} {p : Int32} (h : Eo μ μ0) : Kk (sp_X10_suffer p μ) μ0 := by
  unfold sp_X10_suffer
  repeat' with_reducible first
    | exact Kk.no
    | (refine Kk.so ?_; assumption)
    | (refine Kk.slS (Eo.s1 ?_) ?_; assumption; intro _ _)
    | (refine Kk.slS (Eo.s5 ?_) ?_; assumption; intro _ _)
    | (refine Kk.slI ?_; intro _)
    | (refine Kk.bI ?_; intro _)
    | refine Kk.ite ?_ ?_
theorem kl_309 {μ0 : St} : ∀ (n : Nat) (y : Int32) (μ : St), Eo μ μ0 → Kk (sp_X10_hour_309 n y μ) μ0 := by
  intro n
  induction n with
  | zero => intro y μ h; exact Kk.no
  | succ n ih =>
    intro y μ h
    rw [sp_X10_hour_309]
    repeat' with_reducible first
      | exact Kk.no
      | (refine Kk.so ?_; assumption)
      | (refine ih _ _ ?_; assumption)
      | (refine Kk.bS (kp_suffer ?_) ?_; assumption; intro _ _)
      | (refine Kk.slS (Eo.s1 ?_) ?_; assumption; intro _ _)
      | (refine Kk.slS (Eo.s5 ?_) ?_; assumption; intro _ _)
      | (refine Kk.slI ?_; intro _)
      | (refine Kk.bI ?_; intro _)
      | refine Kk.ite ?_ ?_
theorem kl_278 {μ0 : St} : ∀ (n : Nat) (y : Int32) (μ : St), Eo μ μ0 → Kk (sp_X10_hour_278 n y μ) μ0 := by
  intro n
  induction n with
  | zero => intro y μ h; exact Kk.no
  | succ n ih =>
    intro y μ h
    rw [sp_X10_hour_278]
    repeat' with_reducible first
      | exact Kk.no
      | (refine Kk.so ?_; assumption)
      | (refine ih _ _ ?_; assumption)
      | (refine kl_309 _ _ _ ?_; assumption)
      | (refine Kk.bS (kp_skim ?_) ?_; assumption; intro _ _)
      | (refine Kk.slS (Eo.s1 ?_) ?_; assumption; intro _ _)
      | (refine Kk.slS (Eo.s5 ?_) ?_; assumption; intro _ _)
      | (refine Kk.slI ?_; intro _)
      | (refine Kk.bI ?_; intro _)
      | refine Kk.ite ?_ ?_
theorem kl_187 {μ0 : St} : ∀ (n : Nat) (y : Int32) (μ : St), Eo μ μ0 → Kk (sp_X10_hour_187 n y μ) μ0 := by
  intro n
  induction n with
  | zero => intro y μ h; exact Kk.no
  | succ n ih =>
    intro y μ h
    rw [sp_X10_hour_187]
    repeat' with_reducible first
      | exact Kk.no
      | (refine Kk.so ?_; assumption)
      | (refine ih _ _ ?_; assumption)
      | (refine kl_278 _ _ _ ?_; assumption)
      | (refine Kk.slS (Eo.s1 ?_) ?_; assumption; intro _ _)
      | (refine Kk.slS (Eo.s5 ?_) ?_; assumption; intro _ _)
      | (refine Kk.slI ?_; intro _)
      | (refine Kk.bI ?_; intro _)
      | refine Kk.ite ?_ ?_
theorem kl_168 {μ0 : St} : ∀ (n : Nat) (y : Int32) (μ : St), Eo μ μ0 → Kk (sp_X10_hour_168 n y μ) μ0 := by
  intro n
  induction n with
  | zero => intro y μ h; exact Kk.no
  | succ n ih =>
    intro y μ h
    rw [sp_X10_hour_168]
    repeat' with_reducible first
      | exact Kk.no
      | (refine Kk.so ?_; assumption)
      | (refine ih _ _ ?_; assumption)
      | (refine kl_187 _ _ _ ?_; assumption)
      | (refine Kk.bS (kp_drift ?_) ?_; assumption; intro _ _)
      | (refine Kk.slS (Eo.s1 ?_) ?_; assumption; intro _ _)
      | (refine Kk.slS (Eo.s5 ?_) ?_; assumption; intro _ _)
      | (refine Kk.slI ?_; intro _)
      | (refine Kk.bI ?_; intro _)
      | refine Kk.ite ?_ ?_
theorem kl_149 {μ0 : St} : ∀ (n : Nat) (y : Int32) (μ : St), Eo μ μ0 → Kk (sp_X10_hour_149 n y μ) μ0 := by
  intro n
  induction n with
  | zero => intro y μ h; exact Kk.no
  | succ n ih =>
    intro y μ h
    rw [sp_X10_hour_149]
    repeat' with_reducible first
      | exact Kk.no
      | (refine Kk.so ?_; assumption)
      | (refine ih _ _ ?_; assumption)
      | (refine kl_168 _ _ _ ?_; assumption)
      | (refine Kk.bS (kp_look ?_) ?_; assumption; intro _ _)
      | (refine Kk.slS (Eo.s1 ?_) ?_; assumption; intro _ _)
      | (refine Kk.slS (Eo.s5 ?_) ?_; assumption; intro _ _)
      | (refine Kk.slI ?_; intro _)
      | (refine Kk.bI ?_; intro _)
      | refine Kk.ite ?_ ?_
theorem kl_130 {μ0 : St} : ∀ (n : Nat) (y : Int32) (μ : St), Eo μ μ0 → Kk (sp_X10_hour_130 n y μ) μ0 := by
  intro n
  induction n with
  | zero => intro y μ h; exact Kk.no
  | succ n ih =>
    intro y μ h
    rw [sp_X10_hour_130]
    repeat' with_reducible first
      | exact Kk.no
      | (refine Kk.so ?_; assumption)
      | (refine ih _ _ ?_; assumption)
      | (refine kl_149 _ _ _ ?_; assumption)
      | (refine Kk.bS (kp_weather ?_) ?_; assumption; intro _ _)
      | (refine Kk.slS (Eo.s1 ?_) ?_; assumption; intro _ _)
      | (refine Kk.slS (Eo.s5 ?_) ?_; assumption; intro _ _)
      | (refine Kk.slI ?_; intro _)
      | (refine Kk.bI ?_; intro _)
      | refine Kk.ite ?_ ?_
theorem kl_14 {μ0 : St} : ∀ (n : Nat) (y : Int32) (μ : St), Eo μ μ0 → Kk (sp_X10_hour_14 n y μ) μ0 := by
  intro n
  induction n with
  | zero => intro y μ h; exact Kk.no
  | succ n ih =>
    intro y μ h
    rw [sp_X10_hour_14]
    repeat' with_reducible first
      | exact Kk.no
      | (refine Kk.so ?_; assumption)
      | (refine ih _ _ ?_; assumption)
      | (refine kl_130 _ _ _ ?_; assumption)
      | (refine Kk.slS (Eo.s1 ?_) ?_; assumption; intro _ _)
      | (refine Kk.slS (Eo.s5 ?_) ?_; assumption; intro _ _)
      | (refine Kk.slI ?_; intro _)
      | (refine Kk.bI ?_; intro _)
      | refine Kk.ite ?_ ?_
theorem keep_hour {μ μ' : St} (h : sp_X10_hour μ = some μ') : Eo μ' μ := by
  unfold sp_X10_hour at h
  exact kl_14 _ _ _ (Eo.rf.s1) μ' h
theorem keep_pass {H : Int32} : ∀ (n : Nat) (y : Int32) (μ : St) (x : Int32) (μ' : St), sp_X10_pass_50 H n y μ = some (x, μ') → Eo μ' μ := by
  intro n
  induction n with
  | zero => intro y μ x μ' h; cases h
  | succ n ih =>
    intro y μ x μ' h
    rw [sp_X10_pass_50] at h
    by_cases q : H ≤ y
    · rw [if_pos q] at h; cases h; exact Eo.rf
    · rw [if_neg q] at h
      cases g : sp_X10_hour μ with
      | none => rw [g] at h; cases h
      | some μ1 => rw [g, b1s] at h; exact (ih _ _ _ _ h).tr (keep_hour g)
