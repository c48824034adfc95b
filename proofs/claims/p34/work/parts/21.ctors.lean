/-! constructors -/
def vec : List Nat → Nat → Nat
  | [], _ => 0
  | a :: _, 0 => a
  | _ :: t, k + 1 => vec t k
def σI : St := fun k i => if k = 3 then (if i < 24 then 20 else 0) else if k = 23 then (if i = 1 then -1 else 0) else 0
def δI : St := fun _ _ => 0
def πI : St × Int64 := (fun _ _ => 0, 0)
def νI : Nat → Int32 := fun _ => 0
/-- the first k places are set -/
def fillF (k : Nat) (f : Nat → Int32) (v : Int32) : Nat → Int32 := fun i => if i < k then v else f i
theorem fl_ge : ∀ k : Nat, k < 24 → ¬ (24 : Int32) ≤ Int32.ofNat k := by decide
theorem fl_in : ∀ k : Nat, k < 24 → ¬ (Int32.ofNat k < 0 ∨ 24 ≤ (Int32.ofNat k).toNatClampNeg) := by decide
theorem fl_nat : ∀ k : Nat, k < 24 → (Int32.ofNat k).toNatClampNeg = k := by decide
theorem fl_inc : ∀ k : Nat, k < 24 → Int32.ofNat k + Int32.ofInt 1 = Int32.ofNat (k + 1) := by decide
theorem fl_upd (k : Nat) (hk : k < 24) (f : Nat → Int32) (v : Int32) : upd (fillF k f v) (Int32.ofNat k).toNatClampNeg v = fillF (k + 1) f v := by
  rw [fl_nat k hk]
  funext i
  unfold upd fillF
  by_cases h1 : i = k
  · subst h1
    rw [if_pos rfl, if_pos (Nat.lt_succ_self _)]
  · rw [if_neg h1]
    by_cases h2 : i < k
    · rw [if_pos h2, if_pos (by omega)]
    · rw [if_neg h2, if_neg (by omega)]

set_option maxHeartbeats 4000000 in
theorem ct_fill {l : Launch} (hl : l.stackTraces = false) {γ : Gd} {a : Nat} {w : va_W} {f : Nat → Int32} {v : Int32} : Ct l γ yJ7_fill_53178 (Cond.code yJ7_fill_53178 cJ7_fill_53178 4 none) ({ frames := 0, cells := 0, slots := 0, locals := 0 } : Room) [.ref a, .int v] ((a, .inl (γ.2.1.1, 24, .inl (f))) :: w) (Pr none ((a, .inl (γ.2.1.1, 24, .inl (fun i => if i < 24 then v else f i))) :: w)) 0 0 := by
  refine Ct_of hl (by decide +kernel) rfl (Nat.le_of_ble_eq_true rfl) (L := [some (.ref a), some (.int v), none, none]) rfl ?_
  intro X Q K hQ
  generalize (((a, .inl (γ.2.1.1, 24, .inl (f))) :: w, Q) : MX) = M at K hQ ⊢
  refine r_iconst 0 (0 : Int32) K (dk_of tJ7_fill_53178 0 rfl) (by decide) ?_
  refine r_istore_n 1 2 [some (.ref a), some (.int v), some (.int 0), none] K (dk_of tJ7_fill_53178 1 rfl) rfl rfl rfl (by decide) ?_
  refine r_aload_n 2 0 K (dk_of tJ7_fill_53178 2 rfl) rfl rfl ?_
  refine r_alen 3 0 24 K (dk_of tJ7_fill_53178 3 rfl) rfl rfl ?_
  refine r_istore_n 4 3 [some (.ref a), some (.int v), some (.int 0), some (.int 24)] K (dk_of tJ7_fill_53178 4 rfl) rfl rfl rfl (by decide) ?_
  have key : ∀ (n k : Nat), k + n = 24 → V l γ X M ((a, .inl (γ.2.1.1, 24, .inl (fillF k f v))) :: w) [some (.ref a), some (.int v), some (.int (Int32.ofNat k)), some (.int 24)] 0 0 5 [] := by
    intro n
    induction n with
    | zero =>
      intro k hk
      have hk : k = 24 := by omega
      subst hk
      refine r_iload_n 5 2 K (dk_of tJ7_fill_53178 5 rfl) rfl rfl ?_
      refine r_iload_n 6 3 K (dk_of tJ7_fill_53178 6 rfl) rfl rfl ?_
      refine r_ic_ge 7 20 K (u := ()) (A := some ()) (B := none) (dk_of tJ7_fill_53178 7 rfl) (by decide) rfl (fun _ => ?_) (fun hR => nn_ hR)
      exact r_vret 20 K hQ (dk_of tJ7_fill_53178 14 rfl) (Nat.zero_le _) (Nat.zero_le _) ⟨rfl, rfl⟩
    | succ n ih =>
      intro k hk
      have hk4 : k < 24 := by omega
      refine r_iload_n 5 2 K (dk_of tJ7_fill_53178 5 rfl) rfl rfl ?_
      refine r_iload_n 6 3 K (dk_of tJ7_fill_53178 6 rfl) rfl rfl ?_
      refine r_ic_ge 7 20 K (u := ()) (A := none) (B := some ()) (dk_of tJ7_fill_53178 7 rfl) (by decide) (if_neg (fl_ge k hk4)).symm (fun hR => nn_ hR) (fun _ => ?_)
      refine r_aload_n 10 0 K (dk_of tJ7_fill_53178 8 rfl) rfl rfl ?_
      refine r_iload_n 11 2 K (dk_of tJ7_fill_53178 9 rfl) rfl rfl ?_
      refine r_iload_n 12 1 K (dk_of tJ7_fill_53178 10 rfl) rfl rfl ?_
      refine r_iast 13 0 K (dk_of tJ7_fill_53178 11 rfl) rfl (vpd (fl_in k hk4)) rfl ?_
      rw [fl_upd k hk4]
      refine r_iinc 14 2 (Int32.ofNat (k + 1)) [some (.ref a), some (.int v), some (.int (Int32.ofNat (k + 1))), some (.int 24)] K (dk_of tJ7_fill_53178 12 rfl) rfl (fl_inc k hk4) rfl rfl (by decide) ?_
      refine r_goto 17 5 K (dk_of tJ7_fill_53178 13 rfl) (by decide) ?_
      exact ih (k + 1) (by omega)
  exact key 24 0 rfl

set_option maxHeartbeats 4000000 in
set_option maxRecDepth 100000 in
theorem ct_X2_init {l : Launch} (hl : l.stackTraces = false) {γ : Gd} {q : Nat} {w : va_W} : Ct l γ yX2_init (Cond.code yX2_init cX2_init 1 none) ({ frames := 1, cells := 8, slots := 192, locals := 60 } : Room) [.ref q] ((q, .inr (2, [.null, .null, .null, .null, .null, .null, .null, .null])) :: w) (fun o w1 => o = .inl none ∧ ∃ q1 q2 q3 q4 q5 q6 q7 q8 : Nat, w1 = (q8, .inl (γ.2.1.1, 24, .inl (fun _ => 0))) :: (q7, .inl (γ.2.1.1, 24, .inl (fun _ => 0))) :: (q6, .inl (γ.2.1.1, 24, .inl (fun _ => 0))) :: (q5, .inl (γ.2.1.1, 24, .inl (fun _ => 0))) :: (q4, .inl (γ.2.1.1, 24, .inl (fun _ => 0))) :: (q3, .inl (γ.2.1.1, 24, .inl (fun _ => 0))) :: (q2, .inl (γ.2.1.1, 24, .inl (fun i => if i < 24 then 20 else 0))) :: (q1, .inl (γ.2.1.1, 24, .inl (fun _ => 0))) :: (q, .inr (2, [.ref q1, .ref q2, .ref q3, .ref q4, .ref q5, .ref q6, .ref q7, .ref q8])) :: w) 8 192 := by
  refine Ct_of hl (by decide +kernel) rfl (Nat.le_of_ble_eq_true rfl) (L := [some (.ref q)]) rfl ?_
  intro X Q K hQ
  generalize (((q, .inr (2, [.null, .null, .null, .null, .null, .null, .null, .null])) :: w, Q) : MX) = M at K hQ ⊢
  refine r_aload_n 0 0 K (dk_of tX2_init 0 rfl) rfl rfl ?_
  refine r_oinit 1 K (dk_of tX2_init 1 rfl) w40 w27 w28 rfl ?_
  refine r_aload_n 4 0 K (dk_of tX2_init 2 rfl) rfl rfl ?_
  refine r_bipush 5 (24 : Int32) K (dk_of tX2_init 3 rfl) (by decide) ?_
  refine r_newaF (a0 := (24, .inl (fun _ => 0))) (N := 24) (ti := 0) 7 K (dk_of tX2_init 4 rfl) w87 rfl rfl raI (fun _ => rfl) (by decide) rfl rfl rfl (fun q1 => ?_)
  refine r_putF (C := RX2) (T := TX2) (N := 8) (w' := (q1, .inl (γ.2.1.1, 24, .inl (fun _ => 0))) :: (q, .inr (2, [.ref q1, .null, .null, .null, .null, .null, .null, .null])) :: w) 9 1 0 K (dk_of tX2_init 5 rfl) w44 gwX2 tyX2_ok nmX2 rfl rfl (by decide) rfl rfl rfl rfl rfl rfl (Nat.le_of_ble_eq_true rfl) rfl ?_
  refine r_aload_n 12 0 K (dk_of tX2_init 6 rfl) rfl rfl ?_
  refine r_bipush 13 (24 : Int32) K (dk_of tX2_init 7 rfl) (by decide) ?_
  refine r_newaF (a0 := (24, .inl (fun _ => 0))) (N := 24) (ti := 0) 15 K (dk_of tX2_init 8 rfl) w87 rfl rfl raI (fun _ => rfl) (by decide) rfl rfl rfl (fun q2 => ?_)
  refine r_putF (C := RX2) (T := TX2) (N := 8) (w' := (q2, .inl (γ.2.1.1, 24, .inl (fun _ => 0))) :: (q1, .inl (γ.2.1.1, 24, .inl (fun _ => 0))) :: (q, .inr (2, [.ref q1, .ref q2, .null, .null, .null, .null, .null, .null])) :: w) 17 2 1 K (dk_of tX2_init 9 rfl) w46 gwX2 tyX2_ok nmX2 rfl rfl (by decide) rfl rfl rfl rfl rfl rfl (Nat.le_of_ble_eq_true rfl) rfl ?_
  refine r_aload_n 20 0 K (dk_of tX2_init 10 rfl) rfl rfl ?_
  refine r_getf (C := RX2) (T := TX2) (N := 8) 21 2 1 K (dk_of tX2_init 11 rfl) w46 gwX2 rfl rfl (by decide) rfl ?_
  refine r_bipush 24 (20 : Int32) K (dk_of tX2_init 12 rfl) (by decide) ?_
  refine r_cSv 26 [.ref q2, .int 20] [] ((q2, .inl (γ.2.1.1, 24, .inl (fun i => if i < 24 then 20 else 0))) :: (q1, .inl (γ.2.1.1, 24, .inl (fun _ => 0))) :: (q, .inr (2, [.ref q1, .ref q2, .null, .null, .null, .null, .null, .null])) :: w) K (ct_fill hl) cs_X2_18 ⟨rfl, rfl, rfl⟩ (dk_of tX2_init 13 rfl) rfl rfl rfl rfl ?_
  refine r_aload_n 29 0 K (dk_of tX2_init 14 rfl) rfl rfl ?_
  refine r_bipush 30 (24 : Int32) K (dk_of tX2_init 15 rfl) (by decide) ?_
  refine r_newaF (a0 := (24, .inl (fun _ => 0))) (N := 24) (ti := 0) 32 K (dk_of tX2_init 16 rfl) w87 rfl rfl raI (fun _ => rfl) (by decide) rfl rfl rfl (fun q3 => ?_)
  refine r_putF (C := RX2) (T := TX2) (N := 8) (w' := (q3, .inl (γ.2.1.1, 24, .inl (fun _ => 0))) :: (q2, .inl (γ.2.1.1, 24, .inl (fun i => if i < 24 then 20 else 0))) :: (q1, .inl (γ.2.1.1, 24, .inl (fun _ => 0))) :: (q, .inr (2, [.ref q1, .ref q2, .ref q3, .null, .null, .null, .null, .null])) :: w) 34 3 2 K (dk_of tX2_init 17 rfl) w49 gwX2 tyX2_ok nmX2 rfl rfl (by decide) rfl rfl rfl rfl rfl rfl (Nat.le_of_ble_eq_true rfl) rfl ?_
  refine r_aload_n 37 0 K (dk_of tX2_init 18 rfl) rfl rfl ?_
  refine r_bipush 38 (24 : Int32) K (dk_of tX2_init 19 rfl) (by decide) ?_
  refine r_newaF (a0 := (24, .inl (fun _ => 0))) (N := 24) (ti := 0) 40 K (dk_of tX2_init 20 rfl) w87 rfl rfl raI (fun _ => rfl) (by decide) rfl rfl rfl (fun q4 => ?_)
  refine r_putF (C := RX2) (T := TX2) (N := 8) (w' := (q4, .inl (γ.2.1.1, 24, .inl (fun _ => 0))) :: (q3, .inl (γ.2.1.1, 24, .inl (fun _ => 0))) :: (q2, .inl (γ.2.1.1, 24, .inl (fun i => if i < 24 then 20 else 0))) :: (q1, .inl (γ.2.1.1, 24, .inl (fun _ => 0))) :: (q, .inr (2, [.ref q1, .ref q2, .ref q3, .ref q4, .null, .null, .null, .null])) :: w) 42 4 3 K (dk_of tX2_init 21 rfl) w54 gwX2 tyX2_ok nmX2 rfl rfl (by decide) rfl rfl rfl rfl rfl rfl (Nat.le_of_ble_eq_true rfl) rfl ?_
  refine r_aload_n 45 0 K (dk_of tX2_init 22 rfl) rfl rfl ?_
  refine r_bipush 46 (24 : Int32) K (dk_of tX2_init 23 rfl) (by decide) ?_
  refine r_newaF (a0 := (24, .inl (fun _ => 0))) (N := 24) (ti := 0) 48 K (dk_of tX2_init 24 rfl) w87 rfl rfl raI (fun _ => rfl) (by decide) rfl rfl rfl (fun q5 => ?_)
  refine r_putF (C := RX2) (T := TX2) (N := 8) (w' := (q5, .inl (γ.2.1.1, 24, .inl (fun _ => 0))) :: (q4, .inl (γ.2.1.1, 24, .inl (fun _ => 0))) :: (q3, .inl (γ.2.1.1, 24, .inl (fun _ => 0))) :: (q2, .inl (γ.2.1.1, 24, .inl (fun i => if i < 24 then 20 else 0))) :: (q1, .inl (γ.2.1.1, 24, .inl (fun _ => 0))) :: (q, .inr (2, [.ref q1, .ref q2, .ref q3, .ref q4, .ref q5, .null, .null, .null])) :: w) 50 5 4 K (dk_of tX2_init 25 rfl) w59 gwX2 tyX2_ok nmX2 rfl rfl (by decide) rfl rfl rfl rfl rfl rfl (Nat.le_of_ble_eq_true rfl) rfl ?_
  refine r_aload_n 53 0 K (dk_of tX2_init 26 rfl) rfl rfl ?_
  refine r_bipush 54 (24 : Int32) K (dk_of tX2_init 27 rfl) (by decide) ?_
  refine r_newaF (a0 := (24, .inl (fun _ => 0))) (N := 24) (ti := 0) 56 K (dk_of tX2_init 28 rfl) w87 rfl rfl raI (fun _ => rfl) (by decide) rfl rfl rfl (fun q6 => ?_)
  refine r_putF (C := RX2) (T := TX2) (N := 8) (w' := (q6, .inl (γ.2.1.1, 24, .inl (fun _ => 0))) :: (q5, .inl (γ.2.1.1, 24, .inl (fun _ => 0))) :: (q4, .inl (γ.2.1.1, 24, .inl (fun _ => 0))) :: (q3, .inl (γ.2.1.1, 24, .inl (fun _ => 0))) :: (q2, .inl (γ.2.1.1, 24, .inl (fun i => if i < 24 then 20 else 0))) :: (q1, .inl (γ.2.1.1, 24, .inl (fun _ => 0))) :: (q, .inr (2, [.ref q1, .ref q2, .ref q3, .ref q4, .ref q5, .ref q6, .null, .null])) :: w) 58 6 5 K (dk_of tX2_init 29 rfl) w63 gwX2 tyX2_ok nmX2 rfl rfl (by decide) rfl rfl rfl rfl rfl rfl (Nat.le_of_ble_eq_true rfl) rfl ?_
  refine r_aload_n 61 0 K (dk_of tX2_init 30 rfl) rfl rfl ?_
  refine r_bipush 62 (24 : Int32) K (dk_of tX2_init 31 rfl) (by decide) ?_
  refine r_newaF (a0 := (24, .inl (fun _ => 0))) (N := 24) (ti := 0) 64 K (dk_of tX2_init 32 rfl) w87 rfl rfl raI (fun _ => rfl) (by decide) rfl rfl rfl (fun q7 => ?_)
  refine r_putF (C := RX2) (T := TX2) (N := 8) (w' := (q7, .inl (γ.2.1.1, 24, .inl (fun _ => 0))) :: (q6, .inl (γ.2.1.1, 24, .inl (fun _ => 0))) :: (q5, .inl (γ.2.1.1, 24, .inl (fun _ => 0))) :: (q4, .inl (γ.2.1.1, 24, .inl (fun _ => 0))) :: (q3, .inl (γ.2.1.1, 24, .inl (fun _ => 0))) :: (q2, .inl (γ.2.1.1, 24, .inl (fun i => if i < 24 then 20 else 0))) :: (q1, .inl (γ.2.1.1, 24, .inl (fun _ => 0))) :: (q, .inr (2, [.ref q1, .ref q2, .ref q3, .ref q4, .ref q5, .ref q6, .ref q7, .null])) :: w) 66 7 6 K (dk_of tX2_init 33 rfl) w65 gwX2 tyX2_ok nmX2 rfl rfl (by decide) rfl rfl rfl rfl rfl rfl (Nat.le_of_ble_eq_true rfl) rfl ?_
  refine r_aload_n 69 0 K (dk_of tX2_init 34 rfl) rfl rfl ?_
  refine r_bipush 70 (24 : Int32) K (dk_of tX2_init 35 rfl) (by decide) ?_
  refine r_newaF (a0 := (24, .inl (fun _ => 0))) (N := 24) (ti := 0) 72 K (dk_of tX2_init 36 rfl) w87 rfl rfl raI (fun _ => rfl) (by decide) rfl rfl rfl (fun q8 => ?_)
  refine r_putF (C := RX2) (T := TX2) (N := 8) (w' := (q8, .inl (γ.2.1.1, 24, .inl (fun _ => 0))) :: (q7, .inl (γ.2.1.1, 24, .inl (fun _ => 0))) :: (q6, .inl (γ.2.1.1, 24, .inl (fun _ => 0))) :: (q5, .inl (γ.2.1.1, 24, .inl (fun _ => 0))) :: (q4, .inl (γ.2.1.1, 24, .inl (fun _ => 0))) :: (q3, .inl (γ.2.1.1, 24, .inl (fun _ => 0))) :: (q2, .inl (γ.2.1.1, 24, .inl (fun i => if i < 24 then 20 else 0))) :: (q1, .inl (γ.2.1.1, 24, .inl (fun _ => 0))) :: (q, .inr (2, [.ref q1, .ref q2, .ref q3, .ref q4, .ref q5, .ref q6, .ref q7, .ref q8])) :: w) 74 8 7 K (dk_of tX2_init 37 rfl) w67 gwX2 tyX2_ok nmX2 rfl rfl (by decide) rfl rfl rfl rfl rfl rfl (Nat.le_of_ble_eq_true rfl) rfl ?_
  exact r_vret 77 K hQ (dk_of tX2_init 38 rfl) (Nat.le_of_ble_eq_true rfl) (Nat.le_of_ble_eq_true rfl) ⟨rfl, q1, q2, q3, q4, q5, q6, q7, q8, rfl⟩

set_option maxHeartbeats 4000000 in
set_option maxRecDepth 100000 in
theorem ct_X8_init {l : Launch} (hl : l.stackTraces = false) {γ : Gd} {q : Nat} {w : va_W} : Ct l γ yX8_init (Cond.code yX8_init cX8_init 1 none) ({ frames := 1, cells := 3, slots := 12, locals := 60 } : Room) [.ref q] ((q, .inr (8, [.int 0, .null, .null, .null])) :: w) (fun o w1 => o = .inl none ∧ ∃ q1 q2 q3 : Nat, w1 = (q3, .inl (γ.2.1.1, 4, .inl (fun _ => 0))) :: (q2, .inl (γ.2.1.1, 4, .inl (fun _ => 0))) :: (q1, .inl (γ.2.1.1, 4, .inl (fun _ => 0))) :: (q, .inr (8, [.int 0, .ref q1, .ref q2, .ref q3])) :: w) 3 12 := by
  refine Ct_of hl (by decide +kernel) rfl (Nat.le_of_ble_eq_true rfl) (L := [some (.ref q)]) rfl ?_
  intro X Q K hQ
  generalize (((q, .inr (8, [.int 0, .null, .null, .null])) :: w, Q) : MX) = M at K hQ ⊢
  refine r_aload_n 0 0 K (dk_of tX8_init 0 rfl) rfl rfl ?_
  refine r_oinit 1 K (dk_of tX8_init 1 rfl) w93 w27 w28 rfl ?_
  refine r_aload_n 4 0 K (dk_of tX8_init 2 rfl) rfl rfl ?_
  refine r_iconst 5 (4 : Int32) K (dk_of tX8_init 3 rfl) (by decide) ?_
  refine r_newaF (a0 := (4, .inl (fun _ => 0))) (N := 4) (ti := 0) 6 K (dk_of tX8_init 4 rfl) w87 rfl rfl raI (fun _ => rfl) (by decide) rfl rfl rfl (fun q1 => ?_)
  refine r_putF (C := RX8) (T := TX8) (N := 4) (w' := (q1, .inl (γ.2.1.1, 4, .inl (fun _ => 0))) :: (q, .inr (8, [.int 0, .ref q1, .null, .null])) :: w) 8 1 1 K (dk_of tX8_init 5 rfl) w98 gwX8 tyX8_ok nmX8 rfl rfl (by decide) rfl rfl rfl rfl rfl rfl (Nat.le_of_ble_eq_true rfl) rfl ?_
  refine r_aload_n 11 0 K (dk_of tX8_init 6 rfl) rfl rfl ?_
  refine r_iconst 12 (4 : Int32) K (dk_of tX8_init 7 rfl) (by decide) ?_
  refine r_newaF (a0 := (4, .inl (fun _ => 0))) (N := 4) (ti := 0) 13 K (dk_of tX8_init 8 rfl) w87 rfl rfl raI (fun _ => rfl) (by decide) rfl rfl rfl (fun q2 => ?_)
  refine r_putF (C := RX8) (T := TX8) (N := 4) (w' := (q2, .inl (γ.2.1.1, 4, .inl (fun _ => 0))) :: (q1, .inl (γ.2.1.1, 4, .inl (fun _ => 0))) :: (q, .inr (8, [.int 0, .ref q1, .ref q2, .null])) :: w) 15 2 2 K (dk_of tX8_init 9 rfl) w101 gwX8 tyX8_ok nmX8 rfl rfl (by decide) rfl rfl rfl rfl rfl rfl (Nat.le_of_ble_eq_true rfl) rfl ?_
  refine r_aload_n 18 0 K (dk_of tX8_init 10 rfl) rfl rfl ?_
  refine r_iconst 19 (4 : Int32) K (dk_of tX8_init 11 rfl) (by decide) ?_
  refine r_newaF (a0 := (4, .inl (fun _ => 0))) (N := 4) (ti := 0) 20 K (dk_of tX8_init 12 rfl) w87 rfl rfl raI (fun _ => rfl) (by decide) rfl rfl rfl (fun q3 => ?_)
  refine r_putF (C := RX8) (T := TX8) (N := 4) (w' := (q3, .inl (γ.2.1.1, 4, .inl (fun _ => 0))) :: (q2, .inl (γ.2.1.1, 4, .inl (fun _ => 0))) :: (q1, .inl (γ.2.1.1, 4, .inl (fun _ => 0))) :: (q, .inr (8, [.int 0, .ref q1, .ref q2, .ref q3])) :: w) 22 3 3 K (dk_of tX8_init 13 rfl) w104 gwX8 tyX8_ok nmX8 rfl rfl (by decide) rfl rfl rfl rfl rfl rfl (Nat.le_of_ble_eq_true rfl) rfl ?_
  exact r_vret 25 K hQ (dk_of tX8_init 14 rfl) (Nat.le_of_ble_eq_true rfl) (Nat.le_of_ble_eq_true rfl) ⟨rfl, q1, q2, q3, rfl⟩

set_option maxHeartbeats 4000000 in
set_option maxRecDepth 100000 in
theorem ct_X4_init {l : Launch} (hl : l.stackTraces = false) {γ : Gd} {q : Nat} {w : va_W} : Ct l γ yX4_init (Cond.code yX4_init cX4_init 1 none) ({ frames := 1, cells := 8, slots := 160, locals := 60 } : Room) [.ref q] ((q, .inr (4, [.int 0, .null, .null, .null, .null, .null, .null, .null, .null])) :: w) (fun o w1 => o = .inl none ∧ ∃ q1 q2 q3 q4 q5 q6 q7 q8 : Nat, w1 = (q8, .inl (γ.2.1.1, 20, .inl (fun _ => 0))) :: (q7, .inl (γ.2.1.2.1, 20, .inl (fun _ => 0))) :: (q6, .inl (γ.2.1.1, 20, .inl (fun _ => 0))) :: (q5, .inl (γ.2.1.1, 20, .inl (fun _ => 0))) :: (q4, .inl (γ.2.1.1, 20, .inl (fun _ => 0))) :: (q3, .inl (γ.2.1.1, 20, .inl (fun _ => 0))) :: (q2, .inl (γ.2.1.1, 20, .inl (fun _ => 0))) :: (q1, .inl (γ.2.1.1, 20, .inl (fun _ => 0))) :: (q, .inr (4, [.int 0, .ref q1, .ref q2, .ref q3, .ref q4, .ref q5, .ref q6, .ref q7, .ref q8])) :: w) 8 160 := by
  refine Ct_of hl (by decide +kernel) rfl (Nat.le_of_ble_eq_true rfl) (L := [some (.ref q)]) rfl ?_
  intro X Q K hQ
  generalize (((q, .inr (4, [.int 0, .null, .null, .null, .null, .null, .null, .null, .null])) :: w, Q) : MX) = M at K hQ ⊢
  refine r_aload_n 0 0 K (dk_of tX4_init 0 rfl) rfl rfl ?_
  refine r_oinit 1 K (dk_of tX4_init 1 rfl) w120 w27 w28 rfl ?_
  refine r_aload_n 4 0 K (dk_of tX4_init 2 rfl) rfl rfl ?_
  refine r_bipush 5 (20 : Int32) K (dk_of tX4_init 3 rfl) (by decide) ?_
  refine r_newaF (a0 := (20, .inl (fun _ => 0))) (N := 20) (ti := 0) 7 K (dk_of tX4_init 4 rfl) w87 rfl rfl raI (fun _ => rfl) (by decide) rfl rfl rfl (fun q1 => ?_)
  refine r_putF (C := RX4) (T := TX4) (N := 9) (w' := (q1, .inl (γ.2.1.1, 20, .inl (fun _ => 0))) :: (q, .inr (4, [.int 0, .ref q1, .null, .null, .null, .null, .null, .null, .null])) :: w) 9 1 1 K (dk_of tX4_init 5 rfl) w125 gwX4 tyX4_ok nmX4 rfl rfl (by decide) rfl rfl rfl rfl rfl rfl (Nat.le_of_ble_eq_true rfl) rfl ?_
  refine r_aload_n 12 0 K (dk_of tX4_init 6 rfl) rfl rfl ?_
  refine r_bipush 13 (20 : Int32) K (dk_of tX4_init 7 rfl) (by decide) ?_
  refine r_newaF (a0 := (20, .inl (fun _ => 0))) (N := 20) (ti := 0) 15 K (dk_of tX4_init 8 rfl) w87 rfl rfl raI (fun _ => rfl) (by decide) rfl rfl rfl (fun q2 => ?_)
  refine r_putF (C := RX4) (T := TX4) (N := 9) (w' := (q2, .inl (γ.2.1.1, 20, .inl (fun _ => 0))) :: (q1, .inl (γ.2.1.1, 20, .inl (fun _ => 0))) :: (q, .inr (4, [.int 0, .ref q1, .ref q2, .null, .null, .null, .null, .null, .null])) :: w) 17 2 2 K (dk_of tX4_init 9 rfl) w128 gwX4 tyX4_ok nmX4 rfl rfl (by decide) rfl rfl rfl rfl rfl rfl (Nat.le_of_ble_eq_true rfl) rfl ?_
  refine r_aload_n 20 0 K (dk_of tX4_init 10 rfl) rfl rfl ?_
  refine r_bipush 21 (20 : Int32) K (dk_of tX4_init 11 rfl) (by decide) ?_
  refine r_newaF (a0 := (20, .inl (fun _ => 0))) (N := 20) (ti := 0) 23 K (dk_of tX4_init 12 rfl) w87 rfl rfl raI (fun _ => rfl) (by decide) rfl rfl rfl (fun q3 => ?_)
  refine r_putF (C := RX4) (T := TX4) (N := 9) (w' := (q3, .inl (γ.2.1.1, 20, .inl (fun _ => 0))) :: (q2, .inl (γ.2.1.1, 20, .inl (fun _ => 0))) :: (q1, .inl (γ.2.1.1, 20, .inl (fun _ => 0))) :: (q, .inr (4, [.int 0, .ref q1, .ref q2, .ref q3, .null, .null, .null, .null, .null])) :: w) 25 3 3 K (dk_of tX4_init 13 rfl) w131 gwX4 tyX4_ok nmX4 rfl rfl (by decide) rfl rfl rfl rfl rfl rfl (Nat.le_of_ble_eq_true rfl) rfl ?_
  refine r_aload_n 28 0 K (dk_of tX4_init 14 rfl) rfl rfl ?_
  refine r_bipush 29 (20 : Int32) K (dk_of tX4_init 15 rfl) (by decide) ?_
  refine r_newaF (a0 := (20, .inl (fun _ => 0))) (N := 20) (ti := 0) 31 K (dk_of tX4_init 16 rfl) w87 rfl rfl raI (fun _ => rfl) (by decide) rfl rfl rfl (fun q4 => ?_)
  refine r_putF (C := RX4) (T := TX4) (N := 9) (w' := (q4, .inl (γ.2.1.1, 20, .inl (fun _ => 0))) :: (q3, .inl (γ.2.1.1, 20, .inl (fun _ => 0))) :: (q2, .inl (γ.2.1.1, 20, .inl (fun _ => 0))) :: (q1, .inl (γ.2.1.1, 20, .inl (fun _ => 0))) :: (q, .inr (4, [.int 0, .ref q1, .ref q2, .ref q3, .ref q4, .null, .null, .null, .null])) :: w) 33 4 4 K (dk_of tX4_init 17 rfl) w133 gwX4 tyX4_ok nmX4 rfl rfl (by decide) rfl rfl rfl rfl rfl rfl (Nat.le_of_ble_eq_true rfl) rfl ?_
  refine r_aload_n 36 0 K (dk_of tX4_init 18 rfl) rfl rfl ?_
  refine r_bipush 37 (20 : Int32) K (dk_of tX4_init 19 rfl) (by decide) ?_
  refine r_newaF (a0 := (20, .inl (fun _ => 0))) (N := 20) (ti := 0) 39 K (dk_of tX4_init 20 rfl) w87 rfl rfl raI (fun _ => rfl) (by decide) rfl rfl rfl (fun q5 => ?_)
  refine r_putF (C := RX4) (T := TX4) (N := 9) (w' := (q5, .inl (γ.2.1.1, 20, .inl (fun _ => 0))) :: (q4, .inl (γ.2.1.1, 20, .inl (fun _ => 0))) :: (q3, .inl (γ.2.1.1, 20, .inl (fun _ => 0))) :: (q2, .inl (γ.2.1.1, 20, .inl (fun _ => 0))) :: (q1, .inl (γ.2.1.1, 20, .inl (fun _ => 0))) :: (q, .inr (4, [.int 0, .ref q1, .ref q2, .ref q3, .ref q4, .ref q5, .null, .null, .null])) :: w) 41 5 5 K (dk_of tX4_init 21 rfl) w137 gwX4 tyX4_ok nmX4 rfl rfl (by decide) rfl rfl rfl rfl rfl rfl (Nat.le_of_ble_eq_true rfl) rfl ?_
  refine r_aload_n 44 0 K (dk_of tX4_init 22 rfl) rfl rfl ?_
  refine r_bipush 45 (20 : Int32) K (dk_of tX4_init 23 rfl) (by decide) ?_
  refine r_newaF (a0 := (20, .inl (fun _ => 0))) (N := 20) (ti := 0) 47 K (dk_of tX4_init 24 rfl) w87 rfl rfl raI (fun _ => rfl) (by decide) rfl rfl rfl (fun q6 => ?_)
  refine r_putF (C := RX4) (T := TX4) (N := 9) (w' := (q6, .inl (γ.2.1.1, 20, .inl (fun _ => 0))) :: (q5, .inl (γ.2.1.1, 20, .inl (fun _ => 0))) :: (q4, .inl (γ.2.1.1, 20, .inl (fun _ => 0))) :: (q3, .inl (γ.2.1.1, 20, .inl (fun _ => 0))) :: (q2, .inl (γ.2.1.1, 20, .inl (fun _ => 0))) :: (q1, .inl (γ.2.1.1, 20, .inl (fun _ => 0))) :: (q, .inr (4, [.int 0, .ref q1, .ref q2, .ref q3, .ref q4, .ref q5, .ref q6, .null, .null])) :: w) 49 6 6 K (dk_of tX4_init 25 rfl) w139 gwX4 tyX4_ok nmX4 rfl rfl (by decide) rfl rfl rfl rfl rfl rfl (Nat.le_of_ble_eq_true rfl) rfl ?_
  refine r_aload_n 52 0 K (dk_of tX4_init 26 rfl) rfl rfl ?_
  refine r_bipush 53 (20 : Int32) K (dk_of tX4_init 27 rfl) (by decide) ?_
  refine r_newaF (a0 := (20, .inl (fun _ => 0))) (N := 20) (ti := 1) 55 K (dk_of tX4_init 28 rfl) w164 rfl rfl raZ (fun _ => rfl) (by decide) rfl rfl rfl (fun q7 => ?_)
  refine r_putF (C := RX4) (T := TX4) (N := 9) (w' := (q7, .inl (γ.2.1.2.1, 20, .inl (fun _ => 0))) :: (q6, .inl (γ.2.1.1, 20, .inl (fun _ => 0))) :: (q5, .inl (γ.2.1.1, 20, .inl (fun _ => 0))) :: (q4, .inl (γ.2.1.1, 20, .inl (fun _ => 0))) :: (q3, .inl (γ.2.1.1, 20, .inl (fun _ => 0))) :: (q2, .inl (γ.2.1.1, 20, .inl (fun _ => 0))) :: (q1, .inl (γ.2.1.1, 20, .inl (fun _ => 0))) :: (q, .inr (4, [.int 0, .ref q1, .ref q2, .ref q3, .ref q4, .ref q5, .ref q6, .ref q7, .null])) :: w) 57 7 7 K (dk_of tX4_init 29 rfl) w142 gwX4 tyX4_ok nmX4 rfl rfl (by decide) rfl rfl rfl rfl rfl rfl (Nat.le_of_ble_eq_true rfl) rfl ?_
  refine r_aload_n 60 0 K (dk_of tX4_init 30 rfl) rfl rfl ?_
  refine r_bipush 61 (20 : Int32) K (dk_of tX4_init 31 rfl) (by decide) ?_
  refine r_newaF (a0 := (20, .inl (fun _ => 0))) (N := 20) (ti := 0) 63 K (dk_of tX4_init 32 rfl) w87 rfl rfl raI (fun _ => rfl) (by decide) rfl rfl rfl (fun q8 => ?_)
  refine r_putF (C := RX4) (T := TX4) (N := 9) (w' := (q8, .inl (γ.2.1.1, 20, .inl (fun _ => 0))) :: (q7, .inl (γ.2.1.2.1, 20, .inl (fun _ => 0))) :: (q6, .inl (γ.2.1.1, 20, .inl (fun _ => 0))) :: (q5, .inl (γ.2.1.1, 20, .inl (fun _ => 0))) :: (q4, .inl (γ.2.1.1, 20, .inl (fun _ => 0))) :: (q3, .inl (γ.2.1.1, 20, .inl (fun _ => 0))) :: (q2, .inl (γ.2.1.1, 20, .inl (fun _ => 0))) :: (q1, .inl (γ.2.1.1, 20, .inl (fun _ => 0))) :: (q, .inr (4, [.int 0, .ref q1, .ref q2, .ref q3, .ref q4, .ref q5, .ref q6, .ref q7, .ref q8])) :: w) 65 8 8 K (dk_of tX4_init 33 rfl) w144 gwX4 tyX4_ok nmX4 rfl rfl (by decide) rfl rfl rfl rfl rfl rfl (Nat.le_of_ble_eq_true rfl) rfl ?_
  exact r_vret 68 K hQ (dk_of tX4_init 34 rfl) (Nat.le_of_ble_eq_true rfl) (Nat.le_of_ble_eq_true rfl) ⟨rfl, q1, q2, q3, q4, q5, q6, q7, q8, rfl⟩

set_option maxHeartbeats 4000000 in
set_option maxRecDepth 100000 in
theorem ct_X1_init {l : Launch} (hl : l.stackTraces = false) {γ : Gd} {q : Nat} {w : va_W} : Ct l γ yX1_init (Cond.code yX1_init cX1_init 1 none) ({ frames := 1, cells := 0, slots := 0, locals := 60 } : Room) [.ref q] ((q, .inr (1, [.int 0, .int 0, .int 0, .int 0, .int 0, .int 0, .int 0])) :: w) (fun o w1 => o = .inl none ∧ w1 = (q, .inr (1, [.int 0, .int (-1 : Int32), .int 0, .int 0, .int 0, .int 0, .int 0])) :: w) 0 0 := by
  refine Ct_of hl (by decide +kernel) rfl (Nat.le_of_ble_eq_true rfl) (L := [some (.ref q)]) rfl ?_
  intro X Q K hQ
  generalize (((q, .inr (1, [.int 0, .int 0, .int 0, .int 0, .int 0, .int 0, .int 0])) :: w, Q) : MX) = M at K hQ ⊢
  refine r_aload_n 0 0 K (dk_of tX1_init 0 rfl) rfl rfl ?_
  refine r_oinit 1 K (dk_of tX1_init 1 rfl) w170 w27 w28 rfl ?_
  refine r_aload_n 4 0 K (dk_of tX1_init 2 rfl) rfl rfl ?_
  refine r_iconst 5 (-1 : Int32) K (dk_of tX1_init 3 rfl) (by decide) ?_
  refine r_putf (C := RX1) (T := TX1) (N := 7) (w' := (q, .inr (1, [.int 0, .int (-1 : Int32), .int 0, .int 0, .int 0, .int 0, .int 0])) :: w) 6 0 1 K (dk_of tX1_init 4 rfl) w173 gwX1 tyX1_ok nmX1 rfl rfl (by decide) rfl rfl rfl rfl (Nat.le_of_ble_eq_true rfl) rfl ?_
  exact r_vret 9 K hQ (dk_of tX1_init 5 rfl) (Nat.le_of_ble_eq_true rfl) (Nat.le_of_ble_eq_true rfl) ⟨rfl, rfl⟩

set_option maxHeartbeats 4000000 in
set_option maxRecDepth 100000 in
theorem ct_X0_init {l : Launch} (hl : l.stackTraces = false) {γ : Gd} {q : Nat} {w : va_W} : Ct l γ yX0_init (Cond.code yX0_init cX0_init 1 none) ({ frames := 2, cells := 25, slots := 440, locals := 80 } : Room) [.ref q] ((q, .inr (0, [.null, .null, .null, .null, .int 0, .int 0, .int 0, .null, .null])) :: w) (fun o w1 => o = .inl none ∧ ∃ h : Nat → Nat, q = h 0 ∧ w1 = wB γ h σI ++ w) 25 440 := by
  refine Ct_of hl (by decide +kernel) rfl (Nat.le_of_ble_eq_true rfl) (L := [some (.ref q)]) rfl ?_
  intro X Q K hQ
  generalize (((q, .inr (0, [.null, .null, .null, .null, .int 0, .int 0, .int 0, .null, .null])) :: w, Q) : MX) = M at K hQ ⊢
  refine r_aload_n 0 0 K (dk_of tX0_init 0 rfl) rfl rfl ?_
  refine r_oinit 1 K (dk_of tX0_init 1 rfl) w34 w27 w28 rfl ?_
  refine r_aload_n 4 0 K (dk_of tX0_init 2 rfl) rfl rfl ?_
  refine r_newF (T := TX2) (ci := 2) 5 K (dk_of tX0_init 3 rfl) w35 w36 w3 gwX2 tyX2_ok rfl rfl rfl (fun q1 => ?_)
  refine r_dup 8 K (dk_of tX0_init 4 rfl) rfl ?_
  refine r_callI 9 [] [.ref q1, .ref q] K (ct_X2_init hl) cs_X0_11 ⟨rfl, rfl, rfl⟩ (dk_of tX0_init 5 rfl) rfl rfl (Nat.le_of_ble_eq_true rfl) ⟨Nat.le_of_ble_eq_true rfl, Nat.le_of_ble_eq_true rfl⟩ (fun k9 w9 h9 => by cases h9.1) (fun v9 w9 h9 => ?_)
  obtain ⟨hv9, q1_0, q1_1, q1_2, q1_3, q1_4, q1_5, q1_6, q1_7, rfl⟩ := h9
  cases hv9
  show V l γ X M ((q1_7, .inl (γ.2.1.1, 24, .inl (fun _ => 0))) :: (q1_6, .inl (γ.2.1.1, 24, .inl (fun _ => 0))) :: (q1_5, .inl (γ.2.1.1, 24, .inl (fun _ => 0))) :: (q1_4, .inl (γ.2.1.1, 24, .inl (fun _ => 0))) :: (q1_3, .inl (γ.2.1.1, 24, .inl (fun _ => 0))) :: (q1_2, .inl (γ.2.1.1, 24, .inl (fun _ => 0))) :: (q1_1, .inl (γ.2.1.1, 24, .inl (fun i => if i < 24 then 20 else 0))) :: (q1_0, .inl (γ.2.1.1, 24, .inl (fun _ => 0))) :: (q1, .inr (2, [.ref q1_0, .ref q1_1, .ref q1_2, .ref q1_3, .ref q1_4, .ref q1_5, .ref q1_6, .ref q1_7])) :: (q, .inr (0, [.null, .null, .null, .null, .int 0, .int 0, .int 0, .null, .null])) :: w) [some (.ref q)] (9) (200) 12 [.ref q1, .ref q]
  refine r_putF (C := RX0) (T := TX0) (N := 9) (w' := (q1_7, .inl (γ.2.1.1, 24, .inl (fun _ => 0))) :: (q1_6, .inl (γ.2.1.1, 24, .inl (fun _ => 0))) :: (q1_5, .inl (γ.2.1.1, 24, .inl (fun _ => 0))) :: (q1_4, .inl (γ.2.1.1, 24, .inl (fun _ => 0))) :: (q1_3, .inl (γ.2.1.1, 24, .inl (fun _ => 0))) :: (q1_2, .inl (γ.2.1.1, 24, .inl (fun _ => 0))) :: (q1_1, .inl (γ.2.1.1, 24, .inl (fun i => if i < 24 then 20 else 0))) :: (q1_0, .inl (γ.2.1.1, 24, .inl (fun _ => 0))) :: (q1, .inr (2, [.ref q1_0, .ref q1_1, .ref q1_2, .ref q1_3, .ref q1_4, .ref q1_5, .ref q1_6, .ref q1_7])) :: (q, .inr (0, [.ref q1, .null, .null, .null, .int 0, .int 0, .int 0, .null, .null])) :: w) 12 9 0 K (dk_of tX0_init 6 rfl) w200 gwX0 tyX0_ok nmX0 rfl rfl (by decide) rfl rfl rfl rfl rfl rfl (Nat.le_of_ble_eq_true rfl) rfl ?_
  refine r_aload_n 15 0 K (dk_of tX0_init 7 rfl) rfl rfl ?_
  refine r_newF (T := TX8) (ci := 8) 16 K (dk_of tX0_init 8 rfl) w88 w89 w5 gwX8 tyX8_ok rfl rfl rfl (fun q2 => ?_)
  refine r_dup 19 K (dk_of tX0_init 9 rfl) rfl ?_
  refine r_callI 20 [] [.ref q2, .ref q] K (ct_X8_init hl) cs_X0_20 ⟨rfl, rfl, rfl⟩ (dk_of tX0_init 10 rfl) rfl rfl (Nat.le_of_ble_eq_true rfl) ⟨Nat.le_of_ble_eq_true rfl, Nat.le_of_ble_eq_true rfl⟩ (fun k9 w9 h9 => by cases h9.1) (fun v9 w9 h9 => ?_)
  obtain ⟨hv9, q2_0, q2_1, q2_2, rfl⟩ := h9
  cases hv9
  show V l γ X M ((q2_2, .inl (γ.2.1.1, 4, .inl (fun _ => 0))) :: (q2_1, .inl (γ.2.1.1, 4, .inl (fun _ => 0))) :: (q2_0, .inl (γ.2.1.1, 4, .inl (fun _ => 0))) :: (q2, .inr (8, [.int 0, .ref q2_0, .ref q2_1, .ref q2_2])) :: (q1_7, .inl (γ.2.1.1, 24, .inl (fun _ => 0))) :: (q1_6, .inl (γ.2.1.1, 24, .inl (fun _ => 0))) :: (q1_5, .inl (γ.2.1.1, 24, .inl (fun _ => 0))) :: (q1_4, .inl (γ.2.1.1, 24, .inl (fun _ => 0))) :: (q1_3, .inl (γ.2.1.1, 24, .inl (fun _ => 0))) :: (q1_2, .inl (γ.2.1.1, 24, .inl (fun _ => 0))) :: (q1_1, .inl (γ.2.1.1, 24, .inl (fun i => if i < 24 then 20 else 0))) :: (q1_0, .inl (γ.2.1.1, 24, .inl (fun _ => 0))) :: (q1, .inr (2, [.ref q1_0, .ref q1_1, .ref q1_2, .ref q1_3, .ref q1_4, .ref q1_5, .ref q1_6, .ref q1_7])) :: (q, .inr (0, [.ref q1, .null, .null, .null, .int 0, .int 0, .int 0, .null, .null])) :: w) [some (.ref q)] (13) (216) 23 [.ref q2, .ref q]
  refine r_putF (C := RX0) (T := TX0) (N := 9) (w' := (q2_2, .inl (γ.2.1.1, 4, .inl (fun _ => 0))) :: (q2_1, .inl (γ.2.1.1, 4, .inl (fun _ => 0))) :: (q2_0, .inl (γ.2.1.1, 4, .inl (fun _ => 0))) :: (q2, .inr (8, [.int 0, .ref q2_0, .ref q2_1, .ref q2_2])) :: (q1_7, .inl (γ.2.1.1, 24, .inl (fun _ => 0))) :: (q1_6, .inl (γ.2.1.1, 24, .inl (fun _ => 0))) :: (q1_5, .inl (γ.2.1.1, 24, .inl (fun _ => 0))) :: (q1_4, .inl (γ.2.1.1, 24, .inl (fun _ => 0))) :: (q1_3, .inl (γ.2.1.1, 24, .inl (fun _ => 0))) :: (q1_2, .inl (γ.2.1.1, 24, .inl (fun _ => 0))) :: (q1_1, .inl (γ.2.1.1, 24, .inl (fun i => if i < 24 then 20 else 0))) :: (q1_0, .inl (γ.2.1.1, 24, .inl (fun _ => 0))) :: (q1, .inr (2, [.ref q1_0, .ref q1_1, .ref q1_2, .ref q1_3, .ref q1_4, .ref q1_5, .ref q1_6, .ref q1_7])) :: (q, .inr (0, [.ref q1, .ref q2, .null, .null, .int 0, .int 0, .int 0, .null, .null])) :: w) 23 13 1 K (dk_of tX0_init 11 rfl) w204 gwX0 tyX0_ok nmX0 rfl rfl (by decide) rfl rfl rfl rfl rfl rfl (Nat.le_of_ble_eq_true rfl) rfl ?_
  refine r_aload_n 26 0 K (dk_of tX0_init 12 rfl) rfl rfl ?_
  refine r_newF (T := TX4) (ci := 4) 27 K (dk_of tX0_init 13 rfl) w115 w116 w6 gwX4 tyX4_ok rfl rfl rfl (fun q3 => ?_)
  refine r_dup 30 K (dk_of tX0_init 14 rfl) rfl ?_
  refine r_callI 31 [] [.ref q3, .ref q] K (ct_X4_init hl) cs_X0_27 ⟨rfl, rfl, rfl⟩ (dk_of tX0_init 15 rfl) rfl rfl (Nat.le_of_ble_eq_true rfl) ⟨Nat.le_of_ble_eq_true rfl, Nat.le_of_ble_eq_true rfl⟩ (fun k9 w9 h9 => by cases h9.1) (fun v9 w9 h9 => ?_)
  obtain ⟨hv9, q3_0, q3_1, q3_2, q3_3, q3_4, q3_5, q3_6, q3_7, rfl⟩ := h9
  cases hv9
  show V l γ X M ((q3_7, .inl (γ.2.1.1, 20, .inl (fun _ => 0))) :: (q3_6, .inl (γ.2.1.2.1, 20, .inl (fun _ => 0))) :: (q3_5, .inl (γ.2.1.1, 20, .inl (fun _ => 0))) :: (q3_4, .inl (γ.2.1.1, 20, .inl (fun _ => 0))) :: (q3_3, .inl (γ.2.1.1, 20, .inl (fun _ => 0))) :: (q3_2, .inl (γ.2.1.1, 20, .inl (fun _ => 0))) :: (q3_1, .inl (γ.2.1.1, 20, .inl (fun _ => 0))) :: (q3_0, .inl (γ.2.1.1, 20, .inl (fun _ => 0))) :: (q3, .inr (4, [.int 0, .ref q3_0, .ref q3_1, .ref q3_2, .ref q3_3, .ref q3_4, .ref q3_5, .ref q3_6, .ref q3_7])) :: (q2_2, .inl (γ.2.1.1, 4, .inl (fun _ => 0))) :: (q2_1, .inl (γ.2.1.1, 4, .inl (fun _ => 0))) :: (q2_0, .inl (γ.2.1.1, 4, .inl (fun _ => 0))) :: (q2, .inr (8, [.int 0, .ref q2_0, .ref q2_1, .ref q2_2])) :: (q1_7, .inl (γ.2.1.1, 24, .inl (fun _ => 0))) :: (q1_6, .inl (γ.2.1.1, 24, .inl (fun _ => 0))) :: (q1_5, .inl (γ.2.1.1, 24, .inl (fun _ => 0))) :: (q1_4, .inl (γ.2.1.1, 24, .inl (fun _ => 0))) :: (q1_3, .inl (γ.2.1.1, 24, .inl (fun _ => 0))) :: (q1_2, .inl (γ.2.1.1, 24, .inl (fun _ => 0))) :: (q1_1, .inl (γ.2.1.1, 24, .inl (fun i => if i < 24 then 20 else 0))) :: (q1_0, .inl (γ.2.1.1, 24, .inl (fun _ => 0))) :: (q1, .inr (2, [.ref q1_0, .ref q1_1, .ref q1_2, .ref q1_3, .ref q1_4, .ref q1_5, .ref q1_6, .ref q1_7])) :: (q, .inr (0, [.ref q1, .ref q2, .null, .null, .int 0, .int 0, .int 0, .null, .null])) :: w) [some (.ref q)] (22) (385) 34 [.ref q3, .ref q]
  refine r_putF (C := RX0) (T := TX0) (N := 9) (w' := (q3_7, .inl (γ.2.1.1, 20, .inl (fun _ => 0))) :: (q3_6, .inl (γ.2.1.2.1, 20, .inl (fun _ => 0))) :: (q3_5, .inl (γ.2.1.1, 20, .inl (fun _ => 0))) :: (q3_4, .inl (γ.2.1.1, 20, .inl (fun _ => 0))) :: (q3_3, .inl (γ.2.1.1, 20, .inl (fun _ => 0))) :: (q3_2, .inl (γ.2.1.1, 20, .inl (fun _ => 0))) :: (q3_1, .inl (γ.2.1.1, 20, .inl (fun _ => 0))) :: (q3_0, .inl (γ.2.1.1, 20, .inl (fun _ => 0))) :: (q3, .inr (4, [.int 0, .ref q3_0, .ref q3_1, .ref q3_2, .ref q3_3, .ref q3_4, .ref q3_5, .ref q3_6, .ref q3_7])) :: (q2_2, .inl (γ.2.1.1, 4, .inl (fun _ => 0))) :: (q2_1, .inl (γ.2.1.1, 4, .inl (fun _ => 0))) :: (q2_0, .inl (γ.2.1.1, 4, .inl (fun _ => 0))) :: (q2, .inr (8, [.int 0, .ref q2_0, .ref q2_1, .ref q2_2])) :: (q1_7, .inl (γ.2.1.1, 24, .inl (fun _ => 0))) :: (q1_6, .inl (γ.2.1.1, 24, .inl (fun _ => 0))) :: (q1_5, .inl (γ.2.1.1, 24, .inl (fun _ => 0))) :: (q1_4, .inl (γ.2.1.1, 24, .inl (fun _ => 0))) :: (q1_3, .inl (γ.2.1.1, 24, .inl (fun _ => 0))) :: (q1_2, .inl (γ.2.1.1, 24, .inl (fun _ => 0))) :: (q1_1, .inl (γ.2.1.1, 24, .inl (fun i => if i < 24 then 20 else 0))) :: (q1_0, .inl (γ.2.1.1, 24, .inl (fun _ => 0))) :: (q1, .inr (2, [.ref q1_0, .ref q1_1, .ref q1_2, .ref q1_3, .ref q1_4, .ref q1_5, .ref q1_6, .ref q1_7])) :: (q, .inr (0, [.ref q1, .ref q2, .ref q3, .null, .int 0, .int 0, .int 0, .null, .null])) :: w) 34 22 2 K (dk_of tX0_init 16 rfl) w207 gwX0 tyX0_ok nmX0 rfl rfl (by decide) rfl rfl rfl rfl rfl rfl (Nat.le_of_ble_eq_true rfl) rfl ?_
  refine r_aload_n 37 0 K (dk_of tX0_init 17 rfl) rfl rfl ?_
  refine r_newF (T := TX1) (ci := 1) 38 K (dk_of tX0_init 18 rfl) w165 w166 w7 gwX1 tyX1_ok rfl rfl rfl (fun q4 => ?_)
  refine r_dup 41 K (dk_of tX0_init 19 rfl) rfl ?_
  refine r_callI 42 [] [.ref q4, .ref q] K (ct_X1_init hl) cs_X0_34 ⟨rfl, rfl, rfl⟩ (dk_of tX0_init 20 rfl) rfl rfl (Nat.le_of_ble_eq_true rfl) ⟨Nat.le_of_ble_eq_true rfl, Nat.le_of_ble_eq_true rfl⟩ (fun k9 w9 h9 => by cases h9.1) (fun v9 w9 h9 => ?_)
  obtain ⟨hv9, rfl⟩ := h9
  cases hv9
  show V l γ X M ((q4, .inr (1, [.int 0, .int (-1 : Int32), .int 0, .int 0, .int 0, .int 0, .int 0])) :: (q3_7, .inl (γ.2.1.1, 20, .inl (fun _ => 0))) :: (q3_6, .inl (γ.2.1.2.1, 20, .inl (fun _ => 0))) :: (q3_5, .inl (γ.2.1.1, 20, .inl (fun _ => 0))) :: (q3_4, .inl (γ.2.1.1, 20, .inl (fun _ => 0))) :: (q3_3, .inl (γ.2.1.1, 20, .inl (fun _ => 0))) :: (q3_2, .inl (γ.2.1.1, 20, .inl (fun _ => 0))) :: (q3_1, .inl (γ.2.1.1, 20, .inl (fun _ => 0))) :: (q3_0, .inl (γ.2.1.1, 20, .inl (fun _ => 0))) :: (q3, .inr (4, [.int 0, .ref q3_0, .ref q3_1, .ref q3_2, .ref q3_3, .ref q3_4, .ref q3_5, .ref q3_6, .ref q3_7])) :: (q2_2, .inl (γ.2.1.1, 4, .inl (fun _ => 0))) :: (q2_1, .inl (γ.2.1.1, 4, .inl (fun _ => 0))) :: (q2_0, .inl (γ.2.1.1, 4, .inl (fun _ => 0))) :: (q2, .inr (8, [.int 0, .ref q2_0, .ref q2_1, .ref q2_2])) :: (q1_7, .inl (γ.2.1.1, 24, .inl (fun _ => 0))) :: (q1_6, .inl (γ.2.1.1, 24, .inl (fun _ => 0))) :: (q1_5, .inl (γ.2.1.1, 24, .inl (fun _ => 0))) :: (q1_4, .inl (γ.2.1.1, 24, .inl (fun _ => 0))) :: (q1_3, .inl (γ.2.1.1, 24, .inl (fun _ => 0))) :: (q1_2, .inl (γ.2.1.1, 24, .inl (fun _ => 0))) :: (q1_1, .inl (γ.2.1.1, 24, .inl (fun i => if i < 24 then 20 else 0))) :: (q1_0, .inl (γ.2.1.1, 24, .inl (fun _ => 0))) :: (q1, .inr (2, [.ref q1_0, .ref q1_1, .ref q1_2, .ref q1_3, .ref q1_4, .ref q1_5, .ref q1_6, .ref q1_7])) :: (q, .inr (0, [.ref q1, .ref q2, .ref q3, .null, .int 0, .int 0, .int 0, .null, .null])) :: w) [some (.ref q)] (23) (392) 45 [.ref q4, .ref q]
  refine r_putF (C := RX0) (T := TX0) (N := 9) (w' := (q4, .inr (1, [.int 0, .int (-1 : Int32), .int 0, .int 0, .int 0, .int 0, .int 0])) :: (q3_7, .inl (γ.2.1.1, 20, .inl (fun _ => 0))) :: (q3_6, .inl (γ.2.1.2.1, 20, .inl (fun _ => 0))) :: (q3_5, .inl (γ.2.1.1, 20, .inl (fun _ => 0))) :: (q3_4, .inl (γ.2.1.1, 20, .inl (fun _ => 0))) :: (q3_3, .inl (γ.2.1.1, 20, .inl (fun _ => 0))) :: (q3_2, .inl (γ.2.1.1, 20, .inl (fun _ => 0))) :: (q3_1, .inl (γ.2.1.1, 20, .inl (fun _ => 0))) :: (q3_0, .inl (γ.2.1.1, 20, .inl (fun _ => 0))) :: (q3, .inr (4, [.int 0, .ref q3_0, .ref q3_1, .ref q3_2, .ref q3_3, .ref q3_4, .ref q3_5, .ref q3_6, .ref q3_7])) :: (q2_2, .inl (γ.2.1.1, 4, .inl (fun _ => 0))) :: (q2_1, .inl (γ.2.1.1, 4, .inl (fun _ => 0))) :: (q2_0, .inl (γ.2.1.1, 4, .inl (fun _ => 0))) :: (q2, .inr (8, [.int 0, .ref q2_0, .ref q2_1, .ref q2_2])) :: (q1_7, .inl (γ.2.1.1, 24, .inl (fun _ => 0))) :: (q1_6, .inl (γ.2.1.1, 24, .inl (fun _ => 0))) :: (q1_5, .inl (γ.2.1.1, 24, .inl (fun _ => 0))) :: (q1_4, .inl (γ.2.1.1, 24, .inl (fun _ => 0))) :: (q1_3, .inl (γ.2.1.1, 24, .inl (fun _ => 0))) :: (q1_2, .inl (γ.2.1.1, 24, .inl (fun _ => 0))) :: (q1_1, .inl (γ.2.1.1, 24, .inl (fun i => if i < 24 then 20 else 0))) :: (q1_0, .inl (γ.2.1.1, 24, .inl (fun _ => 0))) :: (q1, .inr (2, [.ref q1_0, .ref q1_1, .ref q1_2, .ref q1_3, .ref q1_4, .ref q1_5, .ref q1_6, .ref q1_7])) :: (q, .inr (0, [.ref q1, .ref q2, .ref q3, .ref q4, .int 0, .int 0, .int 0, .null, .null])) :: w) 45 23 3 K (dk_of tX0_init 21 rfl) w210 gwX0 tyX0_ok nmX0 rfl rfl (by decide) rfl rfl rfl rfl rfl rfl (Nat.le_of_ble_eq_true rfl) rfl ?_
  refine r_aload_n 48 0 K (dk_of tX0_init 22 rfl) rfl rfl ?_
  refine r_iconst 49 (0 : Int32) K (dk_of tX0_init 23 rfl) (by decide) ?_
  refine r_putf (C := RX0) (T := TX0) (N := 9) (w' := (q4, .inr (1, [.int 0, .int (-1 : Int32), .int 0, .int 0, .int 0, .int 0, .int 0])) :: (q3_7, .inl (γ.2.1.1, 20, .inl (fun _ => 0))) :: (q3_6, .inl (γ.2.1.2.1, 20, .inl (fun _ => 0))) :: (q3_5, .inl (γ.2.1.1, 20, .inl (fun _ => 0))) :: (q3_4, .inl (γ.2.1.1, 20, .inl (fun _ => 0))) :: (q3_3, .inl (γ.2.1.1, 20, .inl (fun _ => 0))) :: (q3_2, .inl (γ.2.1.1, 20, .inl (fun _ => 0))) :: (q3_1, .inl (γ.2.1.1, 20, .inl (fun _ => 0))) :: (q3_0, .inl (γ.2.1.1, 20, .inl (fun _ => 0))) :: (q3, .inr (4, [.int 0, .ref q3_0, .ref q3_1, .ref q3_2, .ref q3_3, .ref q3_4, .ref q3_5, .ref q3_6, .ref q3_7])) :: (q2_2, .inl (γ.2.1.1, 4, .inl (fun _ => 0))) :: (q2_1, .inl (γ.2.1.1, 4, .inl (fun _ => 0))) :: (q2_0, .inl (γ.2.1.1, 4, .inl (fun _ => 0))) :: (q2, .inr (8, [.int 0, .ref q2_0, .ref q2_1, .ref q2_2])) :: (q1_7, .inl (γ.2.1.1, 24, .inl (fun _ => 0))) :: (q1_6, .inl (γ.2.1.1, 24, .inl (fun _ => 0))) :: (q1_5, .inl (γ.2.1.1, 24, .inl (fun _ => 0))) :: (q1_4, .inl (γ.2.1.1, 24, .inl (fun _ => 0))) :: (q1_3, .inl (γ.2.1.1, 24, .inl (fun _ => 0))) :: (q1_2, .inl (γ.2.1.1, 24, .inl (fun _ => 0))) :: (q1_1, .inl (γ.2.1.1, 24, .inl (fun i => if i < 24 then 20 else 0))) :: (q1_0, .inl (γ.2.1.1, 24, .inl (fun _ => 0))) :: (q1, .inr (2, [.ref q1_0, .ref q1_1, .ref q1_2, .ref q1_3, .ref q1_4, .ref q1_5, .ref q1_6, .ref q1_7])) :: (q, .inr (0, [.ref q1, .ref q2, .ref q3, .ref q4, .int 0, .int 0, .int 0, .null, .null])) :: w) 50 23 5 K (dk_of tX0_init 24 rfl) w215 gwX0 tyX0_ok nmX0 rfl rfl (by decide) rfl rfl rfl rfl (Nat.le_of_ble_eq_true rfl) rfl ?_
  refine r_aload_n 53 0 K (dk_of tX0_init 25 rfl) rfl rfl ?_
  refine r_bipush 54 (24 : Int32) K (dk_of tX0_init 26 rfl) (by decide) ?_
  refine r_newaF (a0 := (24, .inl (fun _ => 0))) (N := 24) (ti := 0) 56 K (dk_of tX0_init 27 rfl) w87 rfl rfl raI (fun _ => rfl) (by decide) rfl rfl rfl (fun q5 => ?_)
  refine r_putF (C := RX0) (T := TX0) (N := 9) (w' := (q5, .inl (γ.2.1.1, 24, .inl (fun _ => 0))) :: (q4, .inr (1, [.int 0, .int (-1 : Int32), .int 0, .int 0, .int 0, .int 0, .int 0])) :: (q3_7, .inl (γ.2.1.1, 20, .inl (fun _ => 0))) :: (q3_6, .inl (γ.2.1.2.1, 20, .inl (fun _ => 0))) :: (q3_5, .inl (γ.2.1.1, 20, .inl (fun _ => 0))) :: (q3_4, .inl (γ.2.1.1, 20, .inl (fun _ => 0))) :: (q3_3, .inl (γ.2.1.1, 20, .inl (fun _ => 0))) :: (q3_2, .inl (γ.2.1.1, 20, .inl (fun _ => 0))) :: (q3_1, .inl (γ.2.1.1, 20, .inl (fun _ => 0))) :: (q3_0, .inl (γ.2.1.1, 20, .inl (fun _ => 0))) :: (q3, .inr (4, [.int 0, .ref q3_0, .ref q3_1, .ref q3_2, .ref q3_3, .ref q3_4, .ref q3_5, .ref q3_6, .ref q3_7])) :: (q2_2, .inl (γ.2.1.1, 4, .inl (fun _ => 0))) :: (q2_1, .inl (γ.2.1.1, 4, .inl (fun _ => 0))) :: (q2_0, .inl (γ.2.1.1, 4, .inl (fun _ => 0))) :: (q2, .inr (8, [.int 0, .ref q2_0, .ref q2_1, .ref q2_2])) :: (q1_7, .inl (γ.2.1.1, 24, .inl (fun _ => 0))) :: (q1_6, .inl (γ.2.1.1, 24, .inl (fun _ => 0))) :: (q1_5, .inl (γ.2.1.1, 24, .inl (fun _ => 0))) :: (q1_4, .inl (γ.2.1.1, 24, .inl (fun _ => 0))) :: (q1_3, .inl (γ.2.1.1, 24, .inl (fun _ => 0))) :: (q1_2, .inl (γ.2.1.1, 24, .inl (fun _ => 0))) :: (q1_1, .inl (γ.2.1.1, 24, .inl (fun i => if i < 24 then 20 else 0))) :: (q1_0, .inl (γ.2.1.1, 24, .inl (fun _ => 0))) :: (q1, .inr (2, [.ref q1_0, .ref q1_1, .ref q1_2, .ref q1_3, .ref q1_4, .ref q1_5, .ref q1_6, .ref q1_7])) :: (q, .inr (0, [.ref q1, .ref q2, .ref q3, .ref q4, .int 0, .int 0, .int 0, .ref q5, .null])) :: w) 58 24 7 K (dk_of tX0_init 28 rfl) w222 gwX0 tyX0_ok nmX0 rfl rfl (by decide) rfl rfl rfl rfl rfl rfl (Nat.le_of_ble_eq_true rfl) rfl ?_
  refine r_aload_n 61 0 K (dk_of tX0_init 29 rfl) rfl rfl ?_
  refine r_bipush 62 (24 : Int32) K (dk_of tX0_init 30 rfl) (by decide) ?_
  refine r_newaF (a0 := (24, .inl (fun _ => 0))) (N := 24) (ti := 0) 64 K (dk_of tX0_init 31 rfl) w87 rfl rfl raI (fun _ => rfl) (by decide) rfl rfl rfl (fun q6 => ?_)
  refine r_putF (C := RX0) (T := TX0) (N := 9) (w' := (q6, .inl (γ.2.1.1, 24, .inl (fun _ => 0))) :: (q5, .inl (γ.2.1.1, 24, .inl (fun _ => 0))) :: (q4, .inr (1, [.int 0, .int (-1 : Int32), .int 0, .int 0, .int 0, .int 0, .int 0])) :: (q3_7, .inl (γ.2.1.1, 20, .inl (fun _ => 0))) :: (q3_6, .inl (γ.2.1.2.1, 20, .inl (fun _ => 0))) :: (q3_5, .inl (γ.2.1.1, 20, .inl (fun _ => 0))) :: (q3_4, .inl (γ.2.1.1, 20, .inl (fun _ => 0))) :: (q3_3, .inl (γ.2.1.1, 20, .inl (fun _ => 0))) :: (q3_2, .inl (γ.2.1.1, 20, .inl (fun _ => 0))) :: (q3_1, .inl (γ.2.1.1, 20, .inl (fun _ => 0))) :: (q3_0, .inl (γ.2.1.1, 20, .inl (fun _ => 0))) :: (q3, .inr (4, [.int 0, .ref q3_0, .ref q3_1, .ref q3_2, .ref q3_3, .ref q3_4, .ref q3_5, .ref q3_6, .ref q3_7])) :: (q2_2, .inl (γ.2.1.1, 4, .inl (fun _ => 0))) :: (q2_1, .inl (γ.2.1.1, 4, .inl (fun _ => 0))) :: (q2_0, .inl (γ.2.1.1, 4, .inl (fun _ => 0))) :: (q2, .inr (8, [.int 0, .ref q2_0, .ref q2_1, .ref q2_2])) :: (q1_7, .inl (γ.2.1.1, 24, .inl (fun _ => 0))) :: (q1_6, .inl (γ.2.1.1, 24, .inl (fun _ => 0))) :: (q1_5, .inl (γ.2.1.1, 24, .inl (fun _ => 0))) :: (q1_4, .inl (γ.2.1.1, 24, .inl (fun _ => 0))) :: (q1_3, .inl (γ.2.1.1, 24, .inl (fun _ => 0))) :: (q1_2, .inl (γ.2.1.1, 24, .inl (fun _ => 0))) :: (q1_1, .inl (γ.2.1.1, 24, .inl (fun i => if i < 24 then 20 else 0))) :: (q1_0, .inl (γ.2.1.1, 24, .inl (fun _ => 0))) :: (q1, .inr (2, [.ref q1_0, .ref q1_1, .ref q1_2, .ref q1_3, .ref q1_4, .ref q1_5, .ref q1_6, .ref q1_7])) :: (q, .inr (0, [.ref q1, .ref q2, .ref q3, .ref q4, .int 0, .int 0, .int 0, .ref q5, .ref q6])) :: w) 66 25 8 K (dk_of tX0_init 32 rfl) w223 gwX0 tyX0_ok nmX0 rfl rfl (by decide) rfl rfl rfl rfl rfl rfl (Nat.le_of_ble_eq_true rfl) rfl ?_
  refine r_perm (wB γ (vec [q, q1, q1_0, q1_1, q1_2, q1_3, q1_4, q1_5, q1_6, q1_7, q2, q2_0, q2_1, q2_2, q3, q3_0, q3_1, q3_2, q3_3, q3_4, q3_5, q3_6, q3_7, q4, q5, q6]) σI ++ w) ((List.reverse_perm (wB γ (vec [q, q1, q1_0, q1_1, q1_2, q1_3, q1_4, q1_5, q1_6, q1_7, q2, q2_0, q2_1, q2_2, q3, q3_0, q3_1, q3_2, q3_3, q3_4, q3_5, q3_6, q3_7, q4, q5, q6]) σI)).append_right w) 69 ?_
  exact r_vret 69 K hQ (dk_of tX0_init 33 rfl) (Nat.le_of_ble_eq_true rfl) (Nat.le_of_ble_eq_true rfl) ⟨rfl, vec [q, q1, q1_0, q1_1, q1_2, q1_3, q1_4, q1_5, q1_6, q1_7, q2, q2_0, q2_1, q2_2, q3, q3_0, q3_1, q3_2, q3_3, q3_4, q3_5, q3_6, q3_7, q4, q5, q6], rfl, rfl⟩

set_option maxHeartbeats 4000000 in
set_option maxRecDepth 100000 in
theorem ct_X5_init {l : Launch} (hl : l.stackTraces = false) {γ : Gd} {q b : Nat} {w : va_W} : Ct l γ yX5_init (Cond.code yX5_init cX5_init 2 none) ({ frames := 1, cells := 0, slots := 0, locals := 60 } : Room) [.ref q, .ref b] ((q, .inr (5, [.null, .int 0, .int 0, .int 0, .int 0])) :: w) (fun o w1 => o = .inl none ∧ w1 = (q, .inr (5, [.ref b, .int 0, .int 0, .int 0, .int 0])) :: w) 0 0 := by
  refine Ct_of hl (by decide +kernel) rfl (Nat.le_of_ble_eq_true rfl) (L := [some (.ref q), some (.ref b)]) rfl ?_
  intro X Q K hQ
  generalize (((q, .inr (5, [.null, .int 0, .int 0, .int 0, .int 0])) :: w, Q) : MX) = M at K hQ ⊢
  refine r_aload_n 0 0 K (dk_of tX5_init 0 rfl) rfl rfl ?_
  refine r_oinit 1 K (dk_of tX5_init 1 rfl) w248 w27 w28 rfl ?_
  refine r_aload_n 4 0 K (dk_of tX5_init 2 rfl) rfl rfl ?_
  refine r_aload_n 5 1 K (dk_of tX5_init 3 rfl) rfl rfl ?_
  refine r_putF (C := RX5) (T := TX5) (N := 5) (w' := (q, .inr (5, [.ref b, .int 0, .int 0, .int 0, .int 0])) :: w) 6 0 0 K (dk_of tX5_init 4 rfl) w249 gwX5 tyX5_ok nmX5 rfl rfl (by decide) rfl rfl rfl rfl rfl rfl (Nat.le_of_ble_eq_true rfl) rfl ?_
  exact r_vret 9 K hQ (dk_of tX5_init 5 rfl) (Nat.le_of_ble_eq_true rfl) (Nat.le_of_ble_eq_true rfl) ⟨rfl, rfl⟩

set_option maxHeartbeats 4000000 in
set_option maxRecDepth 100000 in
theorem ct_X7_init {l : Launch} (hl : l.stackTraces = false) {γ : Gd} {q b : Nat} {w : va_W} : Ct l γ yX7_init (Cond.code yX7_init cX7_init 2 none) ({ frames := 1, cells := 0, slots := 0, locals := 60 } : Room) [.ref q, .ref b] ((q, .inr (7, [.null])) :: w) (fun o w1 => o = .inl none ∧ w1 = (q, .inr (7, [.ref b])) :: w) 0 0 := by
  refine Ct_of hl (by decide +kernel) rfl (Nat.le_of_ble_eq_true rfl) (L := [some (.ref q), some (.ref b)]) rfl ?_
  intro X Q K hQ
  generalize (((q, .inr (7, [.null])) :: w, Q) : MX) = M at K hQ ⊢
  refine r_aload_n 0 0 K (dk_of tX7_init 0 rfl) rfl rfl ?_
  refine r_oinit 1 K (dk_of tX7_init 1 rfl) w270 w27 w28 rfl ?_
  refine r_aload_n 4 0 K (dk_of tX7_init 2 rfl) rfl rfl ?_
  refine r_aload_n 5 1 K (dk_of tX7_init 3 rfl) rfl rfl ?_
  refine r_putF (C := RX7) (T := TX7) (N := 1) (w' := (q, .inr (7, [.ref b])) :: w) 6 0 0 K (dk_of tX7_init 4 rfl) w271 gwX7 tyX7_ok nmX7 rfl rfl (by decide) rfl rfl rfl rfl rfl rfl (Nat.le_of_ble_eq_true rfl) rfl ?_
  exact r_vret 9 K hQ (dk_of tX7_init 5 rfl) (Nat.le_of_ble_eq_true rfl) (Nat.le_of_ble_eq_true rfl) ⟨rfl, rfl⟩

set_option maxHeartbeats 4000000 in
set_option maxRecDepth 100000 in
theorem ct_X3_init {l : Launch} (hl : l.stackTraces = false) {γ : Gd} {q : Nat} {w : va_W} : Ct l γ yX3_init (Cond.code yX3_init cX3_init 1 none) ({ frames := 1, cells := 2, slots := 8, locals := 60 } : Room) [.ref q] ((q, .inr (3, [.int 0, .null, .null, .int 0])) :: w) (fun o w1 => o = .inl none ∧ ∃ h : Nat → Nat, q = h 0 ∧ w1 = wD γ h δI ++ w) 2 8 := by
  refine Ct_of hl (by decide +kernel) rfl (Nat.le_of_ble_eq_true rfl) (L := [some (.ref q)]) rfl ?_
  intro X Q K hQ
  generalize (((q, .inr (3, [.int 0, .null, .null, .int 0])) :: w, Q) : MX) = M at K hQ ⊢
  refine r_aload_n 0 0 K (dk_of tX3_init 0 rfl) rfl rfl ?_
  refine r_oinit 1 K (dk_of tX3_init 1 rfl) w280 w27 w28 rfl ?_
  refine r_aload_n 4 0 K (dk_of tX3_init 2 rfl) rfl rfl ?_
  refine r_iconst 5 (2 : Int32) K (dk_of tX3_init 3 rfl) (by decide) ?_
  refine r_newaF (a0 := (2, .inl (fun _ => 0))) (N := 2) (ti := 0) 6 K (dk_of tX3_init 4 rfl) w87 rfl rfl raI (fun _ => rfl) (by decide) rfl rfl rfl (fun q1 => ?_)
  refine r_putF (C := RX3) (T := TX3) (N := 4) (w' := (q1, .inl (γ.2.1.1, 2, .inl (fun _ => 0))) :: (q, .inr (3, [.int 0, .ref q1, .null, .int 0])) :: w) 8 1 1 K (dk_of tX3_init 5 rfl) w281 gwX3 tyX3_ok nmX3 rfl rfl (by decide) rfl rfl rfl rfl rfl rfl (Nat.le_of_ble_eq_true rfl) rfl ?_
  refine r_aload_n 11 0 K (dk_of tX3_init 6 rfl) rfl rfl ?_
  refine r_bipush 12 (6 : Int32) K (dk_of tX3_init 7 rfl) (by decide) ?_
  refine r_newaF (a0 := (6, .inl (fun _ => 0))) (N := 6) (ti := 0) 14 K (dk_of tX3_init 8 rfl) w87 rfl rfl raI (fun _ => rfl) (by decide) rfl rfl rfl (fun q2 => ?_)
  refine r_putF (C := RX3) (T := TX3) (N := 4) (w' := (q2, .inl (γ.2.1.1, 6, .inl (fun _ => 0))) :: (q1, .inl (γ.2.1.1, 2, .inl (fun _ => 0))) :: (q, .inr (3, [.int 0, .ref q1, .ref q2, .int 0])) :: w) 16 2 2 K (dk_of tX3_init 9 rfl) w283 gwX3 tyX3_ok nmX3 rfl rfl (by decide) rfl rfl rfl rfl rfl rfl (Nat.le_of_ble_eq_true rfl) rfl ?_
  refine r_perm (wD γ (vec [q, q1, q2]) δI ++ w) ((List.reverse_perm (wD γ (vec [q, q1, q2]) δI)).append_right w) 19 ?_
  exact r_vret 19 K hQ (dk_of tX3_init 10 rfl) (Nat.le_of_ble_eq_true rfl) (Nat.le_of_ble_eq_true rfl) ⟨rfl, vec [q, q1, q2], rfl, rfl⟩

set_option maxHeartbeats 4000000 in
set_option maxRecDepth 100000 in
theorem ct_X6_init {l : Launch} (hl : l.stackTraces = false) {γ : Gd} {q : Nat} {w : va_W} : Ct l γ yX6_init (Cond.code yX6_init cX6_init 1 none) ({ frames := 1, cells := 1, slots := 20, locals := 60 } : Room) [.ref q] ((q, .inr (6, [.int 0, .int 0, .int 0, .long 0, .null])) :: w) (fun o w1 => o = .inl none ∧ ∃ h : Nat → Nat, q = h 0 ∧ w1 = wP γ h πI ++ w) 1 20 := by
  refine Ct_of hl (by decide +kernel) rfl (Nat.le_of_ble_eq_true rfl) (L := [some (.ref q)]) rfl ?_
  intro X Q K hQ
  generalize (((q, .inr (6, [.int 0, .int 0, .int 0, .long 0, .null])) :: w, Q) : MX) = M at K hQ ⊢
  refine r_aload_n 0 0 K (dk_of tX6_init 0 rfl) rfl rfl ?_
  refine r_oinit 1 K (dk_of tX6_init 1 rfl) w299 w27 w28 rfl ?_
  refine r_aload_n 4 0 K (dk_of tX6_init 2 rfl) rfl rfl ?_
  refine r_bipush 5 (20 : Int32) K (dk_of tX6_init 3 rfl) (by decide) ?_
  refine r_newaF (a0 := (20, .inl (fun _ => 0))) (N := 20) (ti := 0) 7 K (dk_of tX6_init 4 rfl) w87 rfl rfl raI (fun _ => rfl) (by decide) rfl rfl rfl (fun q1 => ?_)
  refine r_putF (C := RX6) (T := TX6) (N := 5) (w' := (q1, .inl (γ.2.1.1, 20, .inl (fun _ => 0))) :: (q, .inr (6, [.int 0, .int 0, .int 0, .long 0, .ref q1])) :: w) 9 1 4 K (dk_of tX6_init 5 rfl) w307 gwX6 tyX6_ok nmX6 rfl rfl (by decide) rfl rfl rfl rfl rfl rfl (Nat.le_of_ble_eq_true rfl) rfl ?_
  refine r_perm (wP γ (vec [q, q1]) πI ++ w) ((List.reverse_perm (wP γ (vec [q, q1]) πI)).append_right w) 12 ?_
  exact r_vret 12 K hQ (dk_of tX6_init 6 rfl) (Nat.le_of_ble_eq_true rfl) (Nat.le_of_ble_eq_true rfl) ⟨rfl, vec [q, q1], rfl, rfl⟩

set_option maxHeartbeats 4000000 in
set_option maxRecDepth 100000 in
theorem ct_X9_init {l : Launch} (hl : l.stackTraces = false) {γ : Gd} {q : Nat} {w : va_W} : Ct l γ yX9_init (Cond.code yX9_init cX9_init 1 none) ({ frames := 3, cells := 59, slots := 941, locals := 100 } : Room) [.ref q] ((q, .inr (9, [.null, .null, .null, .null, .null, .null])) :: w) (fun o w1 => o = .inl none ∧ ∃ (h g : Nat → Nat) (an aq : Nat) (ad ap : Nat → Nat), w1 = wB γ h σI ++ (wB γ g σI ++ (wS q (h 0) (g 0) an aq (ad 0) (ap 0) ++ (wN an (h 0) νI ++ (wR aq (h 0) ++ (wD γ ad δI ++ (wP γ ap πI ++ (w)))))))) 59 941 := by
  refine Ct_of hl (by decide +kernel) rfl (Nat.le_of_ble_eq_true rfl) (L := [some (.ref q)]) rfl ?_
  intro X Q K hQ
  generalize (((q, .inr (9, [.null, .null, .null, .null, .null, .null])) :: w, Q) : MX) = M at K hQ ⊢
  refine r_aload_n 0 0 K (dk_of tX9_init 0 rfl) rfl rfl ?_
  refine r_oinit 1 K (dk_of tX9_init 1 rfl) w26 w27 w28 rfl ?_
  refine r_aload_n 4 0 K (dk_of tX9_init 2 rfl) rfl rfl ?_
  refine r_newF (T := TX0) (ci := 0) 5 K (dk_of tX9_init 3 rfl) w29 w30 w2 gwX0 tyX0_ok rfl rfl rfl (fun q1 => ?_)
  refine r_dup 8 K (dk_of tX9_init 4 rfl) rfl ?_
  refine r_callI 9 [] [.ref q1, .ref q] K (ct_X0_init hl) cs_X9_11 ⟨rfl, rfl, rfl⟩ (dk_of tX9_init 5 rfl) rfl rfl (Nat.le_of_ble_eq_true rfl) ⟨Nat.le_of_ble_eq_true rfl, Nat.le_of_ble_eq_true rfl⟩ (fun k9 w9 h9 => by cases h9.1) (fun v9 w9 h9 => ?_)
  obtain ⟨hv9, q1_h, q1_e, rfl⟩ := h9
  cases hv9
  subst q1_e
  show V l γ X M (wB γ q1_h σI ++ ((q, .inr (9, [.null, .null, .null, .null, .null, .null])) :: w)) [some (.ref q)] (26) (449) 12 [.ref (q1_h 0), .ref q]
  refine r_putF (C := RX9) (T := TX9) (N := 6) (w' := wB γ q1_h σI ++ ((q, .inr (9, [.ref (q1_h 0), .null, .null, .null, .null, .null])) :: w)) 12 26 0 K (dk_of tX9_init 6 rfl) w319 gwX9 tyX9_ok nmX9 rfl rfl (by decide) rfl rfl rfl rfl rfl rfl (Nat.le_of_ble_eq_true rfl) rfl ?_
  refine r_aload_n 15 0 K (dk_of tX9_init 7 rfl) rfl rfl ?_
  refine r_newF (T := TX0) (ci := 0) 16 K (dk_of tX9_init 8 rfl) w29 w30 w2 gwX0 tyX0_ok rfl rfl rfl (fun q2 => ?_)
  refine r_dup 19 K (dk_of tX9_init 9 rfl) rfl ?_
  refine r_callI 20 [] [.ref q2, .ref q] K (ct_X0_init hl) cs_X9_11 ⟨rfl, rfl, rfl⟩ (dk_of tX9_init 10 rfl) rfl rfl (Nat.le_of_ble_eq_true rfl) ⟨Nat.le_of_ble_eq_true rfl, Nat.le_of_ble_eq_true rfl⟩ (fun k9 w9 h9 => by cases h9.1) (fun v9 w9 h9 => ?_)
  obtain ⟨hv9, q2_h, q2_e, rfl⟩ := h9
  cases hv9
  subst q2_e
  show V l γ X M (wB γ q2_h σI ++ (wB γ q1_h σI ++ ((q, .inr (9, [.ref (q1_h 0), .null, .null, .null, .null, .null])) :: w))) [some (.ref q)] (52) (898) 23 [.ref (q2_h 0), .ref q]
  refine r_putF (C := RX9) (T := TX9) (N := 6) (w' := wB γ q2_h σI ++ (wB γ q1_h σI ++ ((q, .inr (9, [.ref (q1_h 0), .ref (q2_h 0), .null, .null, .null, .null])) :: w))) 23 52 1 K (dk_of tX9_init 11 rfl) w320 gwX9 tyX9_ok nmX9 rfl rfl (by decide) rfl rfl rfl rfl rfl rfl (Nat.le_of_ble_eq_true rfl) rfl ?_
  refine r_aload_n 26 0 K (dk_of tX9_init 12 rfl) rfl rfl ?_
  refine r_newF (T := TX5) (ci := 5) 27 K (dk_of tX9_init 13 rfl) w243 w244 w8 gwX5 tyX5_ok rfl rfl rfl (fun q3 => ?_)
  refine r_dup 30 K (dk_of tX9_init 14 rfl) rfl ?_
  refine r_aload_n 31 0 K (dk_of tX9_init 15 rfl) rfl rfl ?_
  refine r_getf (C := RX9) (T := TX9) (N := 6) 32 53 0 K (dk_of tX9_init 16 rfl) w319 gwX9 rfl rfl (by decide) rfl ?_
  refine r_callI 35 [.ref (q1_h 0)] [.ref q3, .ref q] K (ct_X5_init hl) cs_X9_21 ⟨rfl, rfl, rfl⟩ (dk_of tX9_init 17 rfl) rfl rfl (Nat.le_of_ble_eq_true rfl) ⟨Nat.le_of_ble_eq_true rfl, Nat.le_of_ble_eq_true rfl⟩ (fun k9 w9 h9 => by cases h9.1) (fun v9 w9 h9 => ?_)
  obtain ⟨hv9, rfl⟩ := h9
  cases hv9
  show V l γ X M ((q3, .inr (5, [.ref (q1_h 0), .int 0, .int 0, .int 0, .int 0])) :: wB γ q2_h σI ++ (wB γ q1_h σI ++ ((q, .inr (9, [.ref (q1_h 0), .ref (q2_h 0), .null, .null, .null, .null])) :: w))) [some (.ref q)] (53) (903) 38 [.ref q3, .ref q]
  refine r_putF (C := RX9) (T := TX9) (N := 6) (w' := (q3, .inr (5, [.ref (q1_h 0), .int 0, .int 0, .int 0, .int 0])) :: wB γ q2_h σI ++ (wB γ q1_h σI ++ ((q, .inr (9, [.ref (q1_h 0), .ref (q2_h 0), .ref q3, .null, .null, .null])) :: w))) 38 53 2 K (dk_of tX9_init 18 rfl) w321 gwX9 tyX9_ok nmX9 rfl rfl (by decide) rfl rfl rfl rfl rfl rfl (Nat.le_of_ble_eq_true rfl) rfl ?_
  refine r_aload_n 41 0 K (dk_of tX9_init 19 rfl) rfl rfl ?_
  refine r_newF (T := TX7) (ci := 7) 42 K (dk_of tX9_init 20 rfl) w265 w266 w9 gwX7 tyX7_ok rfl rfl rfl (fun q4 => ?_)
  refine r_dup 45 K (dk_of tX9_init 21 rfl) rfl ?_
  refine r_aload_n 46 0 K (dk_of tX9_init 22 rfl) rfl rfl ?_
  refine r_getf (C := RX9) (T := TX9) (N := 6) 47 54 0 K (dk_of tX9_init 23 rfl) w319 gwX9 rfl rfl (by decide) rfl ?_
  refine r_callI 50 [.ref (q1_h 0)] [.ref q4, .ref q] K (ct_X7_init hl) cs_X9_30 ⟨rfl, rfl, rfl⟩ (dk_of tX9_init 24 rfl) rfl rfl (Nat.le_of_ble_eq_true rfl) ⟨Nat.le_of_ble_eq_true rfl, Nat.le_of_ble_eq_true rfl⟩ (fun k9 w9 h9 => by cases h9.1) (fun v9 w9 h9 => ?_)
  obtain ⟨hv9, rfl⟩ := h9
  cases hv9
  show V l γ X M ((q4, .inr (7, [.ref (q1_h 0)])) :: (q3, .inr (5, [.ref (q1_h 0), .int 0, .int 0, .int 0, .int 0])) :: wB γ q2_h σI ++ (wB γ q1_h σI ++ ((q, .inr (9, [.ref (q1_h 0), .ref (q2_h 0), .ref q3, .null, .null, .null])) :: w))) [some (.ref q)] (54) (904) 53 [.ref q4, .ref q]
  refine r_putF (C := RX9) (T := TX9) (N := 6) (w' := (q4, .inr (7, [.ref (q1_h 0)])) :: (q3, .inr (5, [.ref (q1_h 0), .int 0, .int 0, .int 0, .int 0])) :: wB γ q2_h σI ++ (wB γ q1_h σI ++ ((q, .inr (9, [.ref (q1_h 0), .ref (q2_h 0), .ref q3, .ref q4, .null, .null])) :: w))) 53 54 3 K (dk_of tX9_init 25 rfl) w322 gwX9 tyX9_ok nmX9 rfl rfl (by decide) rfl rfl rfl rfl rfl rfl (Nat.le_of_ble_eq_true rfl) rfl ?_
  refine r_aload_n 56 0 K (dk_of tX9_init 26 rfl) rfl rfl ?_
  refine r_newF (T := TX3) (ci := 3) 57 K (dk_of tX9_init 27 rfl) w275 w276 w10 gwX3 tyX3_ok rfl rfl rfl (fun q5 => ?_)
  refine r_dup 60 K (dk_of tX9_init 28 rfl) rfl ?_
  refine r_callI 61 [] [.ref q5, .ref q] K (ct_X3_init hl) cs_X9_37 ⟨rfl, rfl, rfl⟩ (dk_of tX9_init 29 rfl) rfl rfl (Nat.le_of_ble_eq_true rfl) ⟨Nat.le_of_ble_eq_true rfl, Nat.le_of_ble_eq_true rfl⟩ (fun k9 w9 h9 => by cases h9.1) (fun v9 w9 h9 => ?_)
  obtain ⟨hv9, q5_h, q5_e, rfl⟩ := h9
  cases hv9
  subst q5_e
  show V l γ X M (wD γ q5_h δI ++ ((q4, .inr (7, [.ref (q1_h 0)])) :: (q3, .inr (5, [.ref (q1_h 0), .int 0, .int 0, .int 0, .int 0])) :: wB γ q2_h σI ++ (wB γ q1_h σI ++ ((q, .inr (9, [.ref (q1_h 0), .ref (q2_h 0), .ref q3, .ref q4, .null, .null])) :: w)))) [some (.ref q)] (57) (916) 64 [.ref (q5_h 0), .ref q]
  refine r_putF (C := RX9) (T := TX9) (N := 6) (w' := wD γ q5_h δI ++ ((q4, .inr (7, [.ref (q1_h 0)])) :: (q3, .inr (5, [.ref (q1_h 0), .int 0, .int 0, .int 0, .int 0])) :: wB γ q2_h σI ++ (wB γ q1_h σI ++ ((q, .inr (9, [.ref (q1_h 0), .ref (q2_h 0), .ref q3, .ref q4, .ref (q5_h 0), .null])) :: w)))) 64 57 4 K (dk_of tX9_init 30 rfl) w323 gwX9 tyX9_ok nmX9 rfl rfl (by decide) rfl rfl rfl rfl rfl rfl (Nat.le_of_ble_eq_true rfl) rfl ?_
  refine r_aload_n 67 0 K (dk_of tX9_init 31 rfl) rfl rfl ?_
  refine r_newF (T := TX6) (ci := 6) 68 K (dk_of tX9_init 32 rfl) w294 w295 w11 gwX6 tyX6_ok rfl rfl rfl (fun q6 => ?_)
  refine r_dup 71 K (dk_of tX9_init 33 rfl) rfl ?_
  refine r_callI 72 [] [.ref q6, .ref q] K (ct_X6_init hl) cs_X9_44 ⟨rfl, rfl, rfl⟩ (dk_of tX9_init 34 rfl) rfl rfl (Nat.le_of_ble_eq_true rfl) ⟨Nat.le_of_ble_eq_true rfl, Nat.le_of_ble_eq_true rfl⟩ (fun k9 w9 h9 => by cases h9.1) (fun v9 w9 h9 => ?_)
  obtain ⟨hv9, q6_h, q6_e, rfl⟩ := h9
  cases hv9
  subst q6_e
  show V l γ X M (wP γ q6_h πI ++ (wD γ q5_h δI ++ ((q4, .inr (7, [.ref (q1_h 0)])) :: (q3, .inr (5, [.ref (q1_h 0), .int 0, .int 0, .int 0, .int 0])) :: wB γ q2_h σI ++ (wB γ q1_h σI ++ ((q, .inr (9, [.ref (q1_h 0), .ref (q2_h 0), .ref q3, .ref q4, .ref (q5_h 0), .null])) :: w))))) [some (.ref q)] (59) (941) 75 [.ref (q6_h 0), .ref q]
  refine r_putF (C := RX9) (T := TX9) (N := 6) (w' := wP γ q6_h πI ++ (wD γ q5_h δI ++ ((q4, .inr (7, [.ref (q1_h 0)])) :: (q3, .inr (5, [.ref (q1_h 0), .int 0, .int 0, .int 0, .int 0])) :: wB γ q2_h σI ++ (wB γ q1_h σI ++ ((q, .inr (9, [.ref (q1_h 0), .ref (q2_h 0), .ref q3, .ref q4, .ref (q5_h 0), .ref (q6_h 0)])) :: w))))) 75 59 5 K (dk_of tX9_init 35 rfl) w324 gwX9 tyX9_ok nmX9 rfl rfl (by decide) rfl rfl rfl rfl rfl rfl (Nat.le_of_ble_eq_true rfl) rfl ?_
  show V l γ X M (wP γ q6_h πI ++ (wD γ q5_h δI ++ (wR q4 (q1_h 0) ++ (wN q3 (q1_h 0) νI ++ (wB γ q2_h σI ++ (wB γ q1_h σI ++ (wS q (q1_h 0) (q2_h 0) q3 q4 (q5_h 0) (q6_h 0) ++ (w)))))))) [some (.ref q)] 59 941 78 []
  refine r_perm (wB γ q1_h σI ++ (wB γ q2_h σI ++ (wS q (q1_h 0) (q2_h 0) q3 q4 (q5_h 0) (q6_h 0) ++ (wN q3 (q1_h 0) νI ++ (wR q4 (q1_h 0) ++ (wD γ q5_h δI ++ (wP γ q6_h πI ++ (w)))))))) (List.Perm.trans (List.Perm.trans (List.Perm.trans (List.Perm.trans (List.Perm.trans (List.Perm.trans (List.Perm.trans (List.Perm.trans (List.Perm.trans (List.Perm.trans (List.Perm.trans (List.Perm.trans (List.Perm.trans (List.Perm.trans (List.Perm.trans (List.Perm.trans (List.Perm.trans (List.Perm.trans (List.Perm.append_left _ (List.Perm.append_left _ (List.Perm.append_left _ (List.Perm.append_left _ (List.perm_append_comm_assoc _ _ _))))) (List.Perm.append_left _ (List.Perm.append_left _ (List.Perm.append_left _ (List.perm_append_comm_assoc _ _ _))))) (List.Perm.append_left _ (List.Perm.append_left _ (List.perm_append_comm_assoc _ _ _)))) (List.Perm.append_left _ (List.perm_append_comm_assoc _ _ _))) (List.perm_append_comm_assoc _ _ _)) (List.Perm.append_left _ (List.Perm.append_left _ (List.Perm.append_left _ (List.Perm.append_left _ (List.perm_append_comm_assoc _ _ _)))))) (List.Perm.append_left _ (List.Perm.append_left _ (List.Perm.append_left _ (List.perm_append_comm_assoc _ _ _))))) (List.Perm.append_left _ (List.Perm.append_left _ (List.perm_append_comm_assoc _ _ _)))) (List.Perm.append_left _ (List.perm_append_comm_assoc _ _ _))) (List.Perm.append_left _ (List.Perm.append_left _ (List.Perm.append_left _ (List.Perm.append_left _ (List.Perm.append_left _ (List.perm_append_comm_assoc _ _ _))))))) (List.Perm.append_left _ (List.Perm.append_left _ (List.Perm.append_left _ (List.Perm.append_left _ (List.perm_append_comm_assoc _ _ _)))))) (List.Perm.append_left _ (List.Perm.append_left _ (List.Perm.append_left _ (List.perm_append_comm_assoc _ _ _))))) (List.Perm.append_left _ (List.Perm.append_left _ (List.perm_append_comm_assoc _ _ _)))) (List.Perm.append_left _ (List.Perm.append_left _ (List.Perm.append_left _ (List.Perm.append_left _ (List.Perm.append_left _ (List.perm_append_comm_assoc _ _ _))))))) (List.Perm.append_left _ (List.Perm.append_left _ (List.Perm.append_left _ (List.Perm.append_left _ (List.perm_append_comm_assoc _ _ _)))))) (List.Perm.append_left _ (List.Perm.append_left _ (List.Perm.append_left _ (List.perm_append_comm_assoc _ _ _))))) (List.Perm.append_left _ (List.Perm.append_left _ (List.Perm.append_left _ (List.Perm.append_left _ (List.Perm.append_left _ (List.perm_append_comm_assoc _ _ _))))))) (List.Perm.append_left _ (List.Perm.append_left _ (List.Perm.append_left _ (List.Perm.append_left _ (List.perm_append_comm_assoc _ _ _)))))) (List.Perm.append_left _ (List.Perm.append_left _ (List.Perm.append_left _ (List.Perm.append_left _ (List.Perm.append_left _ (List.perm_append_comm_assoc _ _ _))))))) 78 ?_
  exact r_vret 78 K hQ (dk_of tX9_init 36 rfl) (Nat.le_of_ble_eq_true rfl) (Nat.le_of_ble_eq_true rfl) ⟨rfl, q1_h, q2_h, q3, q4, q5_h, q6_h, rfl⟩
