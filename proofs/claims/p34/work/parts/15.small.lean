def sp_X1_noteLeak_17  (y1 : Int32) (σ2 : St) : Option (St) := sl (stU σ2 23 0 ((σ2 23 0) + y1)) (fun σ3 : St => some σ3)
def sp_X1_noteLeak (p1 : Int32) (p2 : Int32) (σ : St) : Option (St) := if p1 ≤ 0 then (sp_X1_noteLeak_17 p1 σ) else (if (σ 23 1) = (-1 : Int32) then (sl (stU σ 23 1 p2) (fun σ4 : St => sp_X1_noteLeak_17 p1 σ4)) else (sp_X1_noteLeak_17 p1 σ))
set_option maxHeartbeats 4000000 in
set_option maxRecDepth 100000 in
theorem ct_X1_noteLeak {l : Launch} (hl : l.stackTraces = false) {γ : Gd} {h : Nat → Nat} {σ : St} {r : va_W} {p1 : Int32} {p2 : Int32} {σ0 : St} (hR : some σ0 = sp_X1_noteLeak p1 p2 σ) : Ct l γ yX1_noteLeak (Cond.code yX1_noteLeak cX1_noteLeak 3 none) ({ frames := 0, cells := 0, slots := 0, locals := 0 } : Room) [.ref (h 23), .int p1, .int p2] (wB γ h σ ++ (r)) (Pr none (wB γ h σ0 ++ (r))) 0 0 := by
  refine Ct_of hl (by decide +kernel) rfl (Nat.le_of_ble_eq_true rfl) (L := [some (.ref (h 23)), some (.int p1), some (.int p2)]) rfl ?_
  intro X Q K hQ
  generalize ((wB γ h σ ++ (r), Q) : MX) = M at K hQ ⊢
  unfold sp_X1_noteLeak at hR
  have b17 : ∀ (y1 : Int32) (σ2 : St), some σ0 = sp_X1_noteLeak_17  y1 σ2 → V l γ X M (wB γ h σ2 ++ (r)) [some (.ref (h 23)), some (.int y1), none] 0 0 17 [] := by
    intro  y1 σ2 hR
    unfold sp_X1_noteLeak_17 at hR
    refine r_aload_n 17 0 K (dk_of tX1_noteLeak 9 rfl) rfl rfl ?_
    refine r_dup 18 K (dk_of tX1_noteLeak 10 rfl) rfl ?_
    refine r_getf (C := RX1) (T := TX1) (N := 7) 19 23 0 K (dk_of tX1_noteLeak 11 rfl) w171 gwX1 rfl rfl (by decide) rfl ?_
    refine r_iload_n 22 1 K (dk_of tX1_noteLeak 12 rfl) rfl rfl ?_
    refine r_iadd 23 K (dk_of tX1_noteLeak 13 rfl) ?_
    refine r_putf (C := RX1) (T := TX1) (N := 7) 24 23 0 K (dk_of tX1_noteLeak 14 rfl) w171 gwX1 tyX1_ok nmX1 rfl rfl (by decide) rfl rfl rfl rfl (Nat.le_of_ble_eq_true rfl) sB_23_0 ?_
    refine r_nmS (fun σ3 : St => wB γ h σ3 ++ (r)) hR (fun σ3 hR => ?_)
    exact r_vret 27 K hQ (dk_of tX1_noteLeak 15 rfl) (Nat.zero_le _) (Nat.zero_le _) (lfv (fun u9 : St => wB γ h u9 ++ (r)) hR)
  refine r_iload_n 0 1 K (dk_of tX1_noteLeak 0 rfl) rfl rfl ?_
  refine r_if_le 1 17 K (dk_of tX1_noteLeak 1 rfl) (by decide) hR (fun hR => ?_) (fun hR => ?_)
  · exact r_msk [true, true, false] [some (.ref (h 23)), some (.int p1), none] rfl (b17 p1 σ hR)
  · refine r_aload_n 4 0 K (dk_of tX1_noteLeak 2 rfl) rfl rfl ?_
    refine r_getf (C := RX1) (T := TX1) (N := 7) 5 23 1 K (dk_of tX1_noteLeak 3 rfl) w173 gwX1 rfl rfl (by decide) rfl ?_
    refine r_iconst 8 (-1) K (dk_of tX1_noteLeak 4 rfl) (by decide) ?_
    refine r_ic_ne 9 17 K (dk_of tX1_noteLeak 5 rfl) (by decide) hR (fun hR => ?_) (fun hR => ?_)
    · refine r_aload_n 12 0 K (dk_of tX1_noteLeak 6 rfl) rfl rfl ?_
      refine r_iload_n 13 2 K (dk_of tX1_noteLeak 7 rfl) rfl rfl ?_
      refine r_putf (C := RX1) (T := TX1) (N := 7) 14 23 1 K (dk_of tX1_noteLeak 8 rfl) w173 gwX1 tyX1_ok nmX1 rfl rfl (by decide) rfl rfl rfl rfl (Nat.le_of_ble_eq_true rfl) sB_23_1 ?_
      refine r_nmS (fun σ4 : St => wB γ h σ4 ++ (r)) hR (fun σ4 hR => ?_)
      exact r_msk [true, true, false] [some (.ref (h 23)), some (.int p1), none] rfl (b17 p1 σ4 hR)
    · exact r_msk [true, true, false] [some (.ref (h 23)), some (.int p1), none] rfl (b17 p1 σ hR)

def sp_X8_isAnyAt_2 (σ : St) (y1 : Int32) : Nat → Int32 → Option (Int32)
  | 0, _ => none
  | n + 1, y2 => if (σ 10 0) ≤ y2 then (some (0 : Int32)) else (if y2 < 0 ∨ 4 ≤ y2.toNatClampNeg then none else (if (σ 11 y2.toNatClampNeg) = y1 then (some (1 : Int32)) else (sp_X8_isAnyAt_2 σ y1 n (y2 + 1))))
def sp_X8_isAnyAt (p1 : Int32) (σ : St) : Option (Int32) := sp_X8_isAnyAt_2 σ p1 200 (0 : Int32)
set_option maxHeartbeats 4000000 in
set_option maxRecDepth 100000 in
theorem ct_X8_isAnyAt {l : Launch} (hl : l.stackTraces = false) {γ : Gd} {h : Nat → Nat} {σ : St} {r : va_W} {p1 : Int32} {x0 : Int32} (hR : some x0 = sp_X8_isAnyAt p1 σ) : Ct l γ yX8_isAnyAt (Cond.code yX8_isAnyAt cX8_isAnyAt 3 (some .boolean)) ({ frames := 0, cells := 0, slots := 0, locals := 0 } : Room) [.ref (h 10), .int p1] (wB γ h σ ++ (r)) (Pr (some (.int x0)) (wB γ h σ ++ (r))) 0 0 := by
  refine Ct_of hl (by decide +kernel) rfl (Nat.le_of_ble_eq_true rfl) (L := [some (.ref (h 10)), some (.int p1), none]) rfl ?_
  intro X Q K hQ
  generalize ((wB γ h σ ++ (r), Q) : MX) = M at K hQ ⊢
  unfold sp_X8_isAnyAt at hR
  have b2 : ∀ (y1 : Int32) (n : Nat) (y2 : Int32), some x0 = sp_X8_isAnyAt_2 σ y1 n y2 → V l γ X M (wB γ h σ ++ (r)) [some (.ref (h 10)), some (.int y1), some (.int y2)] 0 0 2 [] := by
    intro y1 n
    induction n with
    | zero => intro y2 hR; exact nn_ hR
    | succ n ih2 =>
      intro y2 hR
      rw [sp_X8_isAnyAt_2] at hR
      refine r_iload_n 2 2 K (dk_of tX8_isAnyAt 2 rfl) rfl rfl ?_
      refine r_aload_n 3 0 K (dk_of tX8_isAnyAt 3 rfl) rfl rfl ?_
      refine r_getf (C := RX8) (T := TX8) (N := 4) 4 10 0 K (dk_of tX8_isAnyAt 4 rfl) w94 gwX8 rfl rfl (by decide) rfl ?_
      refine r_ic_ge 7 28 K (dk_of tX8_isAnyAt 5 rfl) (by decide) hR (fun hR => ?_) (fun hR => ?_)
      · refine r_iconst 28 (0 : Int32) K (dk_of tX8_isAnyAt 16 rfl) (by decide) ?_
        exact r_zret 29 K hQ (dk_of tX8_isAnyAt 17 rfl) zb0 (Nat.zero_le _) (Nat.zero_le _) (lfi0 hR)
      · refine r_aload_n 10 0 K (dk_of tX8_isAnyAt 6 rfl) rfl rfl ?_
        refine r_getf (C := RX8) (T := TX8) (N := 4) 11 10 1 K (dk_of tX8_isAnyAt 7 rfl) w98 gwX8 rfl rfl (by decide) rfl ?_
        refine r_iload_n 14 2 K (dk_of tX8_isAnyAt 8 rfl) rfl rfl ?_
        refine r_ialdR 15 11 K (dk_of tX8_isAnyAt 9 rfl) rfl hR (fun hR => ?_)
        refine r_iload_n 16 1 K (dk_of tX8_isAnyAt 10 rfl) rfl rfl ?_
        refine r_ic_ne 17 22 K (dk_of tX8_isAnyAt 11 rfl) (by decide) hR (fun hR => ?_) (fun hR => ?_)
        · refine r_iconst 20 (1 : Int32) K (dk_of tX8_isAnyAt 12 rfl) (by decide) ?_
          exact r_zret 21 K hQ (dk_of tX8_isAnyAt 13 rfl) zb1 (Nat.zero_le _) (Nat.zero_le _) (lfi0 hR)
        · refine r_iinc 22 2 (y2 + 1) [some (.ref (h 10)), some (.int y1), some (.int (y2 + 1))] K (dk_of tX8_isAnyAt 14 rfl) rfl rfl rfl rfl (by decide) ?_
          refine r_goto 25 2 K (dk_of tX8_isAnyAt 15 rfl) (by decide) ?_
          exact ih2 (y2 + 1) hR
  refine r_iconst 0 (0 : Int32) K (dk_of tX8_isAnyAt 0 rfl) (by decide) ?_
  refine r_istore_n 1 2 [some (.ref (h 10)), some (.int p1), some (.int (0 : Int32))] K (dk_of tX8_isAnyAt 1 rfl) rfl rfl rfl (by decide) ?_
  exact b2 p1 200 (0 : Int32) hR

def sp_X8_leakOf (p1 : Int32) (p2 : Int32) (σ : St) : Option (Int32) := if p1 < 0 ∨ 4 ≤ p1.toNatClampNeg then none else (sl ((((σ 12 p1.toNatClampNeg) / (1000 : Int32)) - p2)) (fun x1 : Int32 => if x1 ≤ 0 then (some (0 : Int32)) else (if p1 < 0 ∨ 4 ≤ p1.toNatClampNeg then none else (if p1 < 0 ∨ 4 ≤ p1.toNatClampNeg then none else (some (iMin ((σ 13 p1.toNatClampNeg) * x1) (σ 12 p1.toNatClampNeg)))))))
set_option maxHeartbeats 4000000 in
set_option maxRecDepth 100000 in
theorem ct_X8_leakOf {l : Launch} (hl : l.stackTraces = false) {γ : Gd} {h : Nat → Nat} {σ : St} {r : va_W} {p1 : Int32} {p2 : Int32} {x0 : Int32} (hR : some x0 = sp_X8_leakOf p1 p2 σ) : Ct l γ yX8_leakOf (Cond.code yX8_leakOf cX8_leakOf 4 (some .int)) ({ frames := 1, cells := 0, slots := 0, locals := 15 } : Room) [.ref (h 10), .int p1, .int p2] (wB γ h σ ++ (r)) (Pr (some (.int x0)) (wB γ h σ ++ (r))) 0 0 := by
  refine Ct_of hl (by decide +kernel) rfl (Nat.le_of_ble_eq_true rfl) (L := [some (.ref (h 10)), some (.int p1), some (.int p2), none]) rfl ?_
  intro X Q K hQ
  generalize ((wB γ h σ ++ (r), Q) : MX) = M at K hQ ⊢
  unfold sp_X8_leakOf at hR
  refine r_aload_n 0 0 K (dk_of tX8_leakOf 0 rfl) rfl rfl ?_
  refine r_getf (C := RX8) (T := TX8) (N := 4) 1 10 2 K (dk_of tX8_leakOf 1 rfl) w101 gwX8 rfl rfl (by decide) rfl ?_
  refine r_iload_n 4 1 K (dk_of tX8_leakOf 2 rfl) rfl rfl ?_
  refine r_ialdR 5 12 K (dk_of tX8_leakOf 3 rfl) rfl hR (fun hR => ?_)
  refine r_sipush 6 (1000 : Int32) K (dk_of tX8_leakOf 4 rfl) (by decide) ?_
  refine r_idiv 9 K (dk_of tX8_leakOf 5 rfl) (by decide) ?_
  refine r_iload_n 10 2 K (dk_of tX8_leakOf 6 rfl) rfl rfl ?_
  refine r_isub 11 K (dk_of tX8_leakOf 7 rfl) ?_
  refine r_nmI hR (fun x1 hR => ?_)
  refine r_istore_n 12 3 [some (.ref (h 10)), some (.int p1), some (.int p2), some (.int x1)] K (dk_of tX8_leakOf 8 rfl) rfl rfl rfl (by decide) ?_
  refine r_iload_n 13 3 K (dk_of tX8_leakOf 9 rfl) rfl rfl ?_
  refine r_if_le 14 37 K (dk_of tX8_leakOf 10 rfl) (by decide) hR (fun hR => ?_) (fun hR => ?_)
  · refine r_iconst 37 (0 : Int32) K (dk_of tX8_leakOf 23 rfl) (by decide) ?_
    exact r_iret 38 K hQ (dk_of tX8_leakOf 24 rfl) (Nat.zero_le _) (Nat.zero_le _) (lfi0 hR)
  · refine r_aload_n 17 0 K (dk_of tX8_leakOf 11 rfl) rfl rfl ?_
    refine r_getf (C := RX8) (T := TX8) (N := 4) 18 10 3 K (dk_of tX8_leakOf 12 rfl) w104 gwX8 rfl rfl (by decide) rfl ?_
    refine r_iload_n 21 1 K (dk_of tX8_leakOf 13 rfl) rfl rfl ?_
    refine r_ialdR 22 13 K (dk_of tX8_leakOf 14 rfl) rfl hR (fun hR => ?_)
    refine r_iload_n 23 3 K (dk_of tX8_leakOf 15 rfl) rfl rfl ?_
    refine r_imul 24 K (dk_of tX8_leakOf 16 rfl) ?_
    refine r_aload_n 25 0 K (dk_of tX8_leakOf 17 rfl) rfl rfl ?_
    refine r_getf (C := RX8) (T := TX8) (N := 4) 26 10 2 K (dk_of tX8_leakOf 18 rfl) w101 gwX8 rfl rfl (by decide) rfl ?_
    refine r_iload_n 29 1 K (dk_of tX8_leakOf 19 rfl) rfl rfl ?_
    refine r_ialdR 30 12 K (dk_of tX8_leakOf 20 rfl) rfl hR (fun hR => ?_)
    refine r_min 31 K w493 w494 w19 w495 (dk_of tX8_leakOf 21 rfl) rfl ?_
    refine r_goto 34 38 K (dk_of tX8_leakOf 22 rfl) (by decide) ?_
    exact r_iret 38 K hQ (dk_of tX8_leakOf 24 rfl) (Nat.zero_le _) (Nat.zero_le _) (lfi0 hR)

def sp_X8_becomeLike  (σ : St) (τ : St) : Option (St) := sl (stU σ 10 0 (τ 10 0)) (fun σ1 : St => sl (stC σ1 11 (va_cpy (τ 11) (σ1 11) (0 : Int32).toNatClampNeg (0 : Int32).toNatClampNeg (4 : Int32).toNatClampNeg)) (fun σ2 : St => sl (stC σ2 12 (va_cpy (τ 12) (σ2 12) (0 : Int32).toNatClampNeg (0 : Int32).toNatClampNeg (4 : Int32).toNatClampNeg)) (fun σ3 : St => sl (stC σ3 13 (va_cpy (τ 13) (σ3 13) (0 : Int32).toNatClampNeg (0 : Int32).toNatClampNeg (4 : Int32).toNatClampNeg)) (fun σ4 : St => some σ4))))
set_option maxHeartbeats 4000000 in
set_option maxRecDepth 100000 in
theorem ct_X8_becomeLike {l : Launch} (hl : l.stackTraces = false) {γ : Gd} {h : Nat → Nat} {g : Nat → Nat} {σ : St} {τ : St} {r : va_W}  {σ0 : St} (hR : some σ0 = sp_X8_becomeLike σ τ) : Ct l γ yX8_becomeLike (Cond.code yX8_becomeLike cX8_becomeLike 2 none) ({ frames := 1, cells := 0, slots := 0, locals := 40 } : Room) [.ref (h 10), .ref (g 10)] (wB γ h σ ++ (wB γ g τ ++ (r))) (Pr none (wB γ h σ0 ++ (wB γ g τ ++ (r)))) 0 0 := by
  refine Ct_of hl (by decide +kernel) rfl (Nat.le_of_ble_eq_true rfl) (L := [some (.ref (h 10)), some (.ref (g 10))]) rfl ?_
  intro X Q K hQ
  generalize ((wB γ h σ ++ (wB γ g τ ++ (r)), Q) : MX) = M at K hQ ⊢
  unfold sp_X8_becomeLike at hR
  refine r_aload_n 0 0 K (dk_of tX8_becomeLike 0 rfl) rfl rfl ?_
  refine r_aload_n 1 1 K (dk_of tX8_becomeLike 1 rfl) rfl rfl ?_
  refine r_getf (C := RX8) (T := TX8) (N := 4) 2 36 0 K (dk_of tX8_becomeLike 2 rfl) w94 gwX8 rfl rfl (by decide) rfl ?_
  refine r_putf (C := RX8) (T := TX8) (N := 4) 5 10 0 K (dk_of tX8_becomeLike 3 rfl) w94 gwX8 tyX8_ok nmX8 rfl rfl (by decide) rfl rfl rfl rfl (Nat.le_of_ble_eq_true rfl) sB_10_0 ?_
  refine r_nmS (fun σ1 : St => wB γ h σ1 ++ (wB γ g τ ++ (r))) hR (fun σ1 hR => ?_)
  refine r_aload_n 8 1 K (dk_of tX8_becomeLike 4 rfl) rfl rfl ?_
  refine r_getf (C := RX8) (T := TX8) (N := 4) 9 36 1 K (dk_of tX8_becomeLike 5 rfl) w98 gwX8 rfl rfl (by decide) rfl ?_
  refine r_iconst 12 (0 : Int32) K (dk_of tX8_becomeLike 6 rfl) (by decide) ?_
  refine r_aload_n 13 0 K (dk_of tX8_becomeLike 7 rfl) rfl rfl ?_
  refine r_getf (C := RX8) (T := TX8) (N := 4) 14 10 1 K (dk_of tX8_becomeLike 8 rfl) w98 gwX8 rfl rfl (by decide) rfl ?_
  refine r_iconst 17 (0 : Int32) K (dk_of tX8_becomeLike 9 rfl) (by decide) ?_
  refine r_iconst 18 (4 : Int32) K (dk_of tX8_becomeLike 10 rfl) (by decide) ?_
  refine r_copy 19 37 11 K w680 w675 w674 w20 (dk_of tX8_becomeLike 11 rfl) rfl rfl (by decide) (by decide) (by decide) (by decide) (by decide) cB_11 rfl ?_
  refine r_nmS (fun σ2 : St => wB γ h σ2 ++ (wB γ g τ ++ (r))) hR (fun σ2 hR => ?_)
  refine r_aload_n 22 1 K (dk_of tX8_becomeLike 12 rfl) rfl rfl ?_
  refine r_getf (C := RX8) (T := TX8) (N := 4) 23 36 2 K (dk_of tX8_becomeLike 13 rfl) w101 gwX8 rfl rfl (by decide) rfl ?_
  refine r_iconst 26 (0 : Int32) K (dk_of tX8_becomeLike 14 rfl) (by decide) ?_
  refine r_aload_n 27 0 K (dk_of tX8_becomeLike 15 rfl) rfl rfl ?_
  refine r_getf (C := RX8) (T := TX8) (N := 4) 28 10 2 K (dk_of tX8_becomeLike 16 rfl) w101 gwX8 rfl rfl (by decide) rfl ?_
  refine r_iconst 31 (0 : Int32) K (dk_of tX8_becomeLike 17 rfl) (by decide) ?_
  refine r_iconst 32 (4 : Int32) K (dk_of tX8_becomeLike 18 rfl) (by decide) ?_
  refine r_copy 33 38 12 K w680 w675 w674 w20 (dk_of tX8_becomeLike 19 rfl) rfl rfl (by decide) (by decide) (by decide) (by decide) (by decide) cB_12 rfl ?_
  refine r_nmS (fun σ3 : St => wB γ h σ3 ++ (wB γ g τ ++ (r))) hR (fun σ3 hR => ?_)
  refine r_aload_n 36 1 K (dk_of tX8_becomeLike 20 rfl) rfl rfl ?_
  refine r_getf (C := RX8) (T := TX8) (N := 4) 37 36 3 K (dk_of tX8_becomeLike 21 rfl) w104 gwX8 rfl rfl (by decide) rfl ?_
  refine r_iconst 40 (0 : Int32) K (dk_of tX8_becomeLike 22 rfl) (by decide) ?_
  refine r_aload_n 41 0 K (dk_of tX8_becomeLike 23 rfl) rfl rfl ?_
  refine r_getf (C := RX8) (T := TX8) (N := 4) 42 10 3 K (dk_of tX8_becomeLike 24 rfl) w104 gwX8 rfl rfl (by decide) rfl ?_
  refine r_iconst 45 (0 : Int32) K (dk_of tX8_becomeLike 25 rfl) (by decide) ?_
  refine r_iconst 46 (4 : Int32) K (dk_of tX8_becomeLike 26 rfl) (by decide) ?_
  refine r_copy 47 39 13 K w680 w675 w674 w20 (dk_of tX8_becomeLike 27 rfl) rfl rfl (by decide) (by decide) (by decide) (by decide) (by decide) cB_13 rfl ?_
  refine r_nmS (fun σ4 : St => wB γ h σ4 ++ (wB γ g τ ++ (r))) hR (fun σ4 hR => ?_)
  exact r_vret 50 K hQ (dk_of tX8_becomeLike 28 rfl) (Nat.zero_le _) (Nat.zero_le _) (lfv (fun u9 : St => wB γ h u9 ++ (wB γ g τ ++ (r))) hR)

def sp_X8_allLitres_4 (σ : St) : Nat → Int32 → Int32 → Option (Int32)
  | 0, _, _ => none
  | n + 1, y1, y2 => if (σ 10 0) ≤ y2 then (some y1) else (if y2 < 0 ∨ 4 ≤ y2.toNatClampNeg then none else (sl ((y1 + (σ 12 y2.toNatClampNeg))) (fun x3 : Int32 => sp_X8_allLitres_4 σ n x3 (y2 + 1))))
def sp_X8_allLitres  (σ : St) : Option (Int32) := sp_X8_allLitres_4 σ 200 (0 : Int32) (0 : Int32)
set_option maxHeartbeats 4000000 in
set_option maxRecDepth 100000 in
theorem ct_X8_allLitres {l : Launch} (hl : l.stackTraces = false) {γ : Gd} {h : Nat → Nat} {σ : St} {r : va_W}  {x0 : Int32} (hR : some x0 = sp_X8_allLitres σ) : Ct l γ yX8_allLitres (Cond.code yX8_allLitres cX8_allLitres 3 (some .int)) ({ frames := 0, cells := 0, slots := 0, locals := 0 } : Room) [.ref (h 10)] (wB γ h σ ++ (r)) (Pr (some (.int x0)) (wB γ h σ ++ (r))) 0 0 := by
  refine Ct_of hl (by decide +kernel) rfl (Nat.le_of_ble_eq_true rfl) (L := [some (.ref (h 10)), none, none]) rfl ?_
  intro X Q K hQ
  generalize ((wB γ h σ ++ (r), Q) : MX) = M at K hQ ⊢
  unfold sp_X8_allLitres at hR
  have b4 : ∀  (n : Nat) (y1 : Int32) (y2 : Int32), some x0 = sp_X8_allLitres_4 σ n y1 y2 → V l γ X M (wB γ h σ ++ (r)) [some (.ref (h 10)), some (.int y1), some (.int y2)] 0 0 4 [] := by
    intro  n
    induction n with
    | zero => intro y1 y2 hR; exact nn_ hR
    | succ n ih4 =>
      intro y1 y2 hR
      rw [sp_X8_allLitres_4] at hR
      refine r_iload_n 4 2 K (dk_of tX8_allLitres 4 rfl) rfl rfl ?_
      refine r_aload_n 5 0 K (dk_of tX8_allLitres 5 rfl) rfl rfl ?_
      refine r_getf (C := RX8) (T := TX8) (N := 4) 6 10 0 K (dk_of tX8_allLitres 6 rfl) w94 gwX8 rfl rfl (by decide) rfl ?_
      refine r_ic_ge 9 27 K (dk_of tX8_allLitres 7 rfl) (by decide) hR (fun hR => ?_) (fun hR => ?_)
      · refine r_iload_n 27 1 K (dk_of tX8_allLitres 17 rfl) rfl rfl ?_
        exact r_iret 28 K hQ (dk_of tX8_allLitres 18 rfl) (Nat.zero_le _) (Nat.zero_le _) (lfi0 hR)
      · refine r_iload_n 12 1 K (dk_of tX8_allLitres 8 rfl) rfl rfl ?_
        refine r_aload_n 13 0 K (dk_of tX8_allLitres 9 rfl) rfl rfl ?_
        refine r_getf (C := RX8) (T := TX8) (N := 4) 14 10 2 K (dk_of tX8_allLitres 10 rfl) w101 gwX8 rfl rfl (by decide) rfl ?_
        refine r_iload_n 17 2 K (dk_of tX8_allLitres 11 rfl) rfl rfl ?_
        refine r_ialdR 18 12 K (dk_of tX8_allLitres 12 rfl) rfl hR (fun hR => ?_)
        refine r_iadd 19 K (dk_of tX8_allLitres 13 rfl) ?_
        refine r_nmI hR (fun x3 hR => ?_)
        refine r_istore_n 20 1 [some (.ref (h 10)), some (.int x3), some (.int y2)] K (dk_of tX8_allLitres 14 rfl) rfl rfl rfl (by decide) ?_
        refine r_iinc 21 2 (y2 + 1) [some (.ref (h 10)), some (.int x3), some (.int (y2 + 1))] K (dk_of tX8_allLitres 15 rfl) rfl rfl rfl rfl (by decide) ?_
        refine r_goto 24 4 K (dk_of tX8_allLitres 16 rfl) (by decide) ?_
        exact ih4 x3 (y2 + 1) hR
  refine r_iconst 0 (0 : Int32) K (dk_of tX8_allLitres 0 rfl) (by decide) ?_
  refine r_istore_n 1 1 [some (.ref (h 10)), some (.int (0 : Int32)), none] K (dk_of tX8_allLitres 1 rfl) rfl rfl rfl (by decide) ?_
  refine r_iconst 2 (0 : Int32) K (dk_of tX8_allLitres 2 rfl) (by decide) ?_
  refine r_istore_n 3 2 [some (.ref (h 10)), some (.int (0 : Int32)), some (.int (0 : Int32))] K (dk_of tX8_allLitres 3 rfl) rfl rfl rfl (by decide) ?_
  exact b4 200 (0 : Int32) (0 : Int32) hR

def sp_X8_add (p1 : Int32) (p2 : Int32) (σ : St) : Option (Int32 × St) := sl ((σ 10 0)) (fun x1 : Int32 => if x1 < 0 ∨ 4 ≤ x1.toNatClampNeg then none else (sl (stU σ 11 x1.toNatClampNeg p1) (fun σ2 : St => if x1 < 0 ∨ 4 ≤ x1.toNatClampNeg then none else (sl (stU σ2 12 x1.toNatClampNeg p2) (fun σ3 : St => sl (stU σ3 10 0 ((σ3 10 0) + (1 : Int32))) (fun σ4 : St => some (x1, σ4)))))))
set_option maxHeartbeats 4000000 in
set_option maxRecDepth 100000 in
theorem ct_X8_add {l : Launch} (hl : l.stackTraces = false) {γ : Gd} {h : Nat → Nat} {σ : St} {r : va_W} {p1 : Int32} {p2 : Int32} {x0 : Int32} {σ0 : St} (hR : some (x0, σ0) = sp_X8_add p1 p2 σ) : Ct l γ yX8_add (Cond.code yX8_add cX8_add 4 (some .int)) ({ frames := 0, cells := 0, slots := 0, locals := 0 } : Room) [.ref (h 10), .int p1, .int p2] (wB γ h σ ++ (r)) (Pr (some (.int x0)) (wB γ h σ0 ++ (r))) 0 0 := by
  refine Ct_of hl (by decide +kernel) rfl (Nat.le_of_ble_eq_true rfl) (L := [some (.ref (h 10)), some (.int p1), some (.int p2), none]) rfl ?_
  intro X Q K hQ
  generalize ((wB γ h σ ++ (r), Q) : MX) = M at K hQ ⊢
  unfold sp_X8_add at hR
  refine r_aload_n 0 0 K (dk_of tX8_add 0 rfl) rfl rfl ?_
  refine r_getf (C := RX8) (T := TX8) (N := 4) 1 10 0 K (dk_of tX8_add 1 rfl) w94 gwX8 rfl rfl (by decide) rfl ?_
  refine r_nmI hR (fun x1 hR => ?_)
  refine r_istore_n 4 3 [some (.ref (h 10)), some (.int p1), some (.int p2), some (.int x1)] K (dk_of tX8_add 2 rfl) rfl rfl rfl (by decide) ?_
  refine r_aload_n 5 0 K (dk_of tX8_add 3 rfl) rfl rfl ?_
  refine r_getf (C := RX8) (T := TX8) (N := 4) 6 10 1 K (dk_of tX8_add 4 rfl) w98 gwX8 rfl rfl (by decide) rfl ?_
  refine r_iload_n 9 3 K (dk_of tX8_add 5 rfl) rfl rfl ?_
  refine r_iload_n 10 1 K (dk_of tX8_add 6 rfl) rfl rfl ?_
  refine r_iastR 11 11 K (dk_of tX8_add 7 rfl) rfl sB_11 hR (fun hR => ?_)
  refine r_nmS (fun σ2 : St => wB γ h σ2 ++ (r)) hR (fun σ2 hR => ?_)
  refine r_aload_n 12 0 K (dk_of tX8_add 8 rfl) rfl rfl ?_
  refine r_getf (C := RX8) (T := TX8) (N := 4) 13 10 2 K (dk_of tX8_add 9 rfl) w101 gwX8 rfl rfl (by decide) rfl ?_
  refine r_iload_n 16 3 K (dk_of tX8_add 10 rfl) rfl rfl ?_
  refine r_iload_n 17 2 K (dk_of tX8_add 11 rfl) rfl rfl ?_
  refine r_iastR 18 12 K (dk_of tX8_add 12 rfl) rfl sB_12 hR (fun hR => ?_)
  refine r_nmS (fun σ3 : St => wB γ h σ3 ++ (r)) hR (fun σ3 hR => ?_)
  refine r_aload_n 19 0 K (dk_of tX8_add 13 rfl) rfl rfl ?_
  refine r_dup 20 K (dk_of tX8_add 14 rfl) rfl ?_
  refine r_getf (C := RX8) (T := TX8) (N := 4) 21 10 0 K (dk_of tX8_add 15 rfl) w94 gwX8 rfl rfl (by decide) rfl ?_
  refine r_iconst 24 (1 : Int32) K (dk_of tX8_add 16 rfl) (by decide) ?_
  refine r_iadd 25 K (dk_of tX8_add 17 rfl) ?_
  refine r_putf (C := RX8) (T := TX8) (N := 4) 26 10 0 K (dk_of tX8_add 18 rfl) w94 gwX8 tyX8_ok nmX8 rfl rfl (by decide) rfl rfl rfl rfl (Nat.le_of_ble_eq_true rfl) sB_10_0 ?_
  refine r_nmS (fun σ4 : St => wB γ h σ4 ++ (r)) hR (fun σ4 hR => ?_)
  refine r_iload_n 29 3 K (dk_of tX8_add 19 rfl) rfl rfl ?_
  exact r_iret 30 K hQ (dk_of tX8_add 20 rfl) (Nat.zero_le _) (Nat.zero_le _) (lfi (fun u9 : St => wB γ h u9 ++ (r)) hR)

def sp_X4_isSkimmer (p1 : Int32) (p2 : Int32) (σ : St) : Option (Int32) := if p1 < 0 ∨ 20 ≤ p1.toNatClampNeg then none else (if (σ 15 p1.toNatClampNeg) = (1 : Int32) then (if p1 < 0 ∨ 20 ≤ p1.toNatClampNeg then none else (if (σ 16 p1.toNatClampNeg) = p2 then (some (1 : Int32)) else (some (0 : Int32)))) else (some (0 : Int32)))
set_option maxHeartbeats 4000000 in
set_option maxRecDepth 100000 in
theorem ct_X4_isSkimmer {l : Launch} (hl : l.stackTraces = false) {γ : Gd} {h : Nat → Nat} {σ : St} {r : va_W} {p1 : Int32} {p2 : Int32} {x0 : Int32} (hR : some x0 = sp_X4_isSkimmer p1 p2 σ) : Ct l γ yX4_isSkimmer (Cond.code yX4_isSkimmer cX4_isSkimmer 3 (some .boolean)) ({ frames := 0, cells := 0, slots := 0, locals := 0 } : Room) [.ref (h 14), .int p1, .int p2] (wB γ h σ ++ (r)) (Pr (some (.int x0)) (wB γ h σ ++ (r))) 0 0 := by
  refine Ct_of hl (by decide +kernel) rfl (Nat.le_of_ble_eq_true rfl) (L := [some (.ref (h 14)), some (.int p1), some (.int p2)]) rfl ?_
  intro X Q K hQ
  generalize ((wB γ h σ ++ (r), Q) : MX) = M at K hQ ⊢
  unfold sp_X4_isSkimmer at hR
  refine r_aload_n 0 0 K (dk_of tX4_isSkimmer 0 rfl) rfl rfl ?_
  refine r_getf (C := RX4) (T := TX4) (N := 9) 1 14 1 K (dk_of tX4_isSkimmer 1 rfl) w125 gwX4 rfl rfl (by decide) rfl ?_
  refine r_iload_n 4 1 K (dk_of tX4_isSkimmer 2 rfl) rfl rfl ?_
  refine r_ialdR 5 15 K (dk_of tX4_isSkimmer 3 rfl) rfl hR (fun hR => ?_)
  refine r_iconst 6 (1 : Int32) K (dk_of tX4_isSkimmer 4 rfl) (by decide) ?_
  refine r_ic_ne 7 24 K (dk_of tX4_isSkimmer 5 rfl) (by decide) hR (fun hR => ?_) (fun hR => ?_)
  · refine r_aload_n 10 0 K (dk_of tX4_isSkimmer 6 rfl) rfl rfl ?_
    refine r_getf (C := RX4) (T := TX4) (N := 9) 11 14 2 K (dk_of tX4_isSkimmer 7 rfl) w128 gwX4 rfl rfl (by decide) rfl ?_
    refine r_iload_n 14 1 K (dk_of tX4_isSkimmer 8 rfl) rfl rfl ?_
    refine r_ialdR 15 16 K (dk_of tX4_isSkimmer 9 rfl) rfl hR (fun hR => ?_)
    refine r_iload_n 16 2 K (dk_of tX4_isSkimmer 10 rfl) rfl rfl ?_
    refine r_ic_ne 17 24 K (dk_of tX4_isSkimmer 11 rfl) (by decide) hR (fun hR => ?_) (fun hR => ?_)
    · refine r_iconst 20 (1 : Int32) K (dk_of tX4_isSkimmer 12 rfl) (by decide) ?_
      refine r_goto 21 25 K (dk_of tX4_isSkimmer 13 rfl) (by decide) ?_
      exact r_zret 25 K hQ (dk_of tX4_isSkimmer 15 rfl) zb1 (Nat.zero_le _) (Nat.zero_le _) (lfi0 hR)
    · refine r_iconst 24 (0 : Int32) K (dk_of tX4_isSkimmer 14 rfl) (by decide) ?_
      exact r_zret 25 K hQ (dk_of tX4_isSkimmer 15 rfl) zb0 (Nat.zero_le _) (Nat.zero_le _) (lfi0 hR)
  · refine r_iconst 24 (0 : Int32) K (dk_of tX4_isSkimmer 14 rfl) (by decide) ?_
    exact r_zret 25 K hQ (dk_of tX4_isSkimmer 15 rfl) zb0 (Nat.zero_le _) (Nat.zero_le _) (lfi0 hR)

def sp_X4_isSkimmerAt_2 (σ : St) (y1 : Int32) : Nat → Int32 → Option (Int32)
  | 0, _ => none
  | n + 1, y2 => if (σ 14 0) ≤ y2 then (some (0 : Int32)) else (b1 (sp_X4_isSkimmer y2 y1 σ) (fun (x3 : Int32) => if x3 = 0 then (sp_X4_isSkimmerAt_2 σ y1 n (y2 + 1)) else (some (1 : Int32))))
def sp_X4_isSkimmerAt (p1 : Int32) (σ : St) : Option (Int32) := sp_X4_isSkimmerAt_2 σ p1 200 (0 : Int32)
set_option maxHeartbeats 4000000 in
set_option maxRecDepth 100000 in
theorem ct_X4_isSkimmerAt {l : Launch} (hl : l.stackTraces = false) {γ : Gd} {h : Nat → Nat} {σ : St} {r : va_W} {p1 : Int32} {x0 : Int32} (hR : some x0 = sp_X4_isSkimmerAt p1 σ) : Ct l γ yX4_isSkimmerAt (Cond.code yX4_isSkimmerAt cX4_isSkimmerAt 3 (some .boolean)) ({ frames := 1, cells := 0, slots := 0, locals := 22 } : Room) [.ref (h 14), .int p1] (wB γ h σ ++ (r)) (Pr (some (.int x0)) (wB γ h σ ++ (r))) 0 0 := by
  refine Ct_of hl (by decide +kernel) rfl (Nat.le_of_ble_eq_true rfl) (L := [some (.ref (h 14)), some (.int p1), none]) rfl ?_
  intro X Q K hQ
  generalize ((wB γ h σ ++ (r), Q) : MX) = M at K hQ ⊢
  unfold sp_X4_isSkimmerAt at hR
  have b2 : ∀ (y1 : Int32) (n : Nat) (y2 : Int32), some x0 = sp_X4_isSkimmerAt_2 σ y1 n y2 → V l γ X M (wB γ h σ ++ (r)) [some (.ref (h 14)), some (.int y1), some (.int y2)] 0 0 2 [] := by
    intro y1 n
    induction n with
    | zero => intro y2 hR; exact nn_ hR
    | succ n ih2 =>
      intro y2 hR
      rw [sp_X4_isSkimmerAt_2] at hR
      refine r_iload_n 2 2 K (dk_of tX4_isSkimmerAt 2 rfl) rfl rfl ?_
      refine r_aload_n 3 0 K (dk_of tX4_isSkimmerAt 3 rfl) rfl rfl ?_
      refine r_getf (C := RX4) (T := TX4) (N := 9) 4 14 0 K (dk_of tX4_isSkimmerAt 4 rfl) w121 gwX4 rfl rfl (by decide) rfl ?_
      refine r_ic_ge 7 27 K (dk_of tX4_isSkimmerAt 5 rfl) (by decide) hR (fun hR => ?_) (fun hR => ?_)
      · refine r_iconst 27 (0 : Int32) K (dk_of tX4_isSkimmerAt 15 rfl) (by decide) ?_
        exact r_zret 28 K hQ (dk_of tX4_isSkimmerAt 16 rfl) zb0 (Nat.zero_le _) (Nat.zero_le _) (lfi0 hR)
      · refine r_aload_n 10 0 K (dk_of tX4_isSkimmerAt 6 rfl) rfl rfl ?_
        refine r_iload_n 11 2 K (dk_of tX4_isSkimmerAt 7 rfl) rfl rfl ?_
        refine r_iload_n 12 1 K (dk_of tX4_isSkimmerAt 8 rfl) rfl rfl ?_
        obtain ⟨x3, hc, hR⟩ := o1 hR
        refine r_cVi 13 14 [.int y2, .int y1] [] x3 (wB γ h σ ++ (r)) K (ct_X4_isSkimmer hl hc.symm) cs_X4_41 ⟨rfl, rfl, rfl⟩ (dk_of tX4_isSkimmerAt 9 rfl) rfl rfl rfl rfl rfl rfl ?_
        refine r_if_eq 16 21 K (dk_of tX4_isSkimmerAt 10 rfl) (by decide) hR (fun hR => ?_) (fun hR => ?_)
        · refine r_iinc 21 2 (y2 + 1) [some (.ref (h 14)), some (.int y1), some (.int (y2 + 1))] K (dk_of tX4_isSkimmerAt 13 rfl) rfl rfl rfl rfl (by decide) ?_
          refine r_goto 24 2 K (dk_of tX4_isSkimmerAt 14 rfl) (by decide) ?_
          exact ih2 (y2 + 1) hR
        · refine r_iconst 19 (1 : Int32) K (dk_of tX4_isSkimmerAt 11 rfl) (by decide) ?_
          exact r_zret 20 K hQ (dk_of tX4_isSkimmerAt 12 rfl) zb1 (Nat.zero_le _) (Nat.zero_le _) (lfi0 hR)
  refine r_iconst 0 (0 : Int32) K (dk_of tX4_isSkimmerAt 0 rfl) (by decide) ?_
  refine r_istore_n 1 2 [some (.ref (h 14)), some (.int p1), some (.int (0 : Int32))] K (dk_of tX4_isSkimmerAt 1 rfl) rfl rfl rfl (by decide) ?_
  exact b2 p1 200 (0 : Int32) hR

def sp_X4_boomOn_15 (σ : St) (y3 : Int32) (y4 : Int32) (y5 : Int32) (y6 : Int32) : Nat → Int32 → Option (Int32)
  | 0, _ => none
  | n + 1, y7 => if (σ 14 0) ≤ y7 then (some (-1 : Int32)) else (if y7 < 0 ∨ 20 ≤ y7.toNatClampNeg then none else (if (σ 15 y7.toNatClampNeg) = 0 then (if y7 < 0 ∨ 20 ≤ y7.toNatClampNeg then none else (if (σ 20 y7.toNatClampNeg) = 0 then (if y7 < 0 ∨ 20 ≤ y7.toNatClampNeg then none else (if (σ 16 y7.toNatClampNeg) = y3 then (if y7 < 0 ∨ 20 ≤ y7.toNatClampNeg then none else (if (σ 17 y7.toNatClampNeg) = y4 then (some y7) else (if y5 = (-1 : Int32) then (sp_X4_boomOn_15 σ y3 y4 y5 y6 n (y7 + 1)) else (if y7 < 0 ∨ 20 ≤ y7.toNatClampNeg then none else (if (σ 16 y7.toNatClampNeg) = y5 then (if y7 < 0 ∨ 20 ≤ y7.toNatClampNeg then none else (if (σ 17 y7.toNatClampNeg) = y6 then (some y7) else (sp_X4_boomOn_15 σ y3 y4 y5 y6 n (y7 + 1)))) else (sp_X4_boomOn_15 σ y3 y4 y5 y6 n (y7 + 1))))))) else (if y5 = (-1 : Int32) then (sp_X4_boomOn_15 σ y3 y4 y5 y6 n (y7 + 1)) else (if y7 < 0 ∨ 20 ≤ y7.toNatClampNeg then none else (if (σ 16 y7.toNatClampNeg) = y5 then (if y7 < 0 ∨ 20 ≤ y7.toNatClampNeg then none else (if (σ 17 y7.toNatClampNeg) = y6 then (some y7) else (sp_X4_boomOn_15 σ y3 y4 y5 y6 n (y7 + 1)))) else (sp_X4_boomOn_15 σ y3 y4 y5 y6 n (y7 + 1))))))) else (sp_X4_boomOn_15 σ y3 y4 y5 y6 n (y7 + 1)))) else (sp_X4_boomOn_15 σ y3 y4 y5 y6 n (y7 + 1))))
def sp_X4_boomOn (p1 : Int32) (p2 : Int32) (σ : St) : Option (Int32) := b1 (sp_X2_beside p1 p2) (fun (x1 : Int32) => b1 (sp_X2_opposite p2) (fun (x2 : Int32) => sp_X4_boomOn_15 σ p1 p2 x1 x2 200 (0 : Int32)))
set_option maxHeartbeats 4000000 in
set_option maxRecDepth 100000 in
theorem ct_X4_boomOn {l : Launch} (hl : l.stackTraces = false) {γ : Gd} {h : Nat → Nat} {σ : St} {r : va_W} {p1 : Int32} {p2 : Int32} {x0 : Int32} (hR : some x0 = sp_X4_boomOn p1 p2 σ) : Ct l γ yX4_boomOn (Cond.code yX4_boomOn cX4_boomOn 6 (some .int)) ({ frames := 1, cells := 0, slots := 0, locals := 23 } : Room) [.ref (h 14), .int p1, .int p2] (wB γ h σ ++ (r)) (Pr (some (.int x0)) (wB γ h σ ++ (r))) 0 0 := by
  refine Ct_of hl (by decide +kernel) rfl (Nat.le_of_ble_eq_true rfl) (L := [some (.ref (h 14)), some (.int p1), some (.int p2), none, none, none]) rfl ?_
  intro X Q K hQ
  generalize ((wB γ h σ ++ (r), Q) : MX) = M at K hQ ⊢
  unfold sp_X4_boomOn at hR
  have b15 : ∀ (y3 : Int32) (y4 : Int32) (y5 : Int32) (y6 : Int32) (n : Nat) (y7 : Int32), some x0 = sp_X4_boomOn_15 σ y3 y4 y5 y6 n y7 → V l γ X M (wB γ h σ ++ (r)) [some (.ref (h 14)), some (.int y3), some (.int y4), some (.int y5), some (.int y6), some (.int y7)] 0 0 15 [] := by
    intro y3 y4 y5 y6 n
    induction n with
    | zero => intro y7 hR; exact nn_ hR
    | succ n ih15 =>
      intro y7 hR
      rw [sp_X4_boomOn_15] at hR
      refine r_iload 15 5 K (dk_of tX4_boomOn 9 rfl) rfl ?_
      refine r_aload_n 17 0 K (dk_of tX4_boomOn 10 rfl) rfl rfl ?_
      refine r_getf (C := RX4) (T := TX4) (N := 9) 18 14 0 K (dk_of tX4_boomOn 11 rfl) w121 gwX4 rfl rfl (by decide) rfl ?_
      refine r_ic_ge 21 103 K (dk_of tX4_boomOn 12 rfl) (by decide) hR (fun hR => ?_) (fun hR => ?_)
      · refine r_iconst 103 (-1) K (dk_of tX4_boomOn 54 rfl) (by decide) ?_
        exact r_iret 104 K hQ (dk_of tX4_boomOn 55 rfl) (Nat.zero_le _) (Nat.zero_le _) (lfi0 hR)
      · refine r_aload_n 24 0 K (dk_of tX4_boomOn 13 rfl) rfl rfl ?_
        refine r_getf (C := RX4) (T := TX4) (N := 9) 25 14 1 K (dk_of tX4_boomOn 14 rfl) w125 gwX4 rfl rfl (by decide) rfl ?_
        refine r_iload 28 5 K (dk_of tX4_boomOn 15 rfl) rfl ?_
        refine r_ialdR 30 15 K (dk_of tX4_boomOn 16 rfl) rfl hR (fun hR => ?_)
        refine r_if_ne 31 97 K (dk_of tX4_boomOn 17 rfl) (by decide) hR (fun hR => ?_) (fun hR => ?_)
        · refine r_aload_n 34 0 K (dk_of tX4_boomOn 18 rfl) rfl rfl ?_
          refine r_getf (C := RX4) (T := TX4) (N := 9) 35 14 6 K (dk_of tX4_boomOn 19 rfl) w139 gwX4 rfl rfl (by decide) rfl ?_
          refine r_iload 38 5 K (dk_of tX4_boomOn 20 rfl) rfl ?_
          refine r_ialdR 40 20 K (dk_of tX4_boomOn 21 rfl) rfl hR (fun hR => ?_)
          refine r_if_ne 41 97 K (dk_of tX4_boomOn 22 rfl) (by decide) hR (fun hR => ?_) (fun hR => ?_)
          · refine r_aload_n 44 0 K (dk_of tX4_boomOn 23 rfl) rfl rfl ?_
            refine r_getf (C := RX4) (T := TX4) (N := 9) 45 14 2 K (dk_of tX4_boomOn 24 rfl) w128 gwX4 rfl rfl (by decide) rfl ?_
            refine r_iload 48 5 K (dk_of tX4_boomOn 25 rfl) rfl ?_
            refine r_ialdR 50 16 K (dk_of tX4_boomOn 26 rfl) rfl hR (fun hR => ?_)
            refine r_iload_n 51 1 K (dk_of tX4_boomOn 27 rfl) rfl rfl ?_
            refine r_ic_ne 52 66 K (dk_of tX4_boomOn 28 rfl) (by decide) hR (fun hR => ?_) (fun hR => ?_)
            · refine r_aload_n 55 0 K (dk_of tX4_boomOn 29 rfl) rfl rfl ?_
              refine r_getf (C := RX4) (T := TX4) (N := 9) 56 14 3 K (dk_of tX4_boomOn 30 rfl) w131 gwX4 rfl rfl (by decide) rfl ?_
              refine r_iload 59 5 K (dk_of tX4_boomOn 31 rfl) rfl ?_
              refine r_ialdR 61 17 K (dk_of tX4_boomOn 32 rfl) rfl hR (fun hR => ?_)
              refine r_iload_n 62 2 K (dk_of tX4_boomOn 33 rfl) rfl rfl ?_
              refine r_ic_eq 63 94 K (dk_of tX4_boomOn 34 rfl) (by decide) hR (fun hR => ?_) (fun hR => ?_)
              · refine r_iload 94 5 K (dk_of tX4_boomOn 50 rfl) rfl ?_
                exact r_iret 96 K hQ (dk_of tX4_boomOn 51 rfl) (Nat.zero_le _) (Nat.zero_le _) (lfi0 hR)
              · refine r_iload_n 66 3 K (dk_of tX4_boomOn 35 rfl) rfl rfl ?_
                refine r_iconst 67 (-1) K (dk_of tX4_boomOn 36 rfl) (by decide) ?_
                refine r_ic_eq 68 97 K (dk_of tX4_boomOn 37 rfl) (by decide) hR (fun hR => ?_) (fun hR => ?_)
                · refine r_iinc 97 5 (y7 + 1) [some (.ref (h 14)), some (.int y3), some (.int y4), some (.int y5), some (.int y6), some (.int (y7 + 1))] K (dk_of tX4_boomOn 52 rfl) rfl rfl rfl rfl (by decide) ?_
                  refine r_goto 100 15 K (dk_of tX4_boomOn 53 rfl) (by decide) ?_
                  exact ih15 (y7 + 1) hR
                · refine r_aload_n 71 0 K (dk_of tX4_boomOn 38 rfl) rfl rfl ?_
                  refine r_getf (C := RX4) (T := TX4) (N := 9) 72 14 2 K (dk_of tX4_boomOn 39 rfl) w128 gwX4 rfl rfl (by decide) rfl ?_
                  refine r_iload 75 5 K (dk_of tX4_boomOn 40 rfl) rfl ?_
                  refine r_ialdR 77 16 K (dk_of tX4_boomOn 41 rfl) rfl hR (fun hR => ?_)
                  refine r_iload_n 78 3 K (dk_of tX4_boomOn 42 rfl) rfl rfl ?_
                  refine r_ic_ne 79 97 K (dk_of tX4_boomOn 43 rfl) (by decide) hR (fun hR => ?_) (fun hR => ?_)
                  · refine r_aload_n 82 0 K (dk_of tX4_boomOn 44 rfl) rfl rfl ?_
                    refine r_getf (C := RX4) (T := TX4) (N := 9) 83 14 3 K (dk_of tX4_boomOn 45 rfl) w131 gwX4 rfl rfl (by decide) rfl ?_
                    refine r_iload 86 5 K (dk_of tX4_boomOn 46 rfl) rfl ?_
                    refine r_ialdR 88 17 K (dk_of tX4_boomOn 47 rfl) rfl hR (fun hR => ?_)
                    refine r_iload 89 4 K (dk_of tX4_boomOn 48 rfl) rfl ?_
                    refine r_ic_ne 91 97 K (dk_of tX4_boomOn 49 rfl) (by decide) hR (fun hR => ?_) (fun hR => ?_)
                    · refine r_iload 94 5 K (dk_of tX4_boomOn 50 rfl) rfl ?_
                      exact r_iret 96 K hQ (dk_of tX4_boomOn 51 rfl) (Nat.zero_le _) (Nat.zero_le _) (lfi0 hR)
                    · refine r_iinc 97 5 (y7 + 1) [some (.ref (h 14)), some (.int y3), some (.int y4), some (.int y5), some (.int y6), some (.int (y7 + 1))] K (dk_of tX4_boomOn 52 rfl) rfl rfl rfl rfl (by decide) ?_
                      refine r_goto 100 15 K (dk_of tX4_boomOn 53 rfl) (by decide) ?_
                      exact ih15 (y7 + 1) hR
                  · refine r_iinc 97 5 (y7 + 1) [some (.ref (h 14)), some (.int y3), some (.int y4), some (.int y5), some (.int y6), some (.int (y7 + 1))] K (dk_of tX4_boomOn 52 rfl) rfl rfl rfl rfl (by decide) ?_
                    refine r_goto 100 15 K (dk_of tX4_boomOn 53 rfl) (by decide) ?_
                    exact ih15 (y7 + 1) hR
            · refine r_iload_n 66 3 K (dk_of tX4_boomOn 35 rfl) rfl rfl ?_
              refine r_iconst 67 (-1) K (dk_of tX4_boomOn 36 rfl) (by decide) ?_
              refine r_ic_eq 68 97 K (dk_of tX4_boomOn 37 rfl) (by decide) hR (fun hR => ?_) (fun hR => ?_)
              · refine r_iinc 97 5 (y7 + 1) [some (.ref (h 14)), some (.int y3), some (.int y4), some (.int y5), some (.int y6), some (.int (y7 + 1))] K (dk_of tX4_boomOn 52 rfl) rfl rfl rfl rfl (by decide) ?_
                refine r_goto 100 15 K (dk_of tX4_boomOn 53 rfl) (by decide) ?_
                exact ih15 (y7 + 1) hR
              · refine r_aload_n 71 0 K (dk_of tX4_boomOn 38 rfl) rfl rfl ?_
                refine r_getf (C := RX4) (T := TX4) (N := 9) 72 14 2 K (dk_of tX4_boomOn 39 rfl) w128 gwX4 rfl rfl (by decide) rfl ?_
                refine r_iload 75 5 K (dk_of tX4_boomOn 40 rfl) rfl ?_
                refine r_ialdR 77 16 K (dk_of tX4_boomOn 41 rfl) rfl hR (fun hR => ?_)
                refine r_iload_n 78 3 K (dk_of tX4_boomOn 42 rfl) rfl rfl ?_
                refine r_ic_ne 79 97 K (dk_of tX4_boomOn 43 rfl) (by decide) hR (fun hR => ?_) (fun hR => ?_)
                · refine r_aload_n 82 0 K (dk_of tX4_boomOn 44 rfl) rfl rfl ?_
                  refine r_getf (C := RX4) (T := TX4) (N := 9) 83 14 3 K (dk_of tX4_boomOn 45 rfl) w131 gwX4 rfl rfl (by decide) rfl ?_
                  refine r_iload 86 5 K (dk_of tX4_boomOn 46 rfl) rfl ?_
                  refine r_ialdR 88 17 K (dk_of tX4_boomOn 47 rfl) rfl hR (fun hR => ?_)
                  refine r_iload 89 4 K (dk_of tX4_boomOn 48 rfl) rfl ?_
                  refine r_ic_ne 91 97 K (dk_of tX4_boomOn 49 rfl) (by decide) hR (fun hR => ?_) (fun hR => ?_)
                  · refine r_iload 94 5 K (dk_of tX4_boomOn 50 rfl) rfl ?_
                    exact r_iret 96 K hQ (dk_of tX4_boomOn 51 rfl) (Nat.zero_le _) (Nat.zero_le _) (lfi0 hR)
                  · refine r_iinc 97 5 (y7 + 1) [some (.ref (h 14)), some (.int y3), some (.int y4), some (.int y5), some (.int y6), some (.int (y7 + 1))] K (dk_of tX4_boomOn 52 rfl) rfl rfl rfl rfl (by decide) ?_
                    refine r_goto 100 15 K (dk_of tX4_boomOn 53 rfl) (by decide) ?_
                    exact ih15 (y7 + 1) hR
                · refine r_iinc 97 5 (y7 + 1) [some (.ref (h 14)), some (.int y3), some (.int y4), some (.int y5), some (.int y6), some (.int (y7 + 1))] K (dk_of tX4_boomOn 52 rfl) rfl rfl rfl rfl (by decide) ?_
                  refine r_goto 100 15 K (dk_of tX4_boomOn 53 rfl) (by decide) ?_
                  exact ih15 (y7 + 1) hR
          · refine r_iinc 97 5 (y7 + 1) [some (.ref (h 14)), some (.int y3), some (.int y4), some (.int y5), some (.int y6), some (.int (y7 + 1))] K (dk_of tX4_boomOn 52 rfl) rfl rfl rfl rfl (by decide) ?_
            refine r_goto 100 15 K (dk_of tX4_boomOn 53 rfl) (by decide) ?_
            exact ih15 (y7 + 1) hR
        · refine r_iinc 97 5 (y7 + 1) [some (.ref (h 14)), some (.int y3), some (.int y4), some (.int y5), some (.int y6), some (.int (y7 + 1))] K (dk_of tX4_boomOn 52 rfl) rfl rfl rfl rfl (by decide) ?_
          refine r_goto 100 15 K (dk_of tX4_boomOn 53 rfl) (by decide) ?_
          exact ih15 (y7 + 1) hR
  refine r_iload_n 0 1 K (dk_of tX4_boomOn 0 rfl) rfl rfl ?_
  refine r_iload_n 1 2 K (dk_of tX4_boomOn 1 rfl) rfl rfl ?_
  obtain ⟨x1, hc, hR⟩ := o1 hR
  refine r_cSi 2 [.int p1, .int p2] [] x1 (wB γ h σ ++ (r)) K (ct_X2_beside hl hc.symm) cs_X4_45 ⟨rfl, rfl, rfl⟩ (dk_of tX4_boomOn 2 rfl) rfl rfl rfl rfl ?_
  refine r_istore_n 5 3 [some (.ref (h 14)), some (.int p1), some (.int p2), some (.int x1), none, none] K (dk_of tX4_boomOn 3 rfl) rfl rfl rfl (by decide) ?_
  refine r_iload_n 6 2 K (dk_of tX4_boomOn 4 rfl) rfl rfl ?_
  obtain ⟨x2, hc, hR⟩ := o1 hR
  refine r_cSi 7 [.int p2] [] x2 (wB γ h σ ++ (r)) K (ct_X2_opposite hl hc.symm) cs_X4_51 ⟨rfl, rfl, rfl⟩ (dk_of tX4_boomOn 5 rfl) rfl rfl rfl rfl ?_
  refine r_istore 10 4 [some (.ref (h 14)), some (.int p1), some (.int p2), some (.int x1), some (.int x2), none] K (dk_of tX4_boomOn 6 rfl) rfl rfl (by decide) ?_
  refine r_iconst 12 (0 : Int32) K (dk_of tX4_boomOn 7 rfl) (by decide) ?_
  refine r_istore 13 5 [some (.ref (h 14)), some (.int p1), some (.int p2), some (.int x1), some (.int x2), some (.int (0 : Int32))] K (dk_of tX4_boomOn 8 rfl) rfl rfl (by decide) ?_
  exact b15 p1 p2 x1 x2 200 (0 : Int32) hR

def sp_X4_freshTaken (p1 : Int32) (p2 : Int32) (σ : St) : Option (Int32) := if p1 < 0 ∨ 20 ≤ p1.toNatClampNeg then none else (if p1 < 0 ∨ 20 ≤ p1.toNatClampNeg then none else (sl (((σ 19 p1.toNatClampNeg) - (σ 20 p1.toNatClampNeg))) (fun x1 : Int32 => if p1 < 0 ∨ 20 ≤ p1.toNatClampNeg then none else (some (iMin (iMin (σ 18 p1.toNatClampNeg) p2) x1)))))
set_option maxHeartbeats 4000000 in
set_option maxRecDepth 100000 in
theorem ct_X4_freshTaken {l : Launch} (hl : l.stackTraces = false) {γ : Gd} {h : Nat → Nat} {σ : St} {r : va_W} {p1 : Int32} {p2 : Int32} {x0 : Int32} (hR : some x0 = sp_X4_freshTaken p1 p2 σ) : Ct l γ yX4_freshTaken (Cond.code yX4_freshTaken cX4_freshTaken 4 (some .int)) ({ frames := 1, cells := 0, slots := 0, locals := 15 } : Room) [.ref (h 14), .int p1, .int p2] (wB γ h σ ++ (r)) (Pr (some (.int x0)) (wB γ h σ ++ (r))) 0 0 := by
  refine Ct_of hl (by decide +kernel) rfl (Nat.le_of_ble_eq_true rfl) (L := [some (.ref (h 14)), some (.int p1), some (.int p2), none]) rfl ?_
  intro X Q K hQ
  generalize ((wB γ h σ ++ (r), Q) : MX) = M at K hQ ⊢
  unfold sp_X4_freshTaken at hR
  refine r_aload_n 0 0 K (dk_of tX4_freshTaken 0 rfl) rfl rfl ?_
  refine r_getf (C := RX4) (T := TX4) (N := 9) 1 14 5 K (dk_of tX4_freshTaken 1 rfl) w137 gwX4 rfl rfl (by decide) rfl ?_
  refine r_iload_n 4 1 K (dk_of tX4_freshTaken 2 rfl) rfl rfl ?_
  refine r_ialdR 5 19 K (dk_of tX4_freshTaken 3 rfl) rfl hR (fun hR => ?_)
  refine r_aload_n 6 0 K (dk_of tX4_freshTaken 4 rfl) rfl rfl ?_
  refine r_getf (C := RX4) (T := TX4) (N := 9) 7 14 6 K (dk_of tX4_freshTaken 5 rfl) w139 gwX4 rfl rfl (by decide) rfl ?_
  refine r_iload_n 10 1 K (dk_of tX4_freshTaken 6 rfl) rfl rfl ?_
  refine r_ialdR 11 20 K (dk_of tX4_freshTaken 7 rfl) rfl hR (fun hR => ?_)
  refine r_isub 12 K (dk_of tX4_freshTaken 8 rfl) ?_
  refine r_nmI hR (fun x1 hR => ?_)
  refine r_istore_n 13 3 [some (.ref (h 14)), some (.int p1), some (.int p2), some (.int x1)] K (dk_of tX4_freshTaken 9 rfl) rfl rfl rfl (by decide) ?_
  refine r_aload_n 14 0 K (dk_of tX4_freshTaken 10 rfl) rfl rfl ?_
  refine r_getf (C := RX4) (T := TX4) (N := 9) 15 14 4 K (dk_of tX4_freshTaken 11 rfl) w133 gwX4 rfl rfl (by decide) rfl ?_
  refine r_iload_n 18 1 K (dk_of tX4_freshTaken 12 rfl) rfl rfl ?_
  refine r_ialdR 19 18 K (dk_of tX4_freshTaken 13 rfl) rfl hR (fun hR => ?_)
  refine r_iload_n 20 2 K (dk_of tX4_freshTaken 14 rfl) rfl rfl ?_
  refine r_min 21 K w571 w494 w19 w495 (dk_of tX4_freshTaken 15 rfl) rfl ?_
  refine r_iload_n 24 3 K (dk_of tX4_freshTaken 16 rfl) rfl rfl ?_
  refine r_min 25 K w571 w494 w19 w495 (dk_of tX4_freshTaken 17 rfl) rfl ?_
  exact r_iret 28 K hQ (dk_of tX4_freshTaken 18 rfl) (Nat.zero_le _) (Nat.zero_le _) (lfi0 hR)

def sp_X4_thickTaken (p1 : Int32) (p2 : Int32) (p3 : Int32) (σ : St) : Option (Int32) := if p1 < 0 ∨ 20 ≤ p1.toNatClampNeg then none else (if p1 < 0 ∨ 20 ≤ p1.toNatClampNeg then none else (sl ((((σ 19 p1.toNatClampNeg) - (σ 20 p1.toNatClampNeg)) - p2)) (fun x1 : Int32 => if p1 < 0 ∨ 20 ≤ p1.toNatClampNeg then none else (some (iMin (iMin (((σ 18 p1.toNatClampNeg) - p2) / (2 : Int32)) p3) x1)))))
set_option maxHeartbeats 4000000 in
set_option maxRecDepth 100000 in
theorem ct_X4_thickTaken {l : Launch} (hl : l.stackTraces = false) {γ : Gd} {h : Nat → Nat} {σ : St} {r : va_W} {p1 : Int32} {p2 : Int32} {p3 : Int32} {x0 : Int32} (hR : some x0 = sp_X4_thickTaken p1 p2 p3 σ) : Ct l γ yX4_thickTaken (Cond.code yX4_thickTaken cX4_thickTaken 5 (some .int)) ({ frames := 1, cells := 0, slots := 0, locals := 15 } : Room) [.ref (h 14), .int p1, .int p2, .int p3] (wB γ h σ ++ (r)) (Pr (some (.int x0)) (wB γ h σ ++ (r))) 0 0 := by
  refine Ct_of hl (by decide +kernel) rfl (Nat.le_of_ble_eq_true rfl) (L := [some (.ref (h 14)), some (.int p1), some (.int p2), some (.int p3), none]) rfl ?_
  intro X Q K hQ
  generalize ((wB γ h σ ++ (r), Q) : MX) = M at K hQ ⊢
  unfold sp_X4_thickTaken at hR
  refine r_aload_n 0 0 K (dk_of tX4_thickTaken 0 rfl) rfl rfl ?_
  refine r_getf (C := RX4) (T := TX4) (N := 9) 1 14 5 K (dk_of tX4_thickTaken 1 rfl) w137 gwX4 rfl rfl (by decide) rfl ?_
  refine r_iload_n 4 1 K (dk_of tX4_thickTaken 2 rfl) rfl rfl ?_
  refine r_ialdR 5 19 K (dk_of tX4_thickTaken 3 rfl) rfl hR (fun hR => ?_)
  refine r_aload_n 6 0 K (dk_of tX4_thickTaken 4 rfl) rfl rfl ?_
  refine r_getf (C := RX4) (T := TX4) (N := 9) 7 14 6 K (dk_of tX4_thickTaken 5 rfl) w139 gwX4 rfl rfl (by decide) rfl ?_
  refine r_iload_n 10 1 K (dk_of tX4_thickTaken 6 rfl) rfl rfl ?_
  refine r_ialdR 11 20 K (dk_of tX4_thickTaken 7 rfl) rfl hR (fun hR => ?_)
  refine r_isub 12 K (dk_of tX4_thickTaken 8 rfl) ?_
  refine r_iload_n 13 2 K (dk_of tX4_thickTaken 9 rfl) rfl rfl ?_
  refine r_isub 14 K (dk_of tX4_thickTaken 10 rfl) ?_
  refine r_nmI hR (fun x1 hR => ?_)
  refine r_istore 15 4 [some (.ref (h 14)), some (.int p1), some (.int p2), some (.int p3), some (.int x1)] K (dk_of tX4_thickTaken 11 rfl) rfl rfl (by decide) ?_
  refine r_aload_n 17 0 K (dk_of tX4_thickTaken 12 rfl) rfl rfl ?_
  refine r_getf (C := RX4) (T := TX4) (N := 9) 18 14 4 K (dk_of tX4_thickTaken 13 rfl) w133 gwX4 rfl rfl (by decide) rfl ?_
  refine r_iload_n 21 1 K (dk_of tX4_thickTaken 14 rfl) rfl rfl ?_
  refine r_ialdR 22 18 K (dk_of tX4_thickTaken 15 rfl) rfl hR (fun hR => ?_)
  refine r_iload_n 23 2 K (dk_of tX4_thickTaken 16 rfl) rfl rfl ?_
  refine r_isub 24 K (dk_of tX4_thickTaken 17 rfl) ?_
  refine r_iconst 25 (2 : Int32) K (dk_of tX4_thickTaken 18 rfl) (by decide) ?_
  refine r_idiv 26 K (dk_of tX4_thickTaken 19 rfl) (by decide) ?_
  refine r_iload_n 27 3 K (dk_of tX4_thickTaken 20 rfl) rfl rfl ?_
  refine r_min 28 K w571 w494 w19 w495 (dk_of tX4_thickTaken 21 rfl) rfl ?_
  refine r_iload 31 4 K (dk_of tX4_thickTaken 22 rfl) rfl ?_
  refine r_min 33 K w571 w494 w19 w495 (dk_of tX4_thickTaken 23 rfl) rfl ?_
  exact r_iret 36 K hQ (dk_of tX4_thickTaken 24 rfl) (Nat.zero_le _) (Nat.zero_le _) (lfi0 hR)

def sp_X4_add (p1 : Int32) (p2 : Int32) (p3 : Int32) (σ : St) : Option (Int32 × St) := sl ((σ 14 0)) (fun x1 : Int32 => if x1 < 0 ∨ 20 ≤ x1.toNatClampNeg then none else (sl (stU σ 15 x1.toNatClampNeg p1) (fun σ2 : St => if x1 < 0 ∨ 20 ≤ x1.toNatClampNeg then none else (sl (stU σ2 16 x1.toNatClampNeg p2) (fun σ3 : St => if x1 < 0 ∨ 20 ≤ x1.toNatClampNeg then none else (sl (stU σ3 18 x1.toNatClampNeg p3) (fun σ4 : St => if x1 < 0 ∨ 20 ≤ x1.toNatClampNeg then none else (sl (stU σ4 22 x1.toNatClampNeg (-1 : Int32)) (fun σ5 : St => sl (stU σ5 14 0 ((σ5 14 0) + (1 : Int32))) (fun σ6 : St => some (x1, σ6)))))))))))
set_option maxHeartbeats 4000000 in
set_option maxRecDepth 100000 in
theorem ct_X4_add {l : Launch} (hl : l.stackTraces = false) {γ : Gd} {h : Nat → Nat} {σ : St} {r : va_W} {p1 : Int32} {p2 : Int32} {p3 : Int32} {x0 : Int32} {σ0 : St} (hR : some (x0, σ0) = sp_X4_add p1 p2 p3 σ) : Ct l γ yX4_add (Cond.code yX4_add cX4_add 5 (some .int)) ({ frames := 0, cells := 0, slots := 0, locals := 0 } : Room) [.ref (h 14), .int p1, .int p2, .int p3] (wB γ h σ ++ (r)) (Pr (some (.int x0)) (wB γ h σ0 ++ (r))) 0 0 := by
  refine Ct_of hl (by decide +kernel) rfl (Nat.le_of_ble_eq_true rfl) (L := [some (.ref (h 14)), some (.int p1), some (.int p2), some (.int p3), none]) rfl ?_
  intro X Q K hQ
  generalize ((wB γ h σ ++ (r), Q) : MX) = M at K hQ ⊢
  unfold sp_X4_add at hR
  refine r_aload_n 0 0 K (dk_of tX4_add 0 rfl) rfl rfl ?_
  refine r_getf (C := RX4) (T := TX4) (N := 9) 1 14 0 K (dk_of tX4_add 1 rfl) w121 gwX4 rfl rfl (by decide) rfl ?_
  refine r_nmI hR (fun x1 hR => ?_)
  refine r_istore 4 4 [some (.ref (h 14)), some (.int p1), some (.int p2), some (.int p3), some (.int x1)] K (dk_of tX4_add 2 rfl) rfl rfl (by decide) ?_
  refine r_aload_n 6 0 K (dk_of tX4_add 3 rfl) rfl rfl ?_
  refine r_getf (C := RX4) (T := TX4) (N := 9) 7 14 1 K (dk_of tX4_add 4 rfl) w125 gwX4 rfl rfl (by decide) rfl ?_
  refine r_iload 10 4 K (dk_of tX4_add 5 rfl) rfl ?_
  refine r_iload_n 12 1 K (dk_of tX4_add 6 rfl) rfl rfl ?_
  refine r_iastR 13 15 K (dk_of tX4_add 7 rfl) rfl sB_15 hR (fun hR => ?_)
  refine r_nmS (fun σ2 : St => wB γ h σ2 ++ (r)) hR (fun σ2 hR => ?_)
  refine r_aload_n 14 0 K (dk_of tX4_add 8 rfl) rfl rfl ?_
  refine r_getf (C := RX4) (T := TX4) (N := 9) 15 14 2 K (dk_of tX4_add 9 rfl) w128 gwX4 rfl rfl (by decide) rfl ?_
  refine r_iload 18 4 K (dk_of tX4_add 10 rfl) rfl ?_
  refine r_iload_n 20 2 K (dk_of tX4_add 11 rfl) rfl rfl ?_
  refine r_iastR 21 16 K (dk_of tX4_add 12 rfl) rfl sB_16 hR (fun hR => ?_)
  refine r_nmS (fun σ3 : St => wB γ h σ3 ++ (r)) hR (fun σ3 hR => ?_)
  refine r_aload_n 22 0 K (dk_of tX4_add 13 rfl) rfl rfl ?_
  refine r_getf (C := RX4) (T := TX4) (N := 9) 23 14 4 K (dk_of tX4_add 14 rfl) w133 gwX4 rfl rfl (by decide) rfl ?_
  refine r_iload 26 4 K (dk_of tX4_add 15 rfl) rfl ?_
  refine r_iload_n 28 3 K (dk_of tX4_add 16 rfl) rfl rfl ?_
  refine r_iastR 29 18 K (dk_of tX4_add 17 rfl) rfl sB_18 hR (fun hR => ?_)
  refine r_nmS (fun σ4 : St => wB γ h σ4 ++ (r)) hR (fun σ4 hR => ?_)
  refine r_aload_n 30 0 K (dk_of tX4_add 18 rfl) rfl rfl ?_
  refine r_getf (C := RX4) (T := TX4) (N := 9) 31 14 8 K (dk_of tX4_add 19 rfl) w144 gwX4 rfl rfl (by decide) rfl ?_
  refine r_iload 34 4 K (dk_of tX4_add 20 rfl) rfl ?_
  refine r_iconst 36 (-1) K (dk_of tX4_add 21 rfl) (by decide) ?_
  refine r_iastR 37 22 K (dk_of tX4_add 22 rfl) rfl sB_22 hR (fun hR => ?_)
  refine r_nmS (fun σ5 : St => wB γ h σ5 ++ (r)) hR (fun σ5 hR => ?_)
  refine r_aload_n 38 0 K (dk_of tX4_add 23 rfl) rfl rfl ?_
  refine r_dup 39 K (dk_of tX4_add 24 rfl) rfl ?_
  refine r_getf (C := RX4) (T := TX4) (N := 9) 40 14 0 K (dk_of tX4_add 25 rfl) w121 gwX4 rfl rfl (by decide) rfl ?_
  refine r_iconst 43 (1 : Int32) K (dk_of tX4_add 26 rfl) (by decide) ?_
  refine r_iadd 44 K (dk_of tX4_add 27 rfl) ?_
  refine r_putf (C := RX4) (T := TX4) (N := 9) 45 14 0 K (dk_of tX4_add 28 rfl) w121 gwX4 tyX4_ok nmX4 rfl rfl (by decide) rfl rfl rfl rfl (Nat.le_of_ble_eq_true rfl) sB_14_0 ?_
  refine r_nmS (fun σ6 : St => wB γ h σ6 ++ (r)) hR (fun σ6 hR => ?_)
  refine r_iload 48 4 K (dk_of tX4_add 29 rfl) rfl ?_
  exact r_iret 50 K hQ (dk_of tX4_add 30 rfl) (Nat.zero_le _) (Nat.zero_le _) (lfi (fun u9 : St => wB γ h u9 ++ (r)) hR)

def sp_X4_becomeLike  (σ : St) (τ : St) : Option (St) := sl (stU σ 14 0 (τ 14 0)) (fun σ1 : St => sl (stC σ1 15 (va_cpy (τ 15) (σ1 15) (0 : Int32).toNatClampNeg (0 : Int32).toNatClampNeg (20 : Int32).toNatClampNeg)) (fun σ2 : St => sl (stC σ2 16 (va_cpy (τ 16) (σ2 16) (0 : Int32).toNatClampNeg (0 : Int32).toNatClampNeg (20 : Int32).toNatClampNeg)) (fun σ3 : St => sl (stC σ3 17 (va_cpy (τ 17) (σ3 17) (0 : Int32).toNatClampNeg (0 : Int32).toNatClampNeg (20 : Int32).toNatClampNeg)) (fun σ4 : St => sl (stC σ4 18 (va_cpy (τ 18) (σ4 18) (0 : Int32).toNatClampNeg (0 : Int32).toNatClampNeg (20 : Int32).toNatClampNeg)) (fun σ5 : St => sl (stC σ5 19 (va_cpy (τ 19) (σ5 19) (0 : Int32).toNatClampNeg (0 : Int32).toNatClampNeg (20 : Int32).toNatClampNeg)) (fun σ6 : St => sl (stC σ6 20 (va_cpy (τ 20) (σ6 20) (0 : Int32).toNatClampNeg (0 : Int32).toNatClampNeg (20 : Int32).toNatClampNeg)) (fun σ7 : St => some σ7)))))))
set_option maxHeartbeats 4000000 in
set_option maxRecDepth 100000 in
theorem ct_X4_becomeLike {l : Launch} (hl : l.stackTraces = false) {γ : Gd} {h : Nat → Nat} {g : Nat → Nat} {σ : St} {τ : St} {r : va_W}  {σ0 : St} (hR : some σ0 = sp_X4_becomeLike σ τ) : Ct l γ yX4_becomeLike (Cond.code yX4_becomeLike cX4_becomeLike 2 none) ({ frames := 1, cells := 0, slots := 0, locals := 40 } : Room) [.ref (h 14), .ref (g 14)] (wB γ h σ ++ (wB γ g τ ++ (r))) (Pr none (wB γ h σ0 ++ (wB γ g τ ++ (r)))) 0 0 := by
  refine Ct_of hl (by decide +kernel) rfl (Nat.le_of_ble_eq_true rfl) (L := [some (.ref (h 14)), some (.ref (g 14))]) rfl ?_
  intro X Q K hQ
  generalize ((wB γ h σ ++ (wB γ g τ ++ (r)), Q) : MX) = M at K hQ ⊢
  unfold sp_X4_becomeLike at hR
  refine r_aload_n 0 0 K (dk_of tX4_becomeLike 0 rfl) rfl rfl ?_
  refine r_aload_n 1 1 K (dk_of tX4_becomeLike 1 rfl) rfl rfl ?_
  refine r_getf (C := RX4) (T := TX4) (N := 9) 2 40 0 K (dk_of tX4_becomeLike 2 rfl) w121 gwX4 rfl rfl (by decide) rfl ?_
  refine r_putf (C := RX4) (T := TX4) (N := 9) 5 14 0 K (dk_of tX4_becomeLike 3 rfl) w121 gwX4 tyX4_ok nmX4 rfl rfl (by decide) rfl rfl rfl rfl (Nat.le_of_ble_eq_true rfl) sB_14_0 ?_
  refine r_nmS (fun σ1 : St => wB γ h σ1 ++ (wB γ g τ ++ (r))) hR (fun σ1 hR => ?_)
  refine r_aload_n 8 1 K (dk_of tX4_becomeLike 4 rfl) rfl rfl ?_
  refine r_getf (C := RX4) (T := TX4) (N := 9) 9 40 1 K (dk_of tX4_becomeLike 5 rfl) w125 gwX4 rfl rfl (by decide) rfl ?_
  refine r_iconst 12 (0 : Int32) K (dk_of tX4_becomeLike 6 rfl) (by decide) ?_
  refine r_aload_n 13 0 K (dk_of tX4_becomeLike 7 rfl) rfl rfl ?_
  refine r_getf (C := RX4) (T := TX4) (N := 9) 14 14 1 K (dk_of tX4_becomeLike 8 rfl) w125 gwX4 rfl rfl (by decide) rfl ?_
  refine r_iconst 17 (0 : Int32) K (dk_of tX4_becomeLike 9 rfl) (by decide) ?_
  refine r_bipush 18 (20 : Int32) K (dk_of tX4_becomeLike 10 rfl) (by decide) ?_
  refine r_copy 20 41 15 K w685 w675 w674 w20 (dk_of tX4_becomeLike 11 rfl) rfl rfl (by decide) (by decide) (by decide) (by decide) (by decide) cB_15 rfl ?_
  refine r_nmS (fun σ2 : St => wB γ h σ2 ++ (wB γ g τ ++ (r))) hR (fun σ2 hR => ?_)
  refine r_aload_n 23 1 K (dk_of tX4_becomeLike 12 rfl) rfl rfl ?_
  refine r_getf (C := RX4) (T := TX4) (N := 9) 24 40 2 K (dk_of tX4_becomeLike 13 rfl) w128 gwX4 rfl rfl (by decide) rfl ?_
  refine r_iconst 27 (0 : Int32) K (dk_of tX4_becomeLike 14 rfl) (by decide) ?_
  refine r_aload_n 28 0 K (dk_of tX4_becomeLike 15 rfl) rfl rfl ?_
  refine r_getf (C := RX4) (T := TX4) (N := 9) 29 14 2 K (dk_of tX4_becomeLike 16 rfl) w128 gwX4 rfl rfl (by decide) rfl ?_
  refine r_iconst 32 (0 : Int32) K (dk_of tX4_becomeLike 17 rfl) (by decide) ?_
  refine r_bipush 33 (20 : Int32) K (dk_of tX4_becomeLike 18 rfl) (by decide) ?_
  refine r_copy 35 42 16 K w685 w675 w674 w20 (dk_of tX4_becomeLike 19 rfl) rfl rfl (by decide) (by decide) (by decide) (by decide) (by decide) cB_16 rfl ?_
  refine r_nmS (fun σ3 : St => wB γ h σ3 ++ (wB γ g τ ++ (r))) hR (fun σ3 hR => ?_)
  refine r_aload_n 38 1 K (dk_of tX4_becomeLike 20 rfl) rfl rfl ?_
  refine r_getf (C := RX4) (T := TX4) (N := 9) 39 40 3 K (dk_of tX4_becomeLike 21 rfl) w131 gwX4 rfl rfl (by decide) rfl ?_
  refine r_iconst 42 (0 : Int32) K (dk_of tX4_becomeLike 22 rfl) (by decide) ?_
  refine r_aload_n 43 0 K (dk_of tX4_becomeLike 23 rfl) rfl rfl ?_
  refine r_getf (C := RX4) (T := TX4) (N := 9) 44 14 3 K (dk_of tX4_becomeLike 24 rfl) w131 gwX4 rfl rfl (by decide) rfl ?_
  refine r_iconst 47 (0 : Int32) K (dk_of tX4_becomeLike 25 rfl) (by decide) ?_
  refine r_bipush 48 (20 : Int32) K (dk_of tX4_becomeLike 26 rfl) (by decide) ?_
  refine r_copy 50 43 17 K w685 w675 w674 w20 (dk_of tX4_becomeLike 27 rfl) rfl rfl (by decide) (by decide) (by decide) (by decide) (by decide) cB_17 rfl ?_
  refine r_nmS (fun σ4 : St => wB γ h σ4 ++ (wB γ g τ ++ (r))) hR (fun σ4 hR => ?_)
  refine r_aload_n 53 1 K (dk_of tX4_becomeLike 28 rfl) rfl rfl ?_
  refine r_getf (C := RX4) (T := TX4) (N := 9) 54 40 4 K (dk_of tX4_becomeLike 29 rfl) w133 gwX4 rfl rfl (by decide) rfl ?_
  refine r_iconst 57 (0 : Int32) K (dk_of tX4_becomeLike 30 rfl) (by decide) ?_
  refine r_aload_n 58 0 K (dk_of tX4_becomeLike 31 rfl) rfl rfl ?_
  refine r_getf (C := RX4) (T := TX4) (N := 9) 59 14 4 K (dk_of tX4_becomeLike 32 rfl) w133 gwX4 rfl rfl (by decide) rfl ?_
  refine r_iconst 62 (0 : Int32) K (dk_of tX4_becomeLike 33 rfl) (by decide) ?_
  refine r_bipush 63 (20 : Int32) K (dk_of tX4_becomeLike 34 rfl) (by decide) ?_
  refine r_copy 65 44 18 K w685 w675 w674 w20 (dk_of tX4_becomeLike 35 rfl) rfl rfl (by decide) (by decide) (by decide) (by decide) (by decide) cB_18 rfl ?_
  refine r_nmS (fun σ5 : St => wB γ h σ5 ++ (wB γ g τ ++ (r))) hR (fun σ5 hR => ?_)
  refine r_aload_n 68 1 K (dk_of tX4_becomeLike 36 rfl) rfl rfl ?_
  refine r_getf (C := RX4) (T := TX4) (N := 9) 69 40 5 K (dk_of tX4_becomeLike 37 rfl) w137 gwX4 rfl rfl (by decide) rfl ?_
  refine r_iconst 72 (0 : Int32) K (dk_of tX4_becomeLike 38 rfl) (by decide) ?_
  refine r_aload_n 73 0 K (dk_of tX4_becomeLike 39 rfl) rfl rfl ?_
  refine r_getf (C := RX4) (T := TX4) (N := 9) 74 14 5 K (dk_of tX4_becomeLike 40 rfl) w137 gwX4 rfl rfl (by decide) rfl ?_
  refine r_iconst 77 (0 : Int32) K (dk_of tX4_becomeLike 41 rfl) (by decide) ?_
  refine r_bipush 78 (20 : Int32) K (dk_of tX4_becomeLike 42 rfl) (by decide) ?_
  refine r_copy 80 45 19 K w685 w675 w674 w20 (dk_of tX4_becomeLike 43 rfl) rfl rfl (by decide) (by decide) (by decide) (by decide) (by decide) cB_19 rfl ?_
  refine r_nmS (fun σ6 : St => wB γ h σ6 ++ (wB γ g τ ++ (r))) hR (fun σ6 hR => ?_)
  refine r_aload_n 83 1 K (dk_of tX4_becomeLike 44 rfl) rfl rfl ?_
  refine r_getf (C := RX4) (T := TX4) (N := 9) 84 40 6 K (dk_of tX4_becomeLike 45 rfl) w139 gwX4 rfl rfl (by decide) rfl ?_
  refine r_iconst 87 (0 : Int32) K (dk_of tX4_becomeLike 46 rfl) (by decide) ?_
  refine r_aload_n 88 0 K (dk_of tX4_becomeLike 47 rfl) rfl rfl ?_
  refine r_getf (C := RX4) (T := TX4) (N := 9) 89 14 6 K (dk_of tX4_becomeLike 48 rfl) w139 gwX4 rfl rfl (by decide) rfl ?_
  refine r_iconst 92 (0 : Int32) K (dk_of tX4_becomeLike 49 rfl) (by decide) ?_
  refine r_bipush 93 (20 : Int32) K (dk_of tX4_becomeLike 50 rfl) (by decide) ?_
  refine r_copy 95 46 20 K w685 w675 w674 w20 (dk_of tX4_becomeLike 51 rfl) rfl rfl (by decide) (by decide) (by decide) (by decide) (by decide) cB_20 rfl ?_
  refine r_nmS (fun σ7 : St => wB γ h σ7 ++ (wB γ g τ ++ (r))) hR (fun σ7 hR => ?_)
  exact r_vret 98 K hQ (dk_of tX4_becomeLike 52 rfl) (Nat.zero_le _) (Nat.zero_le _) (lfv (fun u9 : St => wB γ h u9 ++ (wB γ g τ ++ (r))) hR)

def sp_X4_allInStores_4 (σ : St) : Nat → Int32 → Int32 → Option (Int32)
  | 0, _, _ => none
  | n + 1, y1, y2 => if (σ 14 0) ≤ y2 then (some y1) else (if y2 < 0 ∨ 20 ≤ y2.toNatClampNeg then none else (if (σ 15 y2.toNatClampNeg) = (1 : Int32) then (if y2 < 0 ∨ 20 ≤ y2.toNatClampNeg then none else (sl ((y1 + (σ 20 y2.toNatClampNeg))) (fun x3 : Int32 => sp_X4_allInStores_4 σ n x3 (y2 + 1)))) else (sp_X4_allInStores_4 σ n y1 (y2 + 1))))
def sp_X4_allInStores  (σ : St) : Option (Int32) := sp_X4_allInStores_4 σ 200 (0 : Int32) (0 : Int32)
set_option maxHeartbeats 4000000 in
set_option maxRecDepth 100000 in
theorem ct_X4_allInStores {l : Launch} (hl : l.stackTraces = false) {γ : Gd} {h : Nat → Nat} {σ : St} {r : va_W}  {x0 : Int32} (hR : some x0 = sp_X4_allInStores σ) : Ct l γ yX4_allInStores (Cond.code yX4_allInStores cX4_allInStores 3 (some .int)) ({ frames := 0, cells := 0, slots := 0, locals := 0 } : Room) [.ref (h 14)] (wB γ h σ ++ (r)) (Pr (some (.int x0)) (wB γ h σ ++ (r))) 0 0 := by
  refine Ct_of hl (by decide +kernel) rfl (Nat.le_of_ble_eq_true rfl) (L := [some (.ref (h 14)), none, none]) rfl ?_
  intro X Q K hQ
  generalize ((wB γ h σ ++ (r), Q) : MX) = M at K hQ ⊢
  unfold sp_X4_allInStores at hR
  have b4 : ∀  (n : Nat) (y1 : Int32) (y2 : Int32), some x0 = sp_X4_allInStores_4 σ n y1 y2 → V l γ X M (wB γ h σ ++ (r)) [some (.ref (h 14)), some (.int y1), some (.int y2)] 0 0 4 [] := by
    intro  n
    induction n with
    | zero => intro y1 y2 hR; exact nn_ hR
    | succ n ih4 =>
      intro y1 y2 hR
      rw [sp_X4_allInStores_4] at hR
      refine r_iload_n 4 2 K (dk_of tX4_allInStores 4 rfl) rfl rfl ?_
      refine r_aload_n 5 0 K (dk_of tX4_allInStores 5 rfl) rfl rfl ?_
      refine r_getf (C := RX4) (T := TX4) (N := 9) 6 14 0 K (dk_of tX4_allInStores 6 rfl) w121 gwX4 rfl rfl (by decide) rfl ?_
      refine r_ic_ge 9 37 K (dk_of tX4_allInStores 7 rfl) (by decide) hR (fun hR => ?_) (fun hR => ?_)
      · refine r_iload_n 37 1 K (dk_of tX4_allInStores 23 rfl) rfl rfl ?_
        exact r_iret 38 K hQ (dk_of tX4_allInStores 24 rfl) (Nat.zero_le _) (Nat.zero_le _) (lfi0 hR)
      · refine r_aload_n 12 0 K (dk_of tX4_allInStores 8 rfl) rfl rfl ?_
        refine r_getf (C := RX4) (T := TX4) (N := 9) 13 14 1 K (dk_of tX4_allInStores 9 rfl) w125 gwX4 rfl rfl (by decide) rfl ?_
        refine r_iload_n 16 2 K (dk_of tX4_allInStores 10 rfl) rfl rfl ?_
        refine r_ialdR 17 15 K (dk_of tX4_allInStores 11 rfl) rfl hR (fun hR => ?_)
        refine r_iconst 18 (1 : Int32) K (dk_of tX4_allInStores 12 rfl) (by decide) ?_
        refine r_ic_ne 19 31 K (dk_of tX4_allInStores 13 rfl) (by decide) hR (fun hR => ?_) (fun hR => ?_)
        · refine r_iload_n 22 1 K (dk_of tX4_allInStores 14 rfl) rfl rfl ?_
          refine r_aload_n 23 0 K (dk_of tX4_allInStores 15 rfl) rfl rfl ?_
          refine r_getf (C := RX4) (T := TX4) (N := 9) 24 14 6 K (dk_of tX4_allInStores 16 rfl) w139 gwX4 rfl rfl (by decide) rfl ?_
          refine r_iload_n 27 2 K (dk_of tX4_allInStores 17 rfl) rfl rfl ?_
          refine r_ialdR 28 20 K (dk_of tX4_allInStores 18 rfl) rfl hR (fun hR => ?_)
          refine r_iadd 29 K (dk_of tX4_allInStores 19 rfl) ?_
          refine r_nmI hR (fun x3 hR => ?_)
          refine r_istore_n 30 1 [some (.ref (h 14)), some (.int x3), some (.int y2)] K (dk_of tX4_allInStores 20 rfl) rfl rfl rfl (by decide) ?_
          refine r_iinc 31 2 (y2 + 1) [some (.ref (h 14)), some (.int x3), some (.int (y2 + 1))] K (dk_of tX4_allInStores 21 rfl) rfl rfl rfl rfl (by decide) ?_
          refine r_goto 34 4 K (dk_of tX4_allInStores 22 rfl) (by decide) ?_
          exact ih4 x3 (y2 + 1) hR
        · refine r_iinc 31 2 (y2 + 1) [some (.ref (h 14)), some (.int y1), some (.int (y2 + 1))] K (dk_of tX4_allInStores 21 rfl) rfl rfl rfl rfl (by decide) ?_
          refine r_goto 34 4 K (dk_of tX4_allInStores 22 rfl) (by decide) ?_
          exact ih4 y1 (y2 + 1) hR
  refine r_iconst 0 (0 : Int32) K (dk_of tX4_allInStores 0 rfl) (by decide) ?_
  refine r_istore_n 1 1 [some (.ref (h 14)), some (.int (0 : Int32)), none] K (dk_of tX4_allInStores 1 rfl) rfl rfl rfl (by decide) ?_
  refine r_iconst 2 (0 : Int32) K (dk_of tX4_allInStores 2 rfl) (by decide) ?_
  refine r_istore_n 3 2 [some (.ref (h 14)), some (.int (0 : Int32)), some (.int (0 : Int32))] K (dk_of tX4_allInStores 3 rfl) rfl rfl rfl (by decide) ?_
  exact b4 200 (0 : Int32) (0 : Int32) hR

def sp_X4_hasRested (p1 : Int32) (p2 : Int32) (σ : St) : Option (Int32) := if p1 < 0 ∨ 20 ≤ p1.toNatClampNeg then none else (if (σ 22 p1.toNatClampNeg) = (-1 : Int32) then (some (1 : Int32)) else (if p1 < 0 ∨ 20 ≤ p1.toNatClampNeg then none else (if (p2 - (σ 22 p1.toNatClampNeg)) < (12 : Int32) then (some (0 : Int32)) else (some (1 : Int32)))))
set_option maxHeartbeats 4000000 in
set_option maxRecDepth 100000 in
theorem ct_X4_hasRested {l : Launch} (hl : l.stackTraces = false) {γ : Gd} {h : Nat → Nat} {σ : St} {r : va_W} {p1 : Int32} {p2 : Int32} {x0 : Int32} (hR : some x0 = sp_X4_hasRested p1 p2 σ) : Ct l γ yX4_hasRested (Cond.code yX4_hasRested cX4_hasRested 3 (some .boolean)) ({ frames := 0, cells := 0, slots := 0, locals := 0 } : Room) [.ref (h 14), .int p1, .int p2] (wB γ h σ ++ (r)) (Pr (some (.int x0)) (wB γ h σ ++ (r))) 0 0 := by
  refine Ct_of hl (by decide +kernel) rfl (Nat.le_of_ble_eq_true rfl) (L := [some (.ref (h 14)), some (.int p1), some (.int p2)]) rfl ?_
  intro X Q K hQ
  generalize ((wB γ h σ ++ (r), Q) : MX) = M at K hQ ⊢
  unfold sp_X4_hasRested at hR
  refine r_aload_n 0 0 K (dk_of tX4_hasRested 0 rfl) rfl rfl ?_
  refine r_getf (C := RX4) (T := TX4) (N := 9) 1 14 8 K (dk_of tX4_hasRested 1 rfl) w144 gwX4 rfl rfl (by decide) rfl ?_
  refine r_iload_n 4 1 K (dk_of tX4_hasRested 2 rfl) rfl rfl ?_
  refine r_ialdR 5 22 K (dk_of tX4_hasRested 3 rfl) rfl hR (fun hR => ?_)
  refine r_iconst 6 (-1) K (dk_of tX4_hasRested 4 rfl) (by decide) ?_
  refine r_ic_eq 7 23 K (dk_of tX4_hasRested 5 rfl) (by decide) hR (fun hR => ?_) (fun hR => ?_)
  · refine r_iconst 23 (1 : Int32) K (dk_of tX4_hasRested 14 rfl) (by decide) ?_
    refine r_goto 24 28 K (dk_of tX4_hasRested 15 rfl) (by decide) ?_
    exact r_zret 28 K hQ (dk_of tX4_hasRested 17 rfl) zb1 (Nat.zero_le _) (Nat.zero_le _) (lfi0 hR)
  · refine r_iload_n 10 2 K (dk_of tX4_hasRested 6 rfl) rfl rfl ?_
    refine r_aload_n 11 0 K (dk_of tX4_hasRested 7 rfl) rfl rfl ?_
    refine r_getf (C := RX4) (T := TX4) (N := 9) 12 14 8 K (dk_of tX4_hasRested 8 rfl) w144 gwX4 rfl rfl (by decide) rfl ?_
    refine r_iload_n 15 1 K (dk_of tX4_hasRested 9 rfl) rfl rfl ?_
    refine r_ialdR 16 22 K (dk_of tX4_hasRested 10 rfl) rfl hR (fun hR => ?_)
    refine r_isub 17 K (dk_of tX4_hasRested 11 rfl) ?_
    refine r_bipush 18 (12 : Int32) K (dk_of tX4_hasRested 12 rfl) (by decide) ?_
    refine r_ic_lt 20 27 K (dk_of tX4_hasRested 13 rfl) (by decide) hR (fun hR => ?_) (fun hR => ?_)
    · refine r_iconst 27 (0 : Int32) K (dk_of tX4_hasRested 16 rfl) (by decide) ?_
      exact r_zret 28 K hQ (dk_of tX4_hasRested 17 rfl) zb0 (Nat.zero_le _) (Nat.zero_le _) (lfi0 hR)
    · refine r_iconst 23 (1 : Int32) K (dk_of tX4_hasRested 14 rfl) (by decide) ?_
      refine r_goto 24 28 K (dk_of tX4_hasRested 15 rfl) (by decide) ?_
      exact r_zret 28 K hQ (dk_of tX4_hasRested 17 rfl) zb1 (Nat.zero_le _) (Nat.zero_le _) (lfi0 hR)

def sp_X4_canWork (p1 : Int32) (p2 : Int32) (σ : St) : Option (Int32) := if p1 < 0 ∨ 20 ≤ p1.toNatClampNeg then none else (if (σ 21 p1.toNatClampNeg) = 0 then (some (0 : Int32)) else (if p1 < 0 ∨ 20 ≤ p1.toNatClampNeg then none else (if (σ 22 p1.toNatClampNeg) = p2 then (some (0 : Int32)) else (b1 (sp_X4_hasRested p1 p2 σ) (fun (x1 : Int32) => if x1 = 0 then (if p1 < 0 ∨ 20 ≤ p1.toNatClampNeg then none else (if (8 : Int32) ≤ (σ 20 p1.toNatClampNeg) then (some (0 : Int32)) else (some (1 : Int32)))) else (some (1 : Int32)))))))
set_option maxHeartbeats 4000000 in
set_option maxRecDepth 100000 in
theorem ct_X4_canWork {l : Launch} (hl : l.stackTraces = false) {γ : Gd} {h : Nat → Nat} {σ : St} {r : va_W} {p1 : Int32} {p2 : Int32} {x0 : Int32} (hR : some x0 = sp_X4_canWork p1 p2 σ) : Ct l γ yX4_canWork (Cond.code yX4_canWork cX4_canWork 3 (some .boolean)) ({ frames := 1, cells := 0, slots := 0, locals := 22 } : Room) [.ref (h 14), .int p1, .int p2] (wB γ h σ ++ (r)) (Pr (some (.int x0)) (wB γ h σ ++ (r))) 0 0 := by
  refine Ct_of hl (by decide +kernel) rfl (Nat.le_of_ble_eq_true rfl) (L := [some (.ref (h 14)), some (.int p1), some (.int p2)]) rfl ?_
  intro X Q K hQ
  generalize ((wB γ h σ ++ (r), Q) : MX) = M at K hQ ⊢
  unfold sp_X4_canWork at hR
  refine r_aload_n 0 0 K (dk_of tX4_canWork 0 rfl) rfl rfl ?_
  refine r_getf (C := RX4) (T := TX4) (N := 9) 1 14 7 K (dk_of tX4_canWork 1 rfl) w142 gwX4 rfl rfl (by decide) rfl ?_
  refine r_iload_n 4 1 K (dk_of tX4_canWork 2 rfl) rfl rfl ?_
  refine r_zaldR 5 21 K (dk_of tX4_canWork 3 rfl) rfl hR (fun hR => ?_)
  refine r_if_eq 6 19 K (dk_of tX4_canWork 4 rfl) (by decide) hR (fun hR => ?_) (fun hR => ?_)
  · refine r_iconst 19 (0 : Int32) K (dk_of tX4_canWork 11 rfl) (by decide) ?_
    exact r_zret 20 K hQ (dk_of tX4_canWork 12 rfl) zb0 (Nat.zero_le _) (Nat.zero_le _) (lfi0 hR)
  · refine r_aload_n 9 0 K (dk_of tX4_canWork 5 rfl) rfl rfl ?_
    refine r_getf (C := RX4) (T := TX4) (N := 9) 10 14 8 K (dk_of tX4_canWork 6 rfl) w144 gwX4 rfl rfl (by decide) rfl ?_
    refine r_iload_n 13 1 K (dk_of tX4_canWork 7 rfl) rfl rfl ?_
    refine r_ialdR 14 22 K (dk_of tX4_canWork 8 rfl) rfl hR (fun hR => ?_)
    refine r_iload_n 15 2 K (dk_of tX4_canWork 9 rfl) rfl rfl ?_
    refine r_ic_ne 16 21 K (dk_of tX4_canWork 10 rfl) (by decide) hR (fun hR => ?_) (fun hR => ?_)
    · refine r_iconst 19 (0 : Int32) K (dk_of tX4_canWork 11 rfl) (by decide) ?_
      exact r_zret 20 K hQ (dk_of tX4_canWork 12 rfl) zb0 (Nat.zero_le _) (Nat.zero_le _) (lfi0 hR)
    · refine r_aload_n 21 0 K (dk_of tX4_canWork 13 rfl) rfl rfl ?_
      refine r_iload_n 22 1 K (dk_of tX4_canWork 14 rfl) rfl rfl ?_
      refine r_iload_n 23 2 K (dk_of tX4_canWork 15 rfl) rfl rfl ?_
      obtain ⟨x1, hc, hR⟩ := o1 hR
      refine r_cVi 24 14 [.int p1, .int p2] [] x1 (wB γ h σ ++ (r)) K (ct_X4_hasRested hl hc.symm) cs_X4_60 ⟨rfl, rfl, rfl⟩ (dk_of tX4_canWork 16 rfl) rfl rfl rfl rfl rfl rfl ?_
      refine r_if_ne 27 41 K (dk_of tX4_canWork 17 rfl) (by decide) hR (fun hR => ?_) (fun hR => ?_)
      · refine r_aload_n 30 0 K (dk_of tX4_canWork 18 rfl) rfl rfl ?_
        refine r_getf (C := RX4) (T := TX4) (N := 9) 31 14 6 K (dk_of tX4_canWork 19 rfl) w139 gwX4 rfl rfl (by decide) rfl ?_
        refine r_iload_n 34 1 K (dk_of tX4_canWork 20 rfl) rfl rfl ?_
        refine r_ialdR 35 20 K (dk_of tX4_canWork 21 rfl) rfl hR (fun hR => ?_)
        refine r_bipush 36 (8 : Int32) K (dk_of tX4_canWork 22 rfl) (by decide) ?_
        refine r_ic_ge 38 45 K (dk_of tX4_canWork 23 rfl) (by decide) hR (fun hR => ?_) (fun hR => ?_)
        · refine r_iconst 45 (0 : Int32) K (dk_of tX4_canWork 26 rfl) (by decide) ?_
          exact r_zret 46 K hQ (dk_of tX4_canWork 27 rfl) zb0 (Nat.zero_le _) (Nat.zero_le _) (lfi0 hR)
        · refine r_iconst 41 (1 : Int32) K (dk_of tX4_canWork 24 rfl) (by decide) ?_
          refine r_goto 42 46 K (dk_of tX4_canWork 25 rfl) (by decide) ?_
          exact r_zret 46 K hQ (dk_of tX4_canWork 27 rfl) zb1 (Nat.zero_le _) (Nat.zero_le _) (lfi0 hR)
      · refine r_iconst 41 (1 : Int32) K (dk_of tX4_canWork 24 rfl) (by decide) ?_
        refine r_goto 42 46 K (dk_of tX4_canWork 25 rfl) (by decide) ?_
        exact r_zret 46 K hQ (dk_of tX4_canWork 27 rfl) zb1 (Nat.zero_le _) (Nat.zero_le _) (lfi0 hR)

def sp_X4_noteWork_26  (y2 : Int32) (y3 : Int32) (y4 : Int32) (y5 : Int32) (σ6 : St) : Option (St) := if y4 < 0 ∨ 20 ≤ y4.toNatClampNeg then none else (sl (stU σ6 20 y4.toNatClampNeg y5) (fun σ7 : St => if y2 < 0 ∨ 20 ≤ y2.toNatClampNeg then none else (sl (stU σ7 22 y2.toNatClampNeg y3) (fun σ8 : St => some σ8))))
def sp_X4_noteWork (p1 : Int32) (p2 : Int32) (σ : St) : Option (St) := b1 (sp_X4_hasRested p1 p2 σ) (fun (x1 : Int32) => if x1 = 0 then (if p1 < 0 ∨ 20 ≤ p1.toNatClampNeg then none else (sp_X4_noteWork_26 p1 p2 p1 ((σ 20 p1.toNatClampNeg) + (1 : Int32)) σ)) else (sp_X4_noteWork_26 p1 p2 p1 (1 : Int32) σ))
set_option maxHeartbeats 4000000 in
set_option maxRecDepth 100000 in
theorem ct_X4_noteWork {l : Launch} (hl : l.stackTraces = false) {γ : Gd} {h : Nat → Nat} {σ : St} {r : va_W} {p1 : Int32} {p2 : Int32} {σ0 : St} (hR : some σ0 = sp_X4_noteWork p1 p2 σ) : Ct l γ yX4_noteWork (Cond.code yX4_noteWork cX4_noteWork 3 none) ({ frames := 1, cells := 0, slots := 0, locals := 22 } : Room) [.ref (h 14), .int p1, .int p2] (wB γ h σ ++ (r)) (Pr none (wB γ h σ0 ++ (r))) 0 0 := by
  refine Ct_of hl (by decide +kernel) rfl (Nat.le_of_ble_eq_true rfl) (L := [some (.ref (h 14)), some (.int p1), some (.int p2)]) rfl ?_
  intro X Q K hQ
  generalize ((wB γ h σ ++ (r), Q) : MX) = M at K hQ ⊢
  unfold sp_X4_noteWork at hR
  have b26 : ∀ (y2 : Int32) (y3 : Int32) (y4 : Int32) (y5 : Int32) (σ6 : St), some σ0 = sp_X4_noteWork_26  y2 y3 y4 y5 σ6 → V l γ X M (wB γ h σ6 ++ (r)) [some (.ref (h 14)), some (.int y2), some (.int y3)] 0 0 26 [.int y5, .int y4, .ref (h 20)] := by
    intro  y2 y3 y4 y5 σ6 hR
    unfold sp_X4_noteWork_26 at hR
    refine r_iastR 26 20 K (dk_of tX4_noteWork 16 rfl) rfl sB_20 hR (fun hR => ?_)
    refine r_nmS (fun σ7 : St => wB γ h σ7 ++ (r)) hR (fun σ7 hR => ?_)
    refine r_aload_n 27 0 K (dk_of tX4_noteWork 17 rfl) rfl rfl ?_
    refine r_getf (C := RX4) (T := TX4) (N := 9) 28 14 8 K (dk_of tX4_noteWork 18 rfl) w144 gwX4 rfl rfl (by decide) rfl ?_
    refine r_iload_n 31 1 K (dk_of tX4_noteWork 19 rfl) rfl rfl ?_
    refine r_iload_n 32 2 K (dk_of tX4_noteWork 20 rfl) rfl rfl ?_
    refine r_iastR 33 22 K (dk_of tX4_noteWork 21 rfl) rfl sB_22 hR (fun hR => ?_)
    refine r_nmS (fun σ8 : St => wB γ h σ8 ++ (r)) hR (fun σ8 hR => ?_)
    exact r_vret 34 K hQ (dk_of tX4_noteWork 22 rfl) (Nat.zero_le _) (Nat.zero_le _) (lfv (fun u9 : St => wB γ h u9 ++ (r)) hR)
  refine r_aload_n 0 0 K (dk_of tX4_noteWork 0 rfl) rfl rfl ?_
  refine r_getf (C := RX4) (T := TX4) (N := 9) 1 14 6 K (dk_of tX4_noteWork 1 rfl) w139 gwX4 rfl rfl (by decide) rfl ?_
  refine r_iload_n 4 1 K (dk_of tX4_noteWork 2 rfl) rfl rfl ?_
  refine r_aload_n 5 0 K (dk_of tX4_noteWork 3 rfl) rfl rfl ?_
  refine r_iload_n 6 1 K (dk_of tX4_noteWork 4 rfl) rfl rfl ?_
  refine r_iload_n 7 2 K (dk_of tX4_noteWork 5 rfl) rfl rfl ?_
  obtain ⟨x1, hc, hR⟩ := o1 hR
  refine r_cVi 8 14 [.int p1, .int p2] [.int p1, .ref (h 20)] x1 (wB γ h σ ++ (r)) K (ct_X4_hasRested hl hc.symm) cs_X4_60 ⟨rfl, rfl, rfl⟩ (dk_of tX4_noteWork 6 rfl) rfl rfl rfl rfl rfl rfl ?_
  refine r_if_eq 11 18 K (dk_of tX4_noteWork 7 rfl) (by decide) hR (fun hR => ?_) (fun hR => ?_)
  · refine r_aload_n 18 0 K (dk_of tX4_noteWork 10 rfl) rfl rfl ?_
    refine r_getf (C := RX4) (T := TX4) (N := 9) 19 14 6 K (dk_of tX4_noteWork 11 rfl) w139 gwX4 rfl rfl (by decide) rfl ?_
    refine r_iload_n 22 1 K (dk_of tX4_noteWork 12 rfl) rfl rfl ?_
    refine r_ialdR 23 20 K (dk_of tX4_noteWork 13 rfl) rfl hR (fun hR => ?_)
    refine r_iconst 24 (1 : Int32) K (dk_of tX4_noteWork 14 rfl) (by decide) ?_
    refine r_iadd 25 K (dk_of tX4_noteWork 15 rfl) ?_
    exact b26 p1 p2 p1 ((σ 20 p1.toNatClampNeg) + (1 : Int32)) σ hR
  · refine r_iconst 14 (1 : Int32) K (dk_of tX4_noteWork 8 rfl) (by decide) ?_
    refine r_goto 15 26 K (dk_of tX4_noteWork 9 rfl) (by decide) ?_
    exact b26 p1 p2 p1 (1 : Int32) σ hR
