def sp_X0_tideOf (p1 : Int32)  : Option (Int32) := sl ((p1 - p1 / (12 : Int32) * (12 : Int32))) (fun x1 : Int32 => if (6 : Int32) < x1 then (some ((12 : Int32) - x1)) else (some x1))
set_option maxHeartbeats 4000000 in
set_option maxRecDepth 100000 in
theorem ct_X0_tideOf {l : Launch} (hl : l.stackTraces = false) {γ : Gd}   {w : va_W} {p1 : Int32} {x0 : Int32} (hR : some x0 = sp_X0_tideOf p1) : Ct l γ yX0_tideOf (Cond.code yX0_tideOf cX0_tideOf 2 (some .int)) ({ frames := 0, cells := 0, slots := 0, locals := 0 } : Room) [.int p1] (w) (Pr (some (.int x0)) (w)) 0 0 := by
  refine Ct_of hl (by decide +kernel) rfl (Nat.le_of_ble_eq_true rfl) (L := [some (.int p1), none]) rfl ?_
  intro X Q K hQ
  generalize ((w, Q) : MX) = M at K hQ ⊢
  unfold sp_X0_tideOf at hR
  refine r_iload_n 0 0 K (dk_of tX0_tideOf 0 rfl) rfl rfl ?_
  refine r_bipush 1 (12 : Int32) K (dk_of tX0_tideOf 1 rfl) (by decide) ?_
  refine r_irem 3 K (dk_of tX0_tideOf 2 rfl) (by decide) ?_
  refine r_nmI hR (fun x1 hR => ?_)
  refine r_istore_n 4 1 [some (.int p1), some (.int x1)] K (dk_of tX0_tideOf 3 rfl) rfl rfl rfl (by decide) ?_
  refine r_iload_n 5 1 K (dk_of tX0_tideOf 4 rfl) rfl rfl ?_
  refine r_bipush 6 (6 : Int32) K (dk_of tX0_tideOf 5 rfl) (by decide) ?_
  refine r_ic_gt 8 15 K (dk_of tX0_tideOf 6 rfl) (by decide) hR (fun hR => ?_) (fun hR => ?_)
  · refine r_bipush 15 (12 : Int32) K (dk_of tX0_tideOf 9 rfl) (by decide) ?_
    refine r_iload_n 17 1 K (dk_of tX0_tideOf 10 rfl) rfl rfl ?_
    refine r_isub 18 K (dk_of tX0_tideOf 11 rfl) ?_
    exact r_iret 19 K hQ (dk_of tX0_tideOf 12 rfl) (Nat.zero_le _) (Nat.zero_le _) (lfi0 hR)
  · refine r_iload_n 11 1 K (dk_of tX0_tideOf 7 rfl) rfl rfl ?_
    refine r_goto 12 19 K (dk_of tX0_tideOf 8 rfl) (by decide) ?_
    exact r_iret 19 K hQ (dk_of tX0_tideOf 12 rfl) (Nat.zero_le _) (Nat.zero_le _) (lfi0 hR)

def sp_X0_leak_10 (y2 : Int32) : Nat → Int32 → St → Option (St)
  | 0, _, _ => none
  | n + 1, y3, σ4 => if (σ4 10 0) ≤ y3 then (some σ4) else (b1 (sp_X8_leakOf y3 y2 σ4) (fun (x5 : Int32) => if y3 < 0 ∨ 4 ≤ y3.toNatClampNeg then none else (if y3 < 0 ∨ 4 ≤ y3.toNatClampNeg then none else (sl (stU σ4 12 y3.toNatClampNeg ((σ4 12 y3.toNatClampNeg) - x5)) (fun σ6 : St => if y3 < 0 ∨ 4 ≤ y3.toNatClampNeg then none else (if (σ6 11 y3.toNatClampNeg) < 0 ∨ 24 ≤ (σ6 11 y3.toNatClampNeg).toNatClampNeg then none else (if (σ6 11 y3.toNatClampNeg) < 0 ∨ 24 ≤ (σ6 11 y3.toNatClampNeg).toNatClampNeg then none else (sl (stU σ6 4 (σ6 11 y3.toNatClampNeg).toNatClampNeg ((σ6 4 (σ6 11 y3.toNatClampNeg).toNatClampNeg) + x5)) (fun σ7 : St => b1 (sp_X1_noteLeak x5 (σ7 0 4) σ7) (fun (σ8 : St) => sp_X0_leak_10 y2 n (y3 + 1) σ8))))))))))
def sp_X0_leak  (σ : St) : Option (St) := b1 (sp_X0_tideOf (σ 0 4)) (fun (x1 : Int32) => sp_X0_leak_10 x1 200 (0 : Int32) σ)
set_option maxHeartbeats 4000000 in
set_option maxRecDepth 100000 in
theorem ct_X0_leak {l : Launch} (hl : l.stackTraces = false) {γ : Gd} {h : Nat → Nat} {σ : St} {r : va_W}  {σ0 : St} (hR : some σ0 = sp_X0_leak σ) : Ct l γ yX0_leak (Cond.code yX0_leak cX0_leak 4 none) ({ frames := 2, cells := 0, slots := 0, locals := 38 } : Room) [.ref (h 0)] (wB γ h σ ++ (r)) (Pr none (wB γ h σ0 ++ (r))) 0 0 := by
  refine Ct_of hl (by decide +kernel) rfl (Nat.le_of_ble_eq_true rfl) (L := [some (.ref (h 0)), none, none, none]) rfl ?_
  intro X Q K hQ
  generalize ((wB γ h σ ++ (r), Q) : MX) = M at K hQ ⊢
  unfold sp_X0_leak at hR
  have b10 : ∀ (y2 : Int32) (n : Nat) (y3 : Int32) (σ4 : St), some σ0 = sp_X0_leak_10 y2 n y3 σ4 → V l γ X M (wB γ h σ4 ++ (r)) [some (.ref (h 0)), some (.int y2), some (.int y3), none] 0 0 10 [] := by
    intro y2 n
    induction n with
    | zero => intro y3 σ4 hR; exact nn_ hR
    | succ n ih10 =>
      intro y3 σ4 hR
      rw [sp_X0_leak_10] at hR
      refine r_iload_n 10 2 K (dk_of tX0_leak 6 rfl) rfl rfl ?_
      refine r_aload_n 11 0 K (dk_of tX0_leak 7 rfl) rfl rfl ?_
      refine r_getf (C := RX0) (T := TX0) (N := 9) 12 0 1 K (dk_of tX0_leak 8 rfl) w204 gwX0 rfl rfl (by decide) rfl ?_
      refine r_getf (C := RX8) (T := TX8) (N := 4) 15 10 0 K (dk_of tX0_leak 9 rfl) w95 gwX8 rfl rfl (by decide) rfl ?_
      refine r_ic_ge 18 83 K (dk_of tX0_leak 10 rfl) (by decide) hR (fun hR => ?_) (fun hR => ?_)
      · exact r_vret 83 K hQ (dk_of tX0_leak 47 rfl) (Nat.zero_le _) (Nat.zero_le _) (lfv (fun u9 : St => wB γ h u9 ++ (r)) hR)
      · refine r_aload_n 21 0 K (dk_of tX0_leak 11 rfl) rfl rfl ?_
        refine r_getf (C := RX0) (T := TX0) (N := 9) 22 0 1 K (dk_of tX0_leak 12 rfl) w204 gwX0 rfl rfl (by decide) rfl ?_
        refine r_iload_n 25 2 K (dk_of tX0_leak 13 rfl) rfl rfl ?_
        refine r_iload_n 26 1 K (dk_of tX0_leak 14 rfl) rfl rfl ?_
        obtain ⟨x5, hc, hR⟩ := o1 hR
        refine r_cVi 27 10 [.int y3, .int y2] [] x5 (wB γ h σ4 ++ (r)) K (ct_X8_leakOf hl hc.symm) cs_X0_91 ⟨rfl, rfl, rfl⟩ (dk_of tX0_leak 15 rfl) rfl rfl rfl rfl rfl rfl ?_
        refine r_istore_n 30 3 [some (.ref (h 0)), some (.int y2), some (.int y3), some (.int x5)] K (dk_of tX0_leak 16 rfl) rfl rfl rfl (by decide) ?_
        refine r_aload_n 31 0 K (dk_of tX0_leak 17 rfl) rfl rfl ?_
        refine r_getf (C := RX0) (T := TX0) (N := 9) 32 0 1 K (dk_of tX0_leak 18 rfl) w204 gwX0 rfl rfl (by decide) rfl ?_
        refine r_getf (C := RX8) (T := TX8) (N := 4) 35 10 2 K (dk_of tX0_leak 19 rfl) w102 gwX8 rfl rfl (by decide) rfl ?_
        refine r_iload_n 38 2 K (dk_of tX0_leak 20 rfl) rfl rfl ?_
        refine r_dup2 39 K (dk_of tX0_leak 21 rfl) rfl rfl ?_
        refine r_ialdR 40 12 K (dk_of tX0_leak 22 rfl) rfl hR (fun hR => ?_)
        refine r_iload_n 41 3 K (dk_of tX0_leak 23 rfl) rfl rfl ?_
        refine r_isub 42 K (dk_of tX0_leak 24 rfl) ?_
        refine r_iastR 43 12 K (dk_of tX0_leak 25 rfl) rfl sB_12 hR (fun hR => ?_)
        refine r_nmS (fun σ6 : St => wB γ h σ6 ++ (r)) hR (fun σ6 hR => ?_)
        refine r_aload_n 44 0 K (dk_of tX0_leak 26 rfl) rfl rfl ?_
        refine r_getf (C := RX0) (T := TX0) (N := 9) 45 0 0 K (dk_of tX0_leak 27 rfl) w200 gwX0 rfl rfl (by decide) rfl ?_
        refine r_getf (C := RX2) (T := TX2) (N := 8) 48 1 2 K (dk_of tX0_leak 28 rfl) w52 gwX2 rfl rfl (by decide) rfl ?_
        refine r_aload_n 51 0 K (dk_of tX0_leak 29 rfl) rfl rfl ?_
        refine r_getf (C := RX0) (T := TX0) (N := 9) 52 0 1 K (dk_of tX0_leak 30 rfl) w204 gwX0 rfl rfl (by decide) rfl ?_
        refine r_getf (C := RX8) (T := TX8) (N := 4) 55 10 1 K (dk_of tX0_leak 31 rfl) w99 gwX8 rfl rfl (by decide) rfl ?_
        refine r_iload_n 58 2 K (dk_of tX0_leak 32 rfl) rfl rfl ?_
        refine r_ialdR 59 11 K (dk_of tX0_leak 33 rfl) rfl hR (fun hR => ?_)
        refine r_dup2 60 K (dk_of tX0_leak 34 rfl) rfl rfl ?_
        refine r_ialdR 61 4 K (dk_of tX0_leak 35 rfl) rfl hR (fun hR => ?_)
        refine r_iload_n 62 3 K (dk_of tX0_leak 36 rfl) rfl rfl ?_
        refine r_iadd 63 K (dk_of tX0_leak 37 rfl) ?_
        refine r_iastR 64 4 K (dk_of tX0_leak 38 rfl) rfl sB_4 hR (fun hR => ?_)
        refine r_nmS (fun σ7 : St => wB γ h σ7 ++ (r)) hR (fun σ7 hR => ?_)
        refine r_aload_n 65 0 K (dk_of tX0_leak 39 rfl) rfl rfl ?_
        refine r_getf (C := RX0) (T := TX0) (N := 9) 66 0 3 K (dk_of tX0_leak 40 rfl) w210 gwX0 rfl rfl (by decide) rfl ?_
        refine r_iload_n 69 3 K (dk_of tX0_leak 41 rfl) rfl rfl ?_
        refine r_aload_n 70 0 K (dk_of tX0_leak 42 rfl) rfl rfl ?_
        refine r_getf (C := RX0) (T := TX0) (N := 9) 71 0 4 K (dk_of tX0_leak 43 rfl) w213 gwX0 rfl rfl (by decide) rfl ?_
        obtain ⟨σ8, hc, hR⟩ := o1 hR
        refine r_cVv 74 23 [.int x5, .int (σ7 0 4)] [] (wB γ h σ8 ++ (r)) K (ct_X1_noteLeak hl hc.symm) cs_X0_104 ⟨rfl, rfl, rfl⟩ (dk_of tX0_leak 44 rfl) rfl rfl rfl rfl rfl rfl ?_
        refine r_iinc 77 2 (y3 + 1) [some (.ref (h 0)), some (.int y2), some (.int (y3 + 1)), some (.int x5)] K (dk_of tX0_leak 45 rfl) rfl rfl rfl rfl (by decide) ?_
        refine r_goto 80 10 K (dk_of tX0_leak 46 rfl) (by decide) ?_
        exact r_msk [true, true, true, false] [some (.ref (h 0)), some (.int y2), some (.int (y3 + 1)), none] rfl (ih10 (y3 + 1) σ8 hR)
  refine r_aload_n 0 0 K (dk_of tX0_leak 0 rfl) rfl rfl ?_
  refine r_getf (C := RX0) (T := TX0) (N := 9) 1 0 4 K (dk_of tX0_leak 1 rfl) w213 gwX0 rfl rfl (by decide) rfl ?_
  obtain ⟨x1, hc, hR⟩ := o1 hR
  refine r_cSi 4 [.int (σ 0 4)] [] x1 (wB γ h σ ++ (r)) K (ct_X0_tideOf hl hc.symm) cs_X0_75 ⟨rfl, rfl, rfl⟩ (dk_of tX0_leak 2 rfl) rfl rfl rfl rfl ?_
  refine r_istore_n 7 1 [some (.ref (h 0)), some (.int x1), none, none] K (dk_of tX0_leak 3 rfl) rfl rfl rfl (by decide) ?_
  refine r_iconst 8 (0 : Int32) K (dk_of tX0_leak 4 rfl) (by decide) ?_
  refine r_istore_n 9 2 [some (.ref (h 0)), some (.int x1), some (.int (0 : Int32)), none] K (dk_of tX0_leak 5 rfl) rfl rfl rfl (by decide) ?_
  exact b10 x1 200 (0 : Int32) σ hR

def sp_X0_weather_2  : Nat → Int32 → St → Option (St)
  | 0, _, _ => none
  | n + 1, y1, σ2 => if (24 : Int32) ≤ y1 then (some σ2) else (if y1 < 0 ∨ 24 ≤ y1.toNatClampNeg then none else (sl (((σ2 4 y1.toNatClampNeg) / (20 : Int32))) (fun x3 : Int32 => if y1 < 0 ∨ 24 ≤ y1.toNatClampNeg then none else (if y1 < 0 ∨ 24 ≤ y1.toNatClampNeg then none else (sl (stU σ2 4 y1.toNatClampNeg ((σ2 4 y1.toNatClampNeg) - x3)) (fun σ4 : St => sl (stU σ4 23 2 ((σ4 23 2) + x3)) (fun σ5 : St => if y1 < 0 ∨ 24 ≤ y1.toNatClampNeg then none else (sl (((σ5 4 y1.toNatClampNeg) / (10 : Int32))) (fun x6 : Int32 => if y1 < 0 ∨ 24 ≤ y1.toNatClampNeg then none else (if y1 < 0 ∨ 24 ≤ y1.toNatClampNeg then none else (sl (stU σ5 4 y1.toNatClampNeg ((σ5 4 y1.toNatClampNeg) - x6)) (fun σ7 : St => if y1 < 0 ∨ 24 ≤ y1.toNatClampNeg then none else (if y1 < 0 ∨ 24 ≤ y1.toNatClampNeg then none else (sl (stU σ7 5 y1.toNatClampNeg ((σ7 5 y1.toNatClampNeg) + x6)) (fun σ8 : St => if y1 < 0 ∨ 24 ≤ y1.toNatClampNeg then none else (sl (((σ8 5 y1.toNatClampNeg) / (50 : Int32))) (fun x9 : Int32 => if y1 < 0 ∨ 24 ≤ y1.toNatClampNeg then none else (if y1 < 0 ∨ 24 ≤ y1.toNatClampNeg then none else (sl (stU σ8 5 y1.toNatClampNeg ((σ8 5 y1.toNatClampNeg) - x9)) (fun σ10 : St => sl (stU σ10 23 3 ((σ10 23 3) + x9)) (fun σ11 : St => sp_X0_weather_2 n (y1 + 1) σ11)))))))))))))))))))))
def sp_X0_weather  (σ : St) : Option (St) := sp_X0_weather_2 200 (0 : Int32) σ
set_option maxHeartbeats 4000000 in
set_option maxRecDepth 100000 in
theorem ct_X0_weather {l : Launch} (hl : l.stackTraces = false) {γ : Gd} {h : Nat → Nat} {σ : St} {r : va_W}  {σ0 : St} (hR : some σ0 = sp_X0_weather σ) : Ct l γ yX0_weather (Cond.code yX0_weather cX0_weather 5 none) ({ frames := 0, cells := 0, slots := 0, locals := 0 } : Room) [.ref (h 0)] (wB γ h σ ++ (r)) (Pr none (wB γ h σ0 ++ (r))) 0 0 := by
  refine Ct_of hl (by decide +kernel) rfl (Nat.le_of_ble_eq_true rfl) (L := [some (.ref (h 0)), none, none, none, none]) rfl ?_
  intro X Q K hQ
  generalize ((wB γ h σ ++ (r), Q) : MX) = M at K hQ ⊢
  unfold sp_X0_weather at hR
  have b2 : ∀  (n : Nat) (y1 : Int32) (σ2 : St), some σ0 = sp_X0_weather_2  n y1 σ2 → V l γ X M (wB γ h σ2 ++ (r)) [some (.ref (h 0)), some (.int y1), none, none, none] 0 0 2 [] := by
    intro  n
    induction n with
    | zero => intro y1 σ2 hR; exact nn_ hR
    | succ n ih2 =>
      intro y1 σ2 hR
      rw [sp_X0_weather_2] at hR
      refine r_iload_n 2 1 K (dk_of tX0_weather 2 rfl) rfl rfl ?_
      refine r_bipush 3 (24 : Int32) K (dk_of tX0_weather 3 rfl) (by decide) ?_
      refine r_ic_ge 5 134 K (dk_of tX0_weather 4 rfl) (by decide) hR (fun hR => ?_) (fun hR => ?_)
      · exact r_vret 134 K hQ (dk_of tX0_weather 81 rfl) (Nat.zero_le _) (Nat.zero_le _) (lfv (fun u9 : St => wB γ h u9 ++ (r)) hR)
      · refine r_aload_n 8 0 K (dk_of tX0_weather 5 rfl) rfl rfl ?_
        refine r_getf (C := RX0) (T := TX0) (N := 9) 9 0 0 K (dk_of tX0_weather 6 rfl) w200 gwX0 rfl rfl (by decide) rfl ?_
        refine r_getf (C := RX2) (T := TX2) (N := 8) 12 1 2 K (dk_of tX0_weather 7 rfl) w52 gwX2 rfl rfl (by decide) rfl ?_
        refine r_iload_n 15 1 K (dk_of tX0_weather 8 rfl) rfl rfl ?_
        refine r_ialdR 16 4 K (dk_of tX0_weather 9 rfl) rfl hR (fun hR => ?_)
        refine r_bipush 17 (20 : Int32) K (dk_of tX0_weather 10 rfl) (by decide) ?_
        refine r_idiv 19 K (dk_of tX0_weather 11 rfl) (by decide) ?_
        refine r_nmI hR (fun x3 hR => ?_)
        refine r_istore_n 20 2 [some (.ref (h 0)), some (.int y1), some (.int x3), none, none] K (dk_of tX0_weather 12 rfl) rfl rfl rfl (by decide) ?_
        refine r_aload_n 21 0 K (dk_of tX0_weather 13 rfl) rfl rfl ?_
        refine r_getf (C := RX0) (T := TX0) (N := 9) 22 0 0 K (dk_of tX0_weather 14 rfl) w200 gwX0 rfl rfl (by decide) rfl ?_
        refine r_getf (C := RX2) (T := TX2) (N := 8) 25 1 2 K (dk_of tX0_weather 15 rfl) w52 gwX2 rfl rfl (by decide) rfl ?_
        refine r_iload_n 28 1 K (dk_of tX0_weather 16 rfl) rfl rfl ?_
        refine r_dup2 29 K (dk_of tX0_weather 17 rfl) rfl rfl ?_
        refine r_ialdR 30 4 K (dk_of tX0_weather 18 rfl) rfl hR (fun hR => ?_)
        refine r_iload_n 31 2 K (dk_of tX0_weather 19 rfl) rfl rfl ?_
        refine r_isub 32 K (dk_of tX0_weather 20 rfl) ?_
        refine r_iastR 33 4 K (dk_of tX0_weather 21 rfl) rfl sB_4 hR (fun hR => ?_)
        refine r_nmS (fun σ4 : St => wB γ h σ4 ++ (r)) hR (fun σ4 hR => ?_)
        refine r_aload_n 34 0 K (dk_of tX0_weather 22 rfl) rfl rfl ?_
        refine r_getf (C := RX0) (T := TX0) (N := 9) 35 0 3 K (dk_of tX0_weather 23 rfl) w210 gwX0 rfl rfl (by decide) rfl ?_
        refine r_dup 38 K (dk_of tX0_weather 24 rfl) rfl ?_
        refine r_getf (C := RX1) (T := TX1) (N := 7) 39 23 2 K (dk_of tX0_weather 25 rfl) w175 gwX1 rfl rfl (by decide) rfl ?_
        refine r_iload_n 42 2 K (dk_of tX0_weather 26 rfl) rfl rfl ?_
        refine r_iadd 43 K (dk_of tX0_weather 27 rfl) ?_
        refine r_putf (C := RX1) (T := TX1) (N := 7) 44 23 2 K (dk_of tX0_weather 28 rfl) w175 gwX1 tyX1_ok nmX1 rfl rfl (by decide) rfl rfl rfl rfl (Nat.le_of_ble_eq_true rfl) sB_23_2 ?_
        refine r_nmS (fun σ5 : St => wB γ h σ5 ++ (r)) hR (fun σ5 hR => ?_)
        refine r_aload_n 47 0 K (dk_of tX0_weather 29 rfl) rfl rfl ?_
        refine r_getf (C := RX0) (T := TX0) (N := 9) 48 0 0 K (dk_of tX0_weather 30 rfl) w200 gwX0 rfl rfl (by decide) rfl ?_
        refine r_getf (C := RX2) (T := TX2) (N := 8) 51 1 2 K (dk_of tX0_weather 31 rfl) w52 gwX2 rfl rfl (by decide) rfl ?_
        refine r_iload_n 54 1 K (dk_of tX0_weather 32 rfl) rfl rfl ?_
        refine r_ialdR 55 4 K (dk_of tX0_weather 33 rfl) rfl hR (fun hR => ?_)
        refine r_bipush 56 (10 : Int32) K (dk_of tX0_weather 34 rfl) (by decide) ?_
        refine r_idiv 58 K (dk_of tX0_weather 35 rfl) (by decide) ?_
        refine r_nmI hR (fun x6 hR => ?_)
        refine r_istore_n 59 3 [some (.ref (h 0)), some (.int y1), some (.int x3), some (.int x6), none] K (dk_of tX0_weather 36 rfl) rfl rfl rfl (by decide) ?_
        refine r_aload_n 60 0 K (dk_of tX0_weather 37 rfl) rfl rfl ?_
        refine r_getf (C := RX0) (T := TX0) (N := 9) 61 0 0 K (dk_of tX0_weather 38 rfl) w200 gwX0 rfl rfl (by decide) rfl ?_
        refine r_getf (C := RX2) (T := TX2) (N := 8) 64 1 2 K (dk_of tX0_weather 39 rfl) w52 gwX2 rfl rfl (by decide) rfl ?_
        refine r_iload_n 67 1 K (dk_of tX0_weather 40 rfl) rfl rfl ?_
        refine r_dup2 68 K (dk_of tX0_weather 41 rfl) rfl rfl ?_
        refine r_ialdR 69 4 K (dk_of tX0_weather 42 rfl) rfl hR (fun hR => ?_)
        refine r_iload_n 70 3 K (dk_of tX0_weather 43 rfl) rfl rfl ?_
        refine r_isub 71 K (dk_of tX0_weather 44 rfl) ?_
        refine r_iastR 72 4 K (dk_of tX0_weather 45 rfl) rfl sB_4 hR (fun hR => ?_)
        refine r_nmS (fun σ7 : St => wB γ h σ7 ++ (r)) hR (fun σ7 hR => ?_)
        refine r_aload_n 73 0 K (dk_of tX0_weather 46 rfl) rfl rfl ?_
        refine r_getf (C := RX0) (T := TX0) (N := 9) 74 0 0 K (dk_of tX0_weather 47 rfl) w200 gwX0 rfl rfl (by decide) rfl ?_
        refine r_getf (C := RX2) (T := TX2) (N := 8) 77 1 3 K (dk_of tX0_weather 48 rfl) w57 gwX2 rfl rfl (by decide) rfl ?_
        refine r_iload_n 80 1 K (dk_of tX0_weather 49 rfl) rfl rfl ?_
        refine r_dup2 81 K (dk_of tX0_weather 50 rfl) rfl rfl ?_
        refine r_ialdR 82 5 K (dk_of tX0_weather 51 rfl) rfl hR (fun hR => ?_)
        refine r_iload_n 83 3 K (dk_of tX0_weather 52 rfl) rfl rfl ?_
        refine r_iadd 84 K (dk_of tX0_weather 53 rfl) ?_
        refine r_iastR 85 5 K (dk_of tX0_weather 54 rfl) rfl sB_5 hR (fun hR => ?_)
        refine r_nmS (fun σ8 : St => wB γ h σ8 ++ (r)) hR (fun σ8 hR => ?_)
        refine r_aload_n 86 0 K (dk_of tX0_weather 55 rfl) rfl rfl ?_
        refine r_getf (C := RX0) (T := TX0) (N := 9) 87 0 0 K (dk_of tX0_weather 56 rfl) w200 gwX0 rfl rfl (by decide) rfl ?_
        refine r_getf (C := RX2) (T := TX2) (N := 8) 90 1 3 K (dk_of tX0_weather 57 rfl) w57 gwX2 rfl rfl (by decide) rfl ?_
        refine r_iload_n 93 1 K (dk_of tX0_weather 58 rfl) rfl rfl ?_
        refine r_ialdR 94 5 K (dk_of tX0_weather 59 rfl) rfl hR (fun hR => ?_)
        refine r_bipush 95 (50 : Int32) K (dk_of tX0_weather 60 rfl) (by decide) ?_
        refine r_idiv 97 K (dk_of tX0_weather 61 rfl) (by decide) ?_
        refine r_nmI hR (fun x9 hR => ?_)
        refine r_istore 98 4 [some (.ref (h 0)), some (.int y1), some (.int x3), some (.int x6), some (.int x9)] K (dk_of tX0_weather 62 rfl) rfl rfl (by decide) ?_
        refine r_aload_n 100 0 K (dk_of tX0_weather 63 rfl) rfl rfl ?_
        refine r_getf (C := RX0) (T := TX0) (N := 9) 101 0 0 K (dk_of tX0_weather 64 rfl) w200 gwX0 rfl rfl (by decide) rfl ?_
        refine r_getf (C := RX2) (T := TX2) (N := 8) 104 1 3 K (dk_of tX0_weather 65 rfl) w57 gwX2 rfl rfl (by decide) rfl ?_
        refine r_iload_n 107 1 K (dk_of tX0_weather 66 rfl) rfl rfl ?_
        refine r_dup2 108 K (dk_of tX0_weather 67 rfl) rfl rfl ?_
        refine r_ialdR 109 5 K (dk_of tX0_weather 68 rfl) rfl hR (fun hR => ?_)
        refine r_iload 110 4 K (dk_of tX0_weather 69 rfl) rfl ?_
        refine r_isub 112 K (dk_of tX0_weather 70 rfl) ?_
        refine r_iastR 113 5 K (dk_of tX0_weather 71 rfl) rfl sB_5 hR (fun hR => ?_)
        refine r_nmS (fun σ10 : St => wB γ h σ10 ++ (r)) hR (fun σ10 hR => ?_)
        refine r_aload_n 114 0 K (dk_of tX0_weather 72 rfl) rfl rfl ?_
        refine r_getf (C := RX0) (T := TX0) (N := 9) 115 0 3 K (dk_of tX0_weather 73 rfl) w210 gwX0 rfl rfl (by decide) rfl ?_
        refine r_dup 118 K (dk_of tX0_weather 74 rfl) rfl ?_
        refine r_getf (C := RX1) (T := TX1) (N := 7) 119 23 3 K (dk_of tX0_weather 75 rfl) w177 gwX1 rfl rfl (by decide) rfl ?_
        refine r_iload 122 4 K (dk_of tX0_weather 76 rfl) rfl ?_
        refine r_iadd 124 K (dk_of tX0_weather 77 rfl) ?_
        refine r_putf (C := RX1) (T := TX1) (N := 7) 125 23 3 K (dk_of tX0_weather 78 rfl) w177 gwX1 tyX1_ok nmX1 rfl rfl (by decide) rfl rfl rfl rfl (Nat.le_of_ble_eq_true rfl) sB_23_3 ?_
        refine r_nmS (fun σ11 : St => wB γ h σ11 ++ (r)) hR (fun σ11 hR => ?_)
        refine r_iinc 128 1 (y1 + 1) [some (.ref (h 0)), some (.int (y1 + 1)), some (.int x3), some (.int x6), some (.int x9)] K (dk_of tX0_weather 79 rfl) rfl rfl rfl rfl (by decide) ?_
        refine r_goto 131 2 K (dk_of tX0_weather 80 rfl) (by decide) ?_
        exact r_msk [true, true, false, false, false] [some (.ref (h 0)), some (.int (y1 + 1)), none, none, none] rfl (ih2 (y1 + 1) σ11 hR)
  refine r_iconst 0 (0 : Int32) K (dk_of tX0_weather 0 rfl) (by decide) ?_
  refine r_istore_n 1 1 [some (.ref (h 0)), some (.int (0 : Int32)), none, none, none] K (dk_of tX0_weather 1 rfl) rfl rfl rfl (by decide) ?_
  exact b2 200 (0 : Int32) σ hR

def sp_X0_roomBehind (p1 : Int32) (σ : St) : Option (Int32) := b1 (sp_X2_beside p1 (σ 0 5)) (fun (x1 : Int32) => if x1 = (-1 : Int32) then (some (1000000 : Int32)) else (b1 (sp_X2_isWater x1 σ) (fun (x2 : Int32) => if x2 = 0 then (b1 (sp_X2_roomOf x1 σ) (fun (x3 : Int32) => some x3)) else (some (1000000 : Int32)))))
set_option maxHeartbeats 4000000 in
set_option maxRecDepth 100000 in
theorem ct_X0_roomBehind {l : Launch} (hl : l.stackTraces = false) {γ : Gd} {h : Nat → Nat} {σ : St} {r : va_W} {p1 : Int32} {x0 : Int32} (hR : some x0 = sp_X0_roomBehind p1 σ) : Ct l γ yX0_roomBehind (Cond.code yX0_roomBehind cX0_roomBehind 3 (some .int)) ({ frames := 1, cells := 0, slots := 0, locals := 23 } : Room) [.ref (h 0), .int p1] (wB γ h σ ++ (r)) (Pr (some (.int x0)) (wB γ h σ ++ (r))) 0 0 := by
  refine Ct_of hl (by decide +kernel) rfl (Nat.le_of_ble_eq_true rfl) (L := [some (.ref (h 0)), some (.int p1), none]) rfl ?_
  intro X Q K hQ
  generalize ((wB γ h σ ++ (r), Q) : MX) = M at K hQ ⊢
  unfold sp_X0_roomBehind at hR
  refine r_iload_n 0 1 K (dk_of tX0_roomBehind 0 rfl) rfl rfl ?_
  refine r_aload_n 1 0 K (dk_of tX0_roomBehind 1 rfl) rfl rfl ?_
  refine r_getf (C := RX0) (T := TX0) (N := 9) 2 0 5 K (dk_of tX0_roomBehind 2 rfl) w215 gwX0 rfl rfl (by decide) rfl ?_
  obtain ⟨x1, hc, hR⟩ := o1 hR
  refine r_cSi 5 [.int p1, .int (σ 0 5)] [] x1 (wB γ h σ ++ (r)) K (ct_X2_beside hl hc.symm) cs_X0_121 ⟨rfl, rfl, rfl⟩ (dk_of tX0_roomBehind 3 rfl) rfl rfl rfl rfl ?_
  refine r_istore_n 8 2 [some (.ref (h 0)), some (.int p1), some (.int x1)] K (dk_of tX0_roomBehind 4 rfl) rfl rfl rfl (by decide) ?_
  refine r_iload_n 9 2 K (dk_of tX0_roomBehind 5 rfl) rfl rfl ?_
  refine r_iconst 10 (-1) K (dk_of tX0_roomBehind 6 rfl) (by decide) ?_
  refine r_ic_eq 11 25 K (dk_of tX0_roomBehind 7 rfl) (by decide) hR (fun hR => ?_) (fun hR => ?_)
  · refine r_ldc 25 1000000 K (dk_of tX0_roomBehind 13 rfl) w523 ?_
    refine r_goto 27 38 K (dk_of tX0_roomBehind 14 rfl) (by decide) ?_
    exact r_iret 38 K hQ (dk_of tX0_roomBehind 19 rfl) (Nat.zero_le _) (Nat.zero_le _) (lfi0 hR)
  · refine r_aload_n 14 0 K (dk_of tX0_roomBehind 8 rfl) rfl rfl ?_
    refine r_getf (C := RX0) (T := TX0) (N := 9) 15 0 0 K (dk_of tX0_roomBehind 9 rfl) w200 gwX0 rfl rfl (by decide) rfl ?_
    refine r_iload_n 18 2 K (dk_of tX0_roomBehind 10 rfl) rfl rfl ?_
    obtain ⟨x2, hc, hR⟩ := o1 hR
    refine r_cVi 19 1 [.int x1] [] x2 (wB γ h σ ++ (r)) K (ct_X2_isWater hl hc.symm) cs_X0_147 ⟨rfl, rfl, rfl⟩ (dk_of tX0_roomBehind 11 rfl) rfl rfl rfl rfl rfl rfl ?_
    refine r_if_eq 22 30 K (dk_of tX0_roomBehind 12 rfl) (by decide) hR (fun hR => ?_) (fun hR => ?_)
    · refine r_aload_n 30 0 K (dk_of tX0_roomBehind 15 rfl) rfl rfl ?_
      refine r_getf (C := RX0) (T := TX0) (N := 9) 31 0 0 K (dk_of tX0_roomBehind 16 rfl) w200 gwX0 rfl rfl (by decide) rfl ?_
      refine r_iload_n 34 2 K (dk_of tX0_roomBehind 17 rfl) rfl rfl ?_
      obtain ⟨x3, hc, hR⟩ := o1 hR
      refine r_cVi 35 1 [.int x1] [] x3 (wB γ h σ ++ (r)) K (ct_X2_roomOf hl hc.symm) cs_X0_152 ⟨rfl, rfl, rfl⟩ (dk_of tX0_roomBehind 18 rfl) rfl rfl rfl rfl rfl rfl ?_
      exact r_iret 38 K hQ (dk_of tX0_roomBehind 19 rfl) (Nat.zero_le _) (Nat.zero_le _) (lfi0 hR)
    · refine r_ldc 25 1000000 K (dk_of tX0_roomBehind 13 rfl) w523 ?_
      refine r_goto 27 38 K (dk_of tX0_roomBehind 14 rfl) (by decide) ?_
      exact r_iret 38 K hQ (dk_of tX0_roomBehind 19 rfl) (Nat.zero_le _) (Nat.zero_le _) (lfi0 hR)

def sp_X0_blown (p1 : Int32) (p2 : Int32) (σ : St) : Option (Int32) := some (iMin ((p1 * (σ 0 6)) / (10 : Int32)) p2)
set_option maxHeartbeats 4000000 in
set_option maxRecDepth 100000 in
theorem ct_X0_blown {l : Launch} (hl : l.stackTraces = false) {γ : Gd} {h : Nat → Nat} {σ : St} {r : va_W} {p1 : Int32} {p2 : Int32} {x0 : Int32} (hR : some x0 = sp_X0_blown p1 p2 σ) : Ct l γ yX0_blown (Cond.code yX0_blown cX0_blown 3 (some .int)) ({ frames := 1, cells := 0, slots := 0, locals := 15 } : Room) [.ref (h 0), .int p1, .int p2] (wB γ h σ ++ (r)) (Pr (some (.int x0)) (wB γ h σ ++ (r))) 0 0 := by
  refine Ct_of hl (by decide +kernel) rfl (Nat.le_of_ble_eq_true rfl) (L := [some (.ref (h 0)), some (.int p1), some (.int p2)]) rfl ?_
  intro X Q K hQ
  generalize ((wB γ h σ ++ (r), Q) : MX) = M at K hQ ⊢
  unfold sp_X0_blown at hR
  refine r_iload_n 0 1 K (dk_of tX0_blown 0 rfl) rfl rfl ?_
  refine r_aload_n 1 0 K (dk_of tX0_blown 1 rfl) rfl rfl ?_
  refine r_getf (C := RX0) (T := TX0) (N := 9) 2 0 6 K (dk_of tX0_blown 2 rfl) w218 gwX0 rfl rfl (by decide) rfl ?_
  refine r_imul 5 K (dk_of tX0_blown 3 rfl) ?_
  refine r_bipush 6 (10 : Int32) K (dk_of tX0_blown 4 rfl) (by decide) ?_
  refine r_idiv 8 K (dk_of tX0_blown 5 rfl) (by decide) ?_
  refine r_iload_n 9 2 K (dk_of tX0_blown 6 rfl) rfl rfl ?_
  refine r_min 10 K w534 w494 w19 w495 (dk_of tX0_blown 7 rfl) rfl ?_
  exact r_iret 13 K hQ (dk_of tX0_blown 8 rfl) (Nat.zero_le _) (Nat.zero_le _) (lfi0 hR)

def sp_X0_findWhatGoes_108  (y4 : Int32) (y5 : Int32) (y6 : Int32) (σ7 : St) : Option (St) := if y4 < 0 ∨ 24 ≤ y4.toNatClampNeg then none else (sl (stU σ7 24 y4.toNatClampNeg y5) (fun σ8 : St => if y4 < 0 ∨ 24 ≤ y4.toNatClampNeg then none else (sl (stU σ8 25 y4.toNatClampNeg y6) (fun σ9 : St => some σ9))))
def sp_X0_findWhatGoes_91  (y11 : Int32) (y12 : Int32) (y13 : Int32) (y14 : Int32) (σ15 : St) : Option (St) := if y14 = (-1 : Int32) then (sp_X0_findWhatGoes_108 y11 y12 y13 σ15) else (if y14 < 0 ∨ 20 ≤ y14.toNatClampNeg then none else (sl (stU σ15 20 y14.toNatClampNeg (1 : Int32)) (fun σ16 : St => sp_X0_findWhatGoes_108 y11 y12 y13 σ16)))
def sp_X0_findWhatGoes (p1 : Int32) (σ : St) : Option (St) := b1 (sp_X0_roomBehind p1 σ) (fun (x1 : Int32) => if p1 < 0 ∨ 24 ≤ p1.toNatClampNeg then none else (b1 (sp_X0_blown (σ 4 p1.toNatClampNeg) x1 σ) (fun (x2 : Int32) => if p1 < 0 ∨ 24 ≤ p1.toNatClampNeg then none else (b1 (sp_X0_blown (σ 5 p1.toNatClampNeg) (x1 - x2) σ) (fun (x3 : Int32) => if (x2 + x3) ≤ 0 then (sp_X0_findWhatGoes_108 p1 x2 x3 σ) else (b1 (sp_X4_boomOn p1 (σ 0 5) σ) (fun (x10 : Int32) => if x10 = (-1 : Int32) then (sp_X0_findWhatGoes_91 p1 x2 x3 x10 σ) else (if x10 < 0 ∨ 20 ≤ x10.toNatClampNeg then none else (if (σ 18 x10.toNatClampNeg) < (σ 0 6) then (sp_X0_findWhatGoes_91 p1 x2 x3 x10 σ) else (sp_X0_findWhatGoes_108 p1 (0 : Int32) (0 : Int32) σ))))))))))
set_option maxHeartbeats 4000000 in
set_option maxRecDepth 100000 in
theorem ct_X0_findWhatGoes {l : Launch} (hl : l.stackTraces = false) {γ : Gd} {h : Nat → Nat} {σ : St} {r : va_W} {p1 : Int32} {σ0 : St} (hR : some σ0 = sp_X0_findWhatGoes p1 σ) : Ct l γ yX0_findWhatGoes (Cond.code yX0_findWhatGoes cX0_findWhatGoes 6 none) ({ frames := 2, cells := 0, slots := 0, locals := 48 } : Room) [.ref (h 0), .int p1] (wB γ h σ ++ (r)) (Pr none (wB γ h σ0 ++ (r))) 0 0 := by
  refine Ct_of hl (by decide +kernel) rfl (Nat.le_of_ble_eq_true rfl) (L := [some (.ref (h 0)), some (.int p1), none, none, none, none]) rfl ?_
  intro X Q K hQ
  generalize ((wB γ h σ ++ (r), Q) : MX) = M at K hQ ⊢
  unfold sp_X0_findWhatGoes at hR
  have b108 : ∀ (y4 : Int32) (y5 : Int32) (y6 : Int32) (σ7 : St), some σ0 = sp_X0_findWhatGoes_108  y4 y5 y6 σ7 → V l γ X M (wB γ h σ7 ++ (r)) [some (.ref (h 0)), some (.int y4), none, some (.int y5), some (.int y6), none] 0 0 108 [] := by
    intro  y4 y5 y6 σ7 hR
    unfold sp_X0_findWhatGoes_108 at hR
    refine r_aload_n 108 0 K (dk_of tX0_findWhatGoes 60 rfl) rfl rfl ?_
    refine r_getf (C := RX0) (T := TX0) (N := 9) 109 0 7 K (dk_of tX0_findWhatGoes 61 rfl) w222 gwX0 rfl rfl (by decide) rfl ?_
    refine r_iload_n 112 1 K (dk_of tX0_findWhatGoes 62 rfl) rfl rfl ?_
    refine r_iload_n 113 3 K (dk_of tX0_findWhatGoes 63 rfl) rfl rfl ?_
    refine r_iastR 114 24 K (dk_of tX0_findWhatGoes 64 rfl) rfl sB_24 hR (fun hR => ?_)
    refine r_nmS (fun σ8 : St => wB γ h σ8 ++ (r)) hR (fun σ8 hR => ?_)
    refine r_aload_n 115 0 K (dk_of tX0_findWhatGoes 65 rfl) rfl rfl ?_
    refine r_getf (C := RX0) (T := TX0) (N := 9) 116 0 8 K (dk_of tX0_findWhatGoes 66 rfl) w223 gwX0 rfl rfl (by decide) rfl ?_
    refine r_iload_n 119 1 K (dk_of tX0_findWhatGoes 67 rfl) rfl rfl ?_
    refine r_iload 120 4 K (dk_of tX0_findWhatGoes 68 rfl) rfl ?_
    refine r_iastR 122 25 K (dk_of tX0_findWhatGoes 69 rfl) rfl sB_25 hR (fun hR => ?_)
    refine r_nmS (fun σ9 : St => wB γ h σ9 ++ (r)) hR (fun σ9 hR => ?_)
    exact r_vret 123 K hQ (dk_of tX0_findWhatGoes 70 rfl) (Nat.zero_le _) (Nat.zero_le _) (lfv (fun u9 : St => wB γ h u9 ++ (r)) hR)
  have b91 : ∀ (y11 : Int32) (y12 : Int32) (y13 : Int32) (y14 : Int32) (σ15 : St), some σ0 = sp_X0_findWhatGoes_91  y11 y12 y13 y14 σ15 → V l γ X M (wB γ h σ15 ++ (r)) [some (.ref (h 0)), some (.int y11), none, some (.int y12), some (.int y13), some (.int y14)] 0 0 91 [] := by
    intro  y11 y12 y13 y14 σ15 hR
    unfold sp_X0_findWhatGoes_91 at hR
    refine r_iload 91 5 K (dk_of tX0_findWhatGoes 51 rfl) rfl ?_
    refine r_iconst 93 (-1) K (dk_of tX0_findWhatGoes 52 rfl) (by decide) ?_
    refine r_ic_eq 94 108 K (dk_of tX0_findWhatGoes 53 rfl) (by decide) hR (fun hR => ?_) (fun hR => ?_)
    · exact r_msk [true, true, true, true, true, false] [some (.ref (h 0)), some (.int y11), none, some (.int y12), some (.int y13), none] rfl (b108 y11 y12 y13 σ15 hR)
    · refine r_aload_n 97 0 K (dk_of tX0_findWhatGoes 54 rfl) rfl rfl ?_
      refine r_getf (C := RX0) (T := TX0) (N := 9) 98 0 2 K (dk_of tX0_findWhatGoes 55 rfl) w207 gwX0 rfl rfl (by decide) rfl ?_
      refine r_getf (C := RX4) (T := TX4) (N := 9) 101 14 6 K (dk_of tX0_findWhatGoes 56 rfl) w140 gwX4 rfl rfl (by decide) rfl ?_
      refine r_iload 104 5 K (dk_of tX0_findWhatGoes 57 rfl) rfl ?_
      refine r_iconst 106 (1 : Int32) K (dk_of tX0_findWhatGoes 58 rfl) (by decide) ?_
      refine r_iastR 107 20 K (dk_of tX0_findWhatGoes 59 rfl) rfl sB_20 hR (fun hR => ?_)
      refine r_nmS (fun σ16 : St => wB γ h σ16 ++ (r)) hR (fun σ16 hR => ?_)
      exact r_msk [true, true, true, true, true, false] [some (.ref (h 0)), some (.int y11), none, some (.int y12), some (.int y13), none] rfl (b108 y11 y12 y13 σ16 hR)
  refine r_aload_n 0 0 K (dk_of tX0_findWhatGoes 0 rfl) rfl rfl ?_
  refine r_iload_n 1 1 K (dk_of tX0_findWhatGoes 1 rfl) rfl rfl ?_
  obtain ⟨x1, hc, hR⟩ := o1 hR
  refine r_cVi 2 0 [.int p1] [] x1 (wB γ h σ ++ (r)) K (ct_X0_roomBehind hl hc.symm) cs_X0_127 ⟨rfl, rfl, rfl⟩ (dk_of tX0_findWhatGoes 2 rfl) rfl rfl rfl rfl rfl rfl ?_
  refine r_istore_n 5 2 [some (.ref (h 0)), some (.int p1), some (.int x1), none, none, none] K (dk_of tX0_findWhatGoes 3 rfl) rfl rfl rfl (by decide) ?_
  refine r_aload_n 6 0 K (dk_of tX0_findWhatGoes 4 rfl) rfl rfl ?_
  refine r_aload_n 7 0 K (dk_of tX0_findWhatGoes 5 rfl) rfl rfl ?_
  refine r_getf (C := RX0) (T := TX0) (N := 9) 8 0 0 K (dk_of tX0_findWhatGoes 6 rfl) w200 gwX0 rfl rfl (by decide) rfl ?_
  refine r_getf (C := RX2) (T := TX2) (N := 8) 11 1 2 K (dk_of tX0_findWhatGoes 7 rfl) w52 gwX2 rfl rfl (by decide) rfl ?_
  refine r_iload_n 14 1 K (dk_of tX0_findWhatGoes 8 rfl) rfl rfl ?_
  refine r_ialdR 15 4 K (dk_of tX0_findWhatGoes 9 rfl) rfl hR (fun hR => ?_)
  refine r_iload_n 16 2 K (dk_of tX0_findWhatGoes 10 rfl) rfl rfl ?_
  obtain ⟨x2, hc, hR⟩ := o1 hR
  refine r_cVi 17 0 [.int (σ 4 p1.toNatClampNeg), .int x1] [] x2 (wB γ h σ ++ (r)) K (ct_X0_blown hl hc.symm) cs_X0_130 ⟨rfl, rfl, rfl⟩ (dk_of tX0_findWhatGoes 11 rfl) rfl rfl rfl rfl rfl rfl ?_
  refine r_istore_n 20 3 [some (.ref (h 0)), some (.int p1), some (.int x1), some (.int x2), none, none] K (dk_of tX0_findWhatGoes 12 rfl) rfl rfl rfl (by decide) ?_
  refine r_aload_n 21 0 K (dk_of tX0_findWhatGoes 13 rfl) rfl rfl ?_
  refine r_aload_n 22 0 K (dk_of tX0_findWhatGoes 14 rfl) rfl rfl ?_
  refine r_getf (C := RX0) (T := TX0) (N := 9) 23 0 0 K (dk_of tX0_findWhatGoes 15 rfl) w200 gwX0 rfl rfl (by decide) rfl ?_
  refine r_getf (C := RX2) (T := TX2) (N := 8) 26 1 3 K (dk_of tX0_findWhatGoes 16 rfl) w57 gwX2 rfl rfl (by decide) rfl ?_
  refine r_iload_n 29 1 K (dk_of tX0_findWhatGoes 17 rfl) rfl rfl ?_
  refine r_ialdR 30 5 K (dk_of tX0_findWhatGoes 18 rfl) rfl hR (fun hR => ?_)
  refine r_iload_n 31 2 K (dk_of tX0_findWhatGoes 19 rfl) rfl rfl ?_
  refine r_iload_n 32 3 K (dk_of tX0_findWhatGoes 20 rfl) rfl rfl ?_
  refine r_isub 33 K (dk_of tX0_findWhatGoes 21 rfl) ?_
  obtain ⟨x3, hc, hR⟩ := o1 hR
  refine r_cVi 34 0 [.int (σ 5 p1.toNatClampNeg), .int (x1 - x2)] [] x3 (wB γ h σ ++ (r)) K (ct_X0_blown hl hc.symm) cs_X0_130 ⟨rfl, rfl, rfl⟩ (dk_of tX0_findWhatGoes 22 rfl) rfl rfl rfl rfl rfl rfl ?_
  refine r_istore 37 4 [some (.ref (h 0)), some (.int p1), some (.int x1), some (.int x2), some (.int x3), none] K (dk_of tX0_findWhatGoes 23 rfl) rfl rfl (by decide) ?_
  refine r_iload_n 39 3 K (dk_of tX0_findWhatGoes 24 rfl) rfl rfl ?_
  refine r_iload 40 4 K (dk_of tX0_findWhatGoes 25 rfl) rfl ?_
  refine r_iadd 42 K (dk_of tX0_findWhatGoes 26 rfl) ?_
  refine r_if_le 43 108 K (dk_of tX0_findWhatGoes 27 rfl) (by decide) hR (fun hR => ?_) (fun hR => ?_)
  · exact r_msk [true, true, false, true, true, true] [some (.ref (h 0)), some (.int p1), none, some (.int x2), some (.int x3), none] rfl (b108 p1 x2 x3 σ hR)
  · refine r_aload_n 46 0 K (dk_of tX0_findWhatGoes 28 rfl) rfl rfl ?_
    refine r_getf (C := RX0) (T := TX0) (N := 9) 47 0 2 K (dk_of tX0_findWhatGoes 29 rfl) w207 gwX0 rfl rfl (by decide) rfl ?_
    refine r_iload_n 50 1 K (dk_of tX0_findWhatGoes 30 rfl) rfl rfl ?_
    refine r_aload_n 51 0 K (dk_of tX0_findWhatGoes 31 rfl) rfl rfl ?_
    refine r_getf (C := RX0) (T := TX0) (N := 9) 52 0 5 K (dk_of tX0_findWhatGoes 32 rfl) w215 gwX0 rfl rfl (by decide) rfl ?_
    obtain ⟨x10, hc, hR⟩ := o1 hR
    refine r_cVi 55 14 [.int p1, .int (σ 0 5)] [] x10 (wB γ h σ ++ (r)) K (ct_X4_boomOn hl hc.symm) cs_X0_133 ⟨rfl, rfl, rfl⟩ (dk_of tX0_findWhatGoes 33 rfl) rfl rfl rfl rfl rfl rfl ?_
    refine r_istore 58 5 [some (.ref (h 0)), some (.int p1), some (.int x1), some (.int x2), some (.int x3), some (.int x10)] K (dk_of tX0_findWhatGoes 34 rfl) rfl rfl (by decide) ?_
    refine r_iload 60 5 K (dk_of tX0_findWhatGoes 35 rfl) rfl ?_
    refine r_iconst 62 (-1) K (dk_of tX0_findWhatGoes 36 rfl) (by decide) ?_
    refine r_ic_eq 63 91 K (dk_of tX0_findWhatGoes 37 rfl) (by decide) hR (fun hR => ?_) (fun hR => ?_)
    · exact r_msk [true, true, false, true, true, true] [some (.ref (h 0)), some (.int p1), none, some (.int x2), some (.int x3), some (.int x10)] rfl (b91 p1 x2 x3 x10 σ hR)
    · refine r_aload_n 66 0 K (dk_of tX0_findWhatGoes 38 rfl) rfl rfl ?_
      refine r_getf (C := RX0) (T := TX0) (N := 9) 67 0 2 K (dk_of tX0_findWhatGoes 39 rfl) w207 gwX0 rfl rfl (by decide) rfl ?_
      refine r_getf (C := RX4) (T := TX4) (N := 9) 70 14 4 K (dk_of tX0_findWhatGoes 40 rfl) w135 gwX4 rfl rfl (by decide) rfl ?_
      refine r_iload 73 5 K (dk_of tX0_findWhatGoes 41 rfl) rfl ?_
      refine r_ialdR 75 18 K (dk_of tX0_findWhatGoes 42 rfl) rfl hR (fun hR => ?_)
      refine r_aload_n 76 0 K (dk_of tX0_findWhatGoes 43 rfl) rfl rfl ?_
      refine r_getf (C := RX0) (T := TX0) (N := 9) 77 0 6 K (dk_of tX0_findWhatGoes 44 rfl) w218 gwX0 rfl rfl (by decide) rfl ?_
      refine r_ic_lt 80 91 K (dk_of tX0_findWhatGoes 45 rfl) (by decide) hR (fun hR => ?_) (fun hR => ?_)
      · exact r_msk [true, true, false, true, true, true] [some (.ref (h 0)), some (.int p1), none, some (.int x2), some (.int x3), some (.int x10)] rfl (b91 p1 x2 x3 x10 σ hR)
      · refine r_iconst 83 (0 : Int32) K (dk_of tX0_findWhatGoes 46 rfl) (by decide) ?_
        refine r_istore_n 84 3 [some (.ref (h 0)), some (.int p1), some (.int x1), some (.int (0 : Int32)), some (.int x3), some (.int x10)] K (dk_of tX0_findWhatGoes 47 rfl) rfl rfl rfl (by decide) ?_
        refine r_iconst 85 (0 : Int32) K (dk_of tX0_findWhatGoes 48 rfl) (by decide) ?_
        refine r_istore 86 4 [some (.ref (h 0)), some (.int p1), some (.int x1), some (.int (0 : Int32)), some (.int (0 : Int32)), some (.int x10)] K (dk_of tX0_findWhatGoes 49 rfl) rfl rfl (by decide) ?_
        refine r_goto 88 108 K (dk_of tX0_findWhatGoes 50 rfl) (by decide) ?_
        exact r_msk [true, true, false, true, true, false] [some (.ref (h 0)), some (.int p1), none, some (.int (0 : Int32)), some (.int (0 : Int32)), none] rfl (b108 p1 (0 : Int32) (0 : Int32) σ hR)

def sp_X0_letGo (p1 : Int32) (p2 : Int32) (σ : St) : Option (St) := if p1 < 0 ∨ 24 ≤ p1.toNatClampNeg then none else (sl ((σ 24 p1.toNatClampNeg)) (fun x1 : Int32 => if p1 < 0 ∨ 24 ≤ p1.toNatClampNeg then none else (sl ((σ 25 p1.toNatClampNeg)) (fun x2 : Int32 => if p1 < 0 ∨ 24 ≤ p1.toNatClampNeg then none else (if p1 < 0 ∨ 24 ≤ p1.toNatClampNeg then none else (sl (stU σ 4 p1.toNatClampNeg ((σ 4 p1.toNatClampNeg) - x1)) (fun σ3 : St => if p1 < 0 ∨ 24 ≤ p1.toNatClampNeg then none else (if p1 < 0 ∨ 24 ≤ p1.toNatClampNeg then none else (sl (stU σ3 5 p1.toNatClampNeg ((σ3 5 p1.toNatClampNeg) - x2)) (fun σ4 : St => if p2 = (-1 : Int32) then (sl (stU σ4 23 4 ((σ4 23 4) + (x1 + x2))) (fun σ5 : St => some σ5)) else (b1 (sp_X2_isWater p2 σ4) (fun (x6 : Int32) => if x6 = 0 then (if p2 < 0 ∨ 24 ≤ p2.toNatClampNeg then none else (if p2 < 0 ∨ 24 ≤ p2.toNatClampNeg then none else (sl (stU σ4 6 p2.toNatClampNeg ((σ4 6 p2.toNatClampNeg) + (x1 + x2))) (fun σ7 : St => some σ7)))) else (if p2 < 0 ∨ 24 ≤ p2.toNatClampNeg then none else (if p2 < 0 ∨ 24 ≤ p2.toNatClampNeg then none else (sl (stU σ4 4 p2.toNatClampNeg ((σ4 4 p2.toNatClampNeg) + x1)) (fun σ8 : St => if p2 < 0 ∨ 24 ≤ p2.toNatClampNeg then none else (if p2 < 0 ∨ 24 ≤ p2.toNatClampNeg then none else (sl (stU σ8 5 p2.toNatClampNeg ((σ8 5 p2.toNatClampNeg) + x2)) (fun σ9 : St => some σ9)))))))))))))))))))
set_option maxHeartbeats 4000000 in
set_option maxRecDepth 100000 in
theorem ct_X0_letGo {l : Launch} (hl : l.stackTraces = false) {γ : Gd} {h : Nat → Nat} {σ : St} {r : va_W} {p1 : Int32} {p2 : Int32} {σ0 : St} (hR : some σ0 = sp_X0_letGo p1 p2 σ) : Ct l γ yX0_letGo (Cond.code yX0_letGo cX0_letGo 5 none) ({ frames := 1, cells := 0, slots := 0, locals := 21 } : Room) [.ref (h 0), .int p1, .int p2] (wB γ h σ ++ (r)) (Pr none (wB γ h σ0 ++ (r))) 0 0 := by
  refine Ct_of hl (by decide +kernel) rfl (Nat.le_of_ble_eq_true rfl) (L := [some (.ref (h 0)), some (.int p1), some (.int p2), none, none]) rfl ?_
  intro X Q K hQ
  generalize ((wB γ h σ ++ (r), Q) : MX) = M at K hQ ⊢
  unfold sp_X0_letGo at hR
  refine r_aload_n 0 0 K (dk_of tX0_letGo 0 rfl) rfl rfl ?_
  refine r_getf (C := RX0) (T := TX0) (N := 9) 1 0 7 K (dk_of tX0_letGo 1 rfl) w222 gwX0 rfl rfl (by decide) rfl ?_
  refine r_iload_n 4 1 K (dk_of tX0_letGo 2 rfl) rfl rfl ?_
  refine r_ialdR 5 24 K (dk_of tX0_letGo 3 rfl) rfl hR (fun hR => ?_)
  refine r_nmI hR (fun x1 hR => ?_)
  refine r_istore_n 6 3 [some (.ref (h 0)), some (.int p1), some (.int p2), some (.int x1), none] K (dk_of tX0_letGo 4 rfl) rfl rfl rfl (by decide) ?_
  refine r_aload_n 7 0 K (dk_of tX0_letGo 5 rfl) rfl rfl ?_
  refine r_getf (C := RX0) (T := TX0) (N := 9) 8 0 8 K (dk_of tX0_letGo 6 rfl) w223 gwX0 rfl rfl (by decide) rfl ?_
  refine r_iload_n 11 1 K (dk_of tX0_letGo 7 rfl) rfl rfl ?_
  refine r_ialdR 12 25 K (dk_of tX0_letGo 8 rfl) rfl hR (fun hR => ?_)
  refine r_nmI hR (fun x2 hR => ?_)
  refine r_istore 13 4 [some (.ref (h 0)), some (.int p1), some (.int p2), some (.int x1), some (.int x2)] K (dk_of tX0_letGo 9 rfl) rfl rfl (by decide) ?_
  refine r_aload_n 15 0 K (dk_of tX0_letGo 10 rfl) rfl rfl ?_
  refine r_getf (C := RX0) (T := TX0) (N := 9) 16 0 0 K (dk_of tX0_letGo 11 rfl) w200 gwX0 rfl rfl (by decide) rfl ?_
  refine r_getf (C := RX2) (T := TX2) (N := 8) 19 1 2 K (dk_of tX0_letGo 12 rfl) w52 gwX2 rfl rfl (by decide) rfl ?_
  refine r_iload_n 22 1 K (dk_of tX0_letGo 13 rfl) rfl rfl ?_
  refine r_dup2 23 K (dk_of tX0_letGo 14 rfl) rfl rfl ?_
  refine r_ialdR 24 4 K (dk_of tX0_letGo 15 rfl) rfl hR (fun hR => ?_)
  refine r_iload_n 25 3 K (dk_of tX0_letGo 16 rfl) rfl rfl ?_
  refine r_isub 26 K (dk_of tX0_letGo 17 rfl) ?_
  refine r_iastR 27 4 K (dk_of tX0_letGo 18 rfl) rfl sB_4 hR (fun hR => ?_)
  refine r_nmS (fun σ3 : St => wB γ h σ3 ++ (r)) hR (fun σ3 hR => ?_)
  refine r_aload_n 28 0 K (dk_of tX0_letGo 19 rfl) rfl rfl ?_
  refine r_getf (C := RX0) (T := TX0) (N := 9) 29 0 0 K (dk_of tX0_letGo 20 rfl) w200 gwX0 rfl rfl (by decide) rfl ?_
  refine r_getf (C := RX2) (T := TX2) (N := 8) 32 1 3 K (dk_of tX0_letGo 21 rfl) w57 gwX2 rfl rfl (by decide) rfl ?_
  refine r_iload_n 35 1 K (dk_of tX0_letGo 22 rfl) rfl rfl ?_
  refine r_dup2 36 K (dk_of tX0_letGo 23 rfl) rfl rfl ?_
  refine r_ialdR 37 5 K (dk_of tX0_letGo 24 rfl) rfl hR (fun hR => ?_)
  refine r_iload 38 4 K (dk_of tX0_letGo 25 rfl) rfl ?_
  refine r_isub 40 K (dk_of tX0_letGo 26 rfl) ?_
  refine r_iastR 41 5 K (dk_of tX0_letGo 27 rfl) rfl sB_5 hR (fun hR => ?_)
  refine r_nmS (fun σ4 : St => wB γ h σ4 ++ (r)) hR (fun σ4 hR => ?_)
  refine r_iload_n 42 2 K (dk_of tX0_letGo 28 rfl) rfl rfl ?_
  refine r_iconst 43 (-1) K (dk_of tX0_letGo 29 rfl) (by decide) ?_
  refine r_ic_ne 44 66 K (dk_of tX0_letGo 30 rfl) (by decide) hR (fun hR => ?_) (fun hR => ?_)
  · refine r_aload_n 47 0 K (dk_of tX0_letGo 31 rfl) rfl rfl ?_
    refine r_getf (C := RX0) (T := TX0) (N := 9) 48 0 3 K (dk_of tX0_letGo 32 rfl) w210 gwX0 rfl rfl (by decide) rfl ?_
    refine r_dup 51 K (dk_of tX0_letGo 33 rfl) rfl ?_
    refine r_getf (C := RX1) (T := TX1) (N := 7) 52 23 4 K (dk_of tX0_letGo 34 rfl) w179 gwX1 rfl rfl (by decide) rfl ?_
    refine r_iload_n 55 3 K (dk_of tX0_letGo 35 rfl) rfl rfl ?_
    refine r_iload 56 4 K (dk_of tX0_letGo 36 rfl) rfl ?_
    refine r_iadd 58 K (dk_of tX0_letGo 37 rfl) ?_
    refine r_iadd 59 K (dk_of tX0_letGo 38 rfl) ?_
    refine r_putf (C := RX1) (T := TX1) (N := 7) 60 23 4 K (dk_of tX0_letGo 39 rfl) w179 gwX1 tyX1_ok nmX1 rfl rfl (by decide) rfl rfl rfl rfl (Nat.le_of_ble_eq_true rfl) sB_23_4 ?_
    refine r_nmS (fun σ5 : St => wB γ h σ5 ++ (r)) hR (fun σ5 hR => ?_)
    refine r_goto 63 123 K (dk_of tX0_letGo 40 rfl) (by decide) ?_
    exact r_vret 123 K hQ (dk_of tX0_letGo 76 rfl) (Nat.zero_le _) (Nat.zero_le _) (lfv (fun u9 : St => wB γ h u9 ++ (r)) hR)
  · refine r_aload_n 66 0 K (dk_of tX0_letGo 41 rfl) rfl rfl ?_
    refine r_getf (C := RX0) (T := TX0) (N := 9) 67 0 0 K (dk_of tX0_letGo 42 rfl) w200 gwX0 rfl rfl (by decide) rfl ?_
    refine r_iload_n 70 2 K (dk_of tX0_letGo 43 rfl) rfl rfl ?_
    obtain ⟨x6, hc, hR⟩ := o1 hR
    refine r_cVi 71 1 [.int p2] [] x6 (wB γ h σ4 ++ (r)) K (ct_X2_isWater hl hc.symm) cs_X0_147 ⟨rfl, rfl, rfl⟩ (dk_of tX0_letGo 44 rfl) rfl rfl rfl rfl rfl rfl ?_
    refine r_if_eq 74 107 K (dk_of tX0_letGo 45 rfl) (by decide) hR (fun hR => ?_) (fun hR => ?_)
    · refine r_aload_n 107 0 K (dk_of tX0_letGo 65 rfl) rfl rfl ?_
      refine r_getf (C := RX0) (T := TX0) (N := 9) 108 0 0 K (dk_of tX0_letGo 66 rfl) w200 gwX0 rfl rfl (by decide) rfl ?_
      refine r_getf (C := RX2) (T := TX2) (N := 8) 111 1 4 K (dk_of tX0_letGo 67 rfl) w62 gwX2 rfl rfl (by decide) rfl ?_
      refine r_iload_n 114 2 K (dk_of tX0_letGo 68 rfl) rfl rfl ?_
      refine r_dup2 115 K (dk_of tX0_letGo 69 rfl) rfl rfl ?_
      refine r_ialdR 116 6 K (dk_of tX0_letGo 70 rfl) rfl hR (fun hR => ?_)
      refine r_iload_n 117 3 K (dk_of tX0_letGo 71 rfl) rfl rfl ?_
      refine r_iload 118 4 K (dk_of tX0_letGo 72 rfl) rfl ?_
      refine r_iadd 120 K (dk_of tX0_letGo 73 rfl) ?_
      refine r_iadd 121 K (dk_of tX0_letGo 74 rfl) ?_
      refine r_iastR 122 6 K (dk_of tX0_letGo 75 rfl) rfl sB_6 hR (fun hR => ?_)
      refine r_nmS (fun σ7 : St => wB γ h σ7 ++ (r)) hR (fun σ7 hR => ?_)
      exact r_vret 123 K hQ (dk_of tX0_letGo 76 rfl) (Nat.zero_le _) (Nat.zero_le _) (lfv (fun u9 : St => wB γ h u9 ++ (r)) hR)
    · refine r_aload_n 77 0 K (dk_of tX0_letGo 46 rfl) rfl rfl ?_
      refine r_getf (C := RX0) (T := TX0) (N := 9) 78 0 0 K (dk_of tX0_letGo 47 rfl) w200 gwX0 rfl rfl (by decide) rfl ?_
      refine r_getf (C := RX2) (T := TX2) (N := 8) 81 1 2 K (dk_of tX0_letGo 48 rfl) w52 gwX2 rfl rfl (by decide) rfl ?_
      refine r_iload_n 84 2 K (dk_of tX0_letGo 49 rfl) rfl rfl ?_
      refine r_dup2 85 K (dk_of tX0_letGo 50 rfl) rfl rfl ?_
      refine r_ialdR 86 4 K (dk_of tX0_letGo 51 rfl) rfl hR (fun hR => ?_)
      refine r_iload_n 87 3 K (dk_of tX0_letGo 52 rfl) rfl rfl ?_
      refine r_iadd 88 K (dk_of tX0_letGo 53 rfl) ?_
      refine r_iastR 89 4 K (dk_of tX0_letGo 54 rfl) rfl sB_4 hR (fun hR => ?_)
      refine r_nmS (fun σ8 : St => wB γ h σ8 ++ (r)) hR (fun σ8 hR => ?_)
      refine r_aload_n 90 0 K (dk_of tX0_letGo 55 rfl) rfl rfl ?_
      refine r_getf (C := RX0) (T := TX0) (N := 9) 91 0 0 K (dk_of tX0_letGo 56 rfl) w200 gwX0 rfl rfl (by decide) rfl ?_
      refine r_getf (C := RX2) (T := TX2) (N := 8) 94 1 3 K (dk_of tX0_letGo 57 rfl) w57 gwX2 rfl rfl (by decide) rfl ?_
      refine r_iload_n 97 2 K (dk_of tX0_letGo 58 rfl) rfl rfl ?_
      refine r_dup2 98 K (dk_of tX0_letGo 59 rfl) rfl rfl ?_
      refine r_ialdR 99 5 K (dk_of tX0_letGo 60 rfl) rfl hR (fun hR => ?_)
      refine r_iload 100 4 K (dk_of tX0_letGo 61 rfl) rfl ?_
      refine r_iadd 102 K (dk_of tX0_letGo 62 rfl) ?_
      refine r_iastR 103 5 K (dk_of tX0_letGo 63 rfl) rfl sB_5 hR (fun hR => ?_)
      refine r_nmS (fun σ9 : St => wB γ h σ9 ++ (r)) hR (fun σ9 hR => ?_)
      refine r_goto 104 123 K (dk_of tX0_letGo 64 rfl) (by decide) ?_
      exact r_vret 123 K hQ (dk_of tX0_letGo 76 rfl) (Nat.zero_le _) (Nat.zero_le _) (lfv (fun u9 : St => wB γ h u9 ++ (r)) hR)

def sp_X0_drift_21  : Nat → Int32 → St → Option (St)
  | 0, _, _ => none
  | n + 1, y3, σ4 => if (24 : Int32) ≤ y3 then (some σ4) else (b1 (sp_X2_beside y3 (σ4 0 5)) (fun (x5 : Int32) => b1 (sp_X0_letGo y3 x5 σ4) (fun (σ6 : St) => sp_X0_drift_21 n (y3 + 1) σ6)))
def sp_X0_drift_2  : Nat → Int32 → St → Option (St)
  | 0, _, _ => none
  | n + 1, y1, σ2 => if (24 : Int32) ≤ y1 then (sp_X0_drift_21 200 (0 : Int32) σ2) else (b1 (sp_X0_findWhatGoes y1 σ2) (fun (σ7 : St) => sp_X0_drift_2 n (y1 + 1) σ7))
def sp_X0_drift  (σ : St) : Option (St) := sp_X0_drift_2 200 (0 : Int32) σ
set_option maxHeartbeats 4000000 in
set_option maxRecDepth 100000 in
theorem ct_X0_drift {l : Launch} (hl : l.stackTraces = false) {γ : Gd} {h : Nat → Nat} {σ : St} {r : va_W}  {σ0 : St} (hR : some σ0 = sp_X0_drift σ) : Ct l γ yX0_drift (Cond.code yX0_drift cX0_drift 2 none) ({ frames := 3, cells := 0, slots := 0, locals := 73 } : Room) [.ref (h 0)] (wB γ h σ ++ (r)) (Pr none (wB γ h σ0 ++ (r))) 0 0 := by
  refine Ct_of hl (by decide +kernel) rfl (Nat.le_of_ble_eq_true rfl) (L := [some (.ref (h 0)), none]) rfl ?_
  intro X Q K hQ
  generalize ((wB γ h σ ++ (r), Q) : MX) = M at K hQ ⊢
  unfold sp_X0_drift at hR
  have b21 : ∀  (n : Nat) (y3 : Int32) (σ4 : St), some σ0 = sp_X0_drift_21  n y3 σ4 → V l γ X M (wB γ h σ4 ++ (r)) [some (.ref (h 0)), some (.int y3)] 0 0 21 [] := by
    intro  n
    induction n with
    | zero => intro y3 σ4 hR; exact nn_ hR
    | succ n ih21 =>
      intro y3 σ4 hR
      rw [sp_X0_drift_21] at hR
      refine r_iload_n 21 1 K (dk_of tX0_drift 12 rfl) rfl rfl ?_
      refine r_bipush 22 (24 : Int32) K (dk_of tX0_drift 13 rfl) (by decide) ?_
      refine r_ic_ge 24 46 K (dk_of tX0_drift 14 rfl) (by decide) hR (fun hR => ?_) (fun hR => ?_)
      · exact r_vret 46 K hQ (dk_of tX0_drift 24 rfl) (Nat.zero_le _) (Nat.zero_le _) (lfv (fun u9 : St => wB γ h u9 ++ (r)) hR)
      · refine r_aload_n 27 0 K (dk_of tX0_drift 15 rfl) rfl rfl ?_
        refine r_iload_n 28 1 K (dk_of tX0_drift 16 rfl) rfl rfl ?_
        refine r_iload_n 29 1 K (dk_of tX0_drift 17 rfl) rfl rfl ?_
        refine r_aload_n 30 0 K (dk_of tX0_drift 18 rfl) rfl rfl ?_
        refine r_getf (C := RX0) (T := TX0) (N := 9) 31 0 5 K (dk_of tX0_drift 19 rfl) w215 gwX0 rfl rfl (by decide) rfl ?_
        obtain ⟨x5, hc, hR⟩ := o1 hR
        refine r_cSi 34 [.int y3, .int (σ4 0 5)] [.int y3, .ref (h 0)] x5 (wB γ h σ4 ++ (r)) K (ct_X2_beside hl hc.symm) cs_X0_121 ⟨rfl, rfl, rfl⟩ (dk_of tX0_drift 20 rfl) rfl rfl rfl rfl ?_
        obtain ⟨σ6, hc, hR⟩ := o1 hR
        refine r_cVv 37 0 [.int y3, .int x5] [] (wB γ h σ6 ++ (r)) K (ct_X0_letGo hl hc.symm) cs_X0_124 ⟨rfl, rfl, rfl⟩ (dk_of tX0_drift 21 rfl) rfl rfl rfl rfl rfl rfl ?_
        refine r_iinc 40 1 (y3 + 1) [some (.ref (h 0)), some (.int (y3 + 1))] K (dk_of tX0_drift 22 rfl) rfl rfl rfl rfl (by decide) ?_
        refine r_goto 43 21 K (dk_of tX0_drift 23 rfl) (by decide) ?_
        exact ih21 (y3 + 1) σ6 hR
  have b2 : ∀  (n : Nat) (y1 : Int32) (σ2 : St), some σ0 = sp_X0_drift_2  n y1 σ2 → V l γ X M (wB γ h σ2 ++ (r)) [some (.ref (h 0)), some (.int y1)] 0 0 2 [] := by
    intro  n
    induction n with
    | zero => intro y1 σ2 hR; exact nn_ hR
    | succ n ih2 =>
      intro y1 σ2 hR
      rw [sp_X0_drift_2] at hR
      refine r_iload_n 2 1 K (dk_of tX0_drift 2 rfl) rfl rfl ?_
      refine r_bipush 3 (24 : Int32) K (dk_of tX0_drift 3 rfl) (by decide) ?_
      refine r_ic_ge 5 19 K (dk_of tX0_drift 4 rfl) (by decide) hR (fun hR => ?_) (fun hR => ?_)
      · refine r_iconst 19 (0 : Int32) K (dk_of tX0_drift 10 rfl) (by decide) ?_
        refine r_istore_n 20 1 [some (.ref (h 0)), some (.int (0 : Int32))] K (dk_of tX0_drift 11 rfl) rfl rfl rfl (by decide) ?_
        exact b21 200 (0 : Int32) σ2 hR
      · refine r_aload_n 8 0 K (dk_of tX0_drift 5 rfl) rfl rfl ?_
        refine r_iload_n 9 1 K (dk_of tX0_drift 6 rfl) rfl rfl ?_
        obtain ⟨σ7, hc, hR⟩ := o1 hR
        refine r_cVv 10 0 [.int y1] [] (wB γ h σ7 ++ (r)) K (ct_X0_findWhatGoes hl hc.symm) cs_X0_117 ⟨rfl, rfl, rfl⟩ (dk_of tX0_drift 7 rfl) rfl rfl rfl rfl rfl rfl ?_
        refine r_iinc 13 1 (y1 + 1) [some (.ref (h 0)), some (.int (y1 + 1))] K (dk_of tX0_drift 8 rfl) rfl rfl rfl rfl (by decide) ?_
        refine r_goto 16 2 K (dk_of tX0_drift 9 rfl) (by decide) ?_
        exact ih2 (y1 + 1) σ7 hR
  refine r_iconst 0 (0 : Int32) K (dk_of tX0_drift 0 rfl) (by decide) ?_
  refine r_istore_n 1 1 [some (.ref (h 0)), some (.int (0 : Int32))] K (dk_of tX0_drift 1 rfl) rfl rfl rfl (by decide) ?_
  exact b2 200 (0 : Int32) σ hR

def sp_X0_giveBack_2  : Nat → Int32 → St → Option (St)
  | 0, _, _ => none
  | n + 1, y1, σ2 => if (24 : Int32) ≤ y1 then (some σ2) else (b1 (sp_X2_lowestWaterBeside y1 σ2) (fun (x3 : Int32) => if x3 = (-1 : Int32) then (sp_X0_giveBack_2 n (y1 + 1) σ2) else (if y1 < 0 ∨ 24 ≤ y1.toNatClampNeg then none else (b1 (sp_X2_backOf y1 (σ2 6 y1.toNatClampNeg) σ2) (fun (x4 : Int32) => if y1 < 0 ∨ 24 ≤ y1.toNatClampNeg then none else (if y1 < 0 ∨ 24 ≤ y1.toNatClampNeg then none else (sl (stU σ2 6 y1.toNatClampNeg ((σ2 6 y1.toNatClampNeg) - x4)) (fun σ5 : St => if x3 < 0 ∨ 24 ≤ x3.toNatClampNeg then none else (if x3 < 0 ∨ 24 ≤ x3.toNatClampNeg then none else (sl (stU σ5 5 x3.toNatClampNeg ((σ5 5 x3.toNatClampNeg) + x4)) (fun σ6 : St => sp_X0_giveBack_2 n (y1 + 1) σ6)))))))))))
def sp_X0_giveBack  (σ : St) : Option (St) := sp_X0_giveBack_2 200 (0 : Int32) σ
set_option maxHeartbeats 4000000 in
set_option maxRecDepth 100000 in
theorem ct_X0_giveBack {l : Launch} (hl : l.stackTraces = false) {γ : Gd} {h : Nat → Nat} {σ : St} {r : va_W}  {σ0 : St} (hR : some σ0 = sp_X0_giveBack σ) : Ct l γ yX0_giveBack (Cond.code yX0_giveBack cX0_giveBack 4 none) ({ frames := 2, cells := 0, slots := 0, locals := 47 } : Room) [.ref (h 0)] (wB γ h σ ++ (r)) (Pr none (wB γ h σ0 ++ (r))) 0 0 := by
  refine Ct_of hl (by decide +kernel) rfl (Nat.le_of_ble_eq_true rfl) (L := [some (.ref (h 0)), none, none, none]) rfl ?_
  intro X Q K hQ
  generalize ((wB γ h σ ++ (r), Q) : MX) = M at K hQ ⊢
  unfold sp_X0_giveBack at hR
  have b2 : ∀  (n : Nat) (y1 : Int32) (σ2 : St), some σ0 = sp_X0_giveBack_2  n y1 σ2 → V l γ X M (wB γ h σ2 ++ (r)) [some (.ref (h 0)), some (.int y1), none, none] 0 0 2 [] := by
    intro  n
    induction n with
    | zero => intro y1 σ2 hR; exact nn_ hR
    | succ n ih2 =>
      intro y1 σ2 hR
      rw [sp_X0_giveBack_2] at hR
      refine r_iload_n 2 1 K (dk_of tX0_giveBack 2 rfl) rfl rfl ?_
      refine r_bipush 3 (24 : Int32) K (dk_of tX0_giveBack 3 rfl) (by decide) ?_
      refine r_ic_ge 5 72 K (dk_of tX0_giveBack 4 rfl) (by decide) hR (fun hR => ?_) (fun hR => ?_)
      · exact r_vret 72 K hQ (dk_of tX0_giveBack 43 rfl) (Nat.zero_le _) (Nat.zero_le _) (lfv (fun u9 : St => wB γ h u9 ++ (r)) hR)
      · refine r_aload_n 8 0 K (dk_of tX0_giveBack 5 rfl) rfl rfl ?_
        refine r_getf (C := RX0) (T := TX0) (N := 9) 9 0 0 K (dk_of tX0_giveBack 6 rfl) w200 gwX0 rfl rfl (by decide) rfl ?_
        refine r_iload_n 12 1 K (dk_of tX0_giveBack 7 rfl) rfl rfl ?_
        obtain ⟨x3, hc, hR⟩ := o1 hR
        refine r_cVi 13 1 [.int y1] [] x3 (wB γ h σ2 ++ (r)) K (ct_X2_lowestWaterBeside hl hc.symm) cs_X0_161 ⟨rfl, rfl, rfl⟩ (dk_of tX0_giveBack 8 rfl) rfl rfl rfl rfl rfl rfl ?_
        refine r_istore_n 16 2 [some (.ref (h 0)), some (.int y1), some (.int x3), none] K (dk_of tX0_giveBack 9 rfl) rfl rfl rfl (by decide) ?_
        refine r_iload_n 17 2 K (dk_of tX0_giveBack 10 rfl) rfl rfl ?_
        refine r_iconst 18 (-1) K (dk_of tX0_giveBack 11 rfl) (by decide) ?_
        refine r_ic_eq 19 66 K (dk_of tX0_giveBack 12 rfl) (by decide) hR (fun hR => ?_) (fun hR => ?_)
        · refine r_iinc 66 1 (y1 + 1) [some (.ref (h 0)), some (.int (y1 + 1)), some (.int x3), none] K (dk_of tX0_giveBack 41 rfl) rfl rfl rfl rfl (by decide) ?_
          refine r_goto 69 2 K (dk_of tX0_giveBack 42 rfl) (by decide) ?_
          exact r_msk [true, true, false, true] [some (.ref (h 0)), some (.int (y1 + 1)), none, none] rfl (ih2 (y1 + 1) σ2 hR)
        · refine r_aload_n 22 0 K (dk_of tX0_giveBack 13 rfl) rfl rfl ?_
          refine r_getf (C := RX0) (T := TX0) (N := 9) 23 0 0 K (dk_of tX0_giveBack 14 rfl) w200 gwX0 rfl rfl (by decide) rfl ?_
          refine r_iload_n 26 1 K (dk_of tX0_giveBack 15 rfl) rfl rfl ?_
          refine r_aload_n 27 0 K (dk_of tX0_giveBack 16 rfl) rfl rfl ?_
          refine r_getf (C := RX0) (T := TX0) (N := 9) 28 0 0 K (dk_of tX0_giveBack 17 rfl) w200 gwX0 rfl rfl (by decide) rfl ?_
          refine r_getf (C := RX2) (T := TX2) (N := 8) 31 1 4 K (dk_of tX0_giveBack 18 rfl) w62 gwX2 rfl rfl (by decide) rfl ?_
          refine r_iload_n 34 1 K (dk_of tX0_giveBack 19 rfl) rfl rfl ?_
          refine r_ialdR 35 6 K (dk_of tX0_giveBack 20 rfl) rfl hR (fun hR => ?_)
          obtain ⟨x4, hc, hR⟩ := o1 hR
          refine r_cVi 36 1 [.int y1, .int (σ2 6 y1.toNatClampNeg)] [] x4 (wB γ h σ2 ++ (r)) K (ct_X2_backOf hl hc.symm) cs_X0_164 ⟨rfl, rfl, rfl⟩ (dk_of tX0_giveBack 21 rfl) rfl rfl rfl rfl rfl rfl ?_
          refine r_istore_n 39 3 [some (.ref (h 0)), some (.int y1), some (.int x3), some (.int x4)] K (dk_of tX0_giveBack 22 rfl) rfl rfl rfl (by decide) ?_
          refine r_aload_n 40 0 K (dk_of tX0_giveBack 23 rfl) rfl rfl ?_
          refine r_getf (C := RX0) (T := TX0) (N := 9) 41 0 0 K (dk_of tX0_giveBack 24 rfl) w200 gwX0 rfl rfl (by decide) rfl ?_
          refine r_getf (C := RX2) (T := TX2) (N := 8) 44 1 4 K (dk_of tX0_giveBack 25 rfl) w62 gwX2 rfl rfl (by decide) rfl ?_
          refine r_iload_n 47 1 K (dk_of tX0_giveBack 26 rfl) rfl rfl ?_
          refine r_dup2 48 K (dk_of tX0_giveBack 27 rfl) rfl rfl ?_
          refine r_ialdR 49 6 K (dk_of tX0_giveBack 28 rfl) rfl hR (fun hR => ?_)
          refine r_iload_n 50 3 K (dk_of tX0_giveBack 29 rfl) rfl rfl ?_
          refine r_isub 51 K (dk_of tX0_giveBack 30 rfl) ?_
          refine r_iastR 52 6 K (dk_of tX0_giveBack 31 rfl) rfl sB_6 hR (fun hR => ?_)
          refine r_nmS (fun σ5 : St => wB γ h σ5 ++ (r)) hR (fun σ5 hR => ?_)
          refine r_aload_n 53 0 K (dk_of tX0_giveBack 32 rfl) rfl rfl ?_
          refine r_getf (C := RX0) (T := TX0) (N := 9) 54 0 0 K (dk_of tX0_giveBack 33 rfl) w200 gwX0 rfl rfl (by decide) rfl ?_
          refine r_getf (C := RX2) (T := TX2) (N := 8) 57 1 3 K (dk_of tX0_giveBack 34 rfl) w57 gwX2 rfl rfl (by decide) rfl ?_
          refine r_iload_n 60 2 K (dk_of tX0_giveBack 35 rfl) rfl rfl ?_
          refine r_dup2 61 K (dk_of tX0_giveBack 36 rfl) rfl rfl ?_
          refine r_ialdR 62 5 K (dk_of tX0_giveBack 37 rfl) rfl hR (fun hR => ?_)
          refine r_iload_n 63 3 K (dk_of tX0_giveBack 38 rfl) rfl rfl ?_
          refine r_iadd 64 K (dk_of tX0_giveBack 39 rfl) ?_
          refine r_iastR 65 5 K (dk_of tX0_giveBack 40 rfl) rfl sB_5 hR (fun hR => ?_)
          refine r_nmS (fun σ6 : St => wB γ h σ6 ++ (r)) hR (fun σ6 hR => ?_)
          refine r_iinc 66 1 (y1 + 1) [some (.ref (h 0)), some (.int (y1 + 1)), some (.int x3), some (.int x4)] K (dk_of tX0_giveBack 41 rfl) rfl rfl rfl rfl (by decide) ?_
          refine r_goto 69 2 K (dk_of tX0_giveBack 42 rfl) (by decide) ?_
          exact r_msk [true, true, false, false] [some (.ref (h 0)), some (.int (y1 + 1)), none, none] rfl (ih2 (y1 + 1) σ6 hR)
  refine r_iconst 0 (0 : Int32) K (dk_of tX0_giveBack 0 rfl) (by decide) ?_
  refine r_istore_n 1 1 [some (.ref (h 0)), some (.int (0 : Int32)), none, none] K (dk_of tX0_giveBack 1 rfl) rfl rfl rfl (by decide) ?_
  exact b2 200 (0 : Int32) σ hR

def sp_X0_skim_2  : Nat → Int32 → St → Option (St)
  | 0, _, _ => none
  | n + 1, y1, σ2 => if (σ2 14 0) ≤ y1 then (some σ2) else (if y1 < 0 ∨ 20 ≤ y1.toNatClampNeg then none else (if (σ2 15 y1.toNatClampNeg) = (1 : Int32) then (if y1 < 0 ∨ 20 ≤ y1.toNatClampNeg then none else (sl ((σ2 16 y1.toNatClampNeg)) (fun x3 : Int32 => if x3 < 0 ∨ 24 ≤ x3.toNatClampNeg then none else (b1 (sp_X4_freshTaken y1 (σ2 4 x3.toNatClampNeg) σ2) (fun (x4 : Int32) => if x3 < 0 ∨ 24 ≤ x3.toNatClampNeg then none else (b1 (sp_X4_thickTaken y1 x4 (σ2 5 x3.toNatClampNeg) σ2) (fun (x5 : Int32) => if x3 < 0 ∨ 24 ≤ x3.toNatClampNeg then none else (if x3 < 0 ∨ 24 ≤ x3.toNatClampNeg then none else (sl (stU σ2 4 x3.toNatClampNeg ((σ2 4 x3.toNatClampNeg) - x4)) (fun σ6 : St => if x3 < 0 ∨ 24 ≤ x3.toNatClampNeg then none else (if x3 < 0 ∨ 24 ≤ x3.toNatClampNeg then none else (sl (stU σ6 5 x3.toNatClampNeg ((σ6 5 x3.toNatClampNeg) - x5)) (fun σ7 : St => if y1 < 0 ∨ 20 ≤ y1.toNatClampNeg then none else (if y1 < 0 ∨ 20 ≤ y1.toNatClampNeg then none else (sl (stU σ7 20 y1.toNatClampNeg ((σ7 20 y1.toNatClampNeg) + (x4 + x5))) (fun σ8 : St => sp_X0_skim_2 n (y1 + 1) σ8)))))))))))))))) else (sp_X0_skim_2 n (y1 + 1) σ2)))
def sp_X0_skim  (σ : St) : Option (St) := sp_X0_skim_2 200 (0 : Int32) σ
set_option maxHeartbeats 4000000 in
set_option maxRecDepth 100000 in
theorem ct_X0_skim {l : Launch} (hl : l.stackTraces = false) {γ : Gd} {h : Nat → Nat} {σ : St} {r : va_W}  {σ0 : St} (hR : some σ0 = sp_X0_skim σ) : Ct l γ yX0_skim (Cond.code yX0_skim cX0_skim 5 none) ({ frames := 2, cells := 0, slots := 0, locals := 39 } : Room) [.ref (h 0)] (wB γ h σ ++ (r)) (Pr none (wB γ h σ0 ++ (r))) 0 0 := by
  refine Ct_of hl (by decide +kernel) rfl (Nat.le_of_ble_eq_true rfl) (L := [some (.ref (h 0)), none, none, none, none]) rfl ?_
  intro X Q K hQ
  generalize ((wB γ h σ ++ (r), Q) : MX) = M at K hQ ⊢
  unfold sp_X0_skim at hR
  have b2 : ∀  (n : Nat) (y1 : Int32) (σ2 : St), some σ0 = sp_X0_skim_2  n y1 σ2 → V l γ X M (wB γ h σ2 ++ (r)) [some (.ref (h 0)), some (.int y1), none, none, none] 0 0 2 [] := by
    intro  n
    induction n with
    | zero => intro y1 σ2 hR; exact nn_ hR
    | succ n ih2 =>
      intro y1 σ2 hR
      rw [sp_X0_skim_2] at hR
      refine r_iload_n 2 1 K (dk_of tX0_skim 2 rfl) rfl rfl ?_
      refine r_aload_n 3 0 K (dk_of tX0_skim 3 rfl) rfl rfl ?_
      refine r_getf (C := RX0) (T := TX0) (N := 9) 4 0 2 K (dk_of tX0_skim 4 rfl) w207 gwX0 rfl rfl (by decide) rfl ?_
      refine r_getf (C := RX4) (T := TX4) (N := 9) 7 14 0 K (dk_of tX0_skim 5 rfl) w123 gwX4 rfl rfl (by decide) rfl ?_
      refine r_ic_ge 10 123 K (dk_of tX0_skim 6 rfl) (by decide) hR (fun hR => ?_) (fun hR => ?_)
      · exact r_vret 123 K hQ (dk_of tX0_skim 72 rfl) (Nat.zero_le _) (Nat.zero_le _) (lfv (fun u9 : St => wB γ h u9 ++ (r)) hR)
      · refine r_aload_n 13 0 K (dk_of tX0_skim 7 rfl) rfl rfl ?_
        refine r_getf (C := RX0) (T := TX0) (N := 9) 14 0 2 K (dk_of tX0_skim 8 rfl) w207 gwX0 rfl rfl (by decide) rfl ?_
        refine r_getf (C := RX4) (T := TX4) (N := 9) 17 14 1 K (dk_of tX0_skim 9 rfl) w126 gwX4 rfl rfl (by decide) rfl ?_
        refine r_iload_n 20 1 K (dk_of tX0_skim 10 rfl) rfl rfl ?_
        refine r_ialdR 21 15 K (dk_of tX0_skim 11 rfl) rfl hR (fun hR => ?_)
        refine r_iconst 22 (1 : Int32) K (dk_of tX0_skim 12 rfl) (by decide) ?_
        refine r_ic_ne 23 117 K (dk_of tX0_skim 13 rfl) (by decide) hR (fun hR => ?_) (fun hR => ?_)
        · refine r_aload_n 26 0 K (dk_of tX0_skim 14 rfl) rfl rfl ?_
          refine r_getf (C := RX0) (T := TX0) (N := 9) 27 0 2 K (dk_of tX0_skim 15 rfl) w207 gwX0 rfl rfl (by decide) rfl ?_
          refine r_getf (C := RX4) (T := TX4) (N := 9) 30 14 2 K (dk_of tX0_skim 16 rfl) w129 gwX4 rfl rfl (by decide) rfl ?_
          refine r_iload_n 33 1 K (dk_of tX0_skim 17 rfl) rfl rfl ?_
          refine r_ialdR 34 16 K (dk_of tX0_skim 18 rfl) rfl hR (fun hR => ?_)
          refine r_nmI hR (fun x3 hR => ?_)
          refine r_istore_n 35 2 [some (.ref (h 0)), some (.int y1), some (.int x3), none, none] K (dk_of tX0_skim 19 rfl) rfl rfl rfl (by decide) ?_
          refine r_aload_n 36 0 K (dk_of tX0_skim 20 rfl) rfl rfl ?_
          refine r_getf (C := RX0) (T := TX0) (N := 9) 37 0 2 K (dk_of tX0_skim 21 rfl) w207 gwX0 rfl rfl (by decide) rfl ?_
          refine r_iload_n 40 1 K (dk_of tX0_skim 22 rfl) rfl rfl ?_
          refine r_aload_n 41 0 K (dk_of tX0_skim 23 rfl) rfl rfl ?_
          refine r_getf (C := RX0) (T := TX0) (N := 9) 42 0 0 K (dk_of tX0_skim 24 rfl) w200 gwX0 rfl rfl (by decide) rfl ?_
          refine r_getf (C := RX2) (T := TX2) (N := 8) 45 1 2 K (dk_of tX0_skim 25 rfl) w52 gwX2 rfl rfl (by decide) rfl ?_
          refine r_iload_n 48 2 K (dk_of tX0_skim 26 rfl) rfl rfl ?_
          refine r_ialdR 49 4 K (dk_of tX0_skim 27 rfl) rfl hR (fun hR => ?_)
          obtain ⟨x4, hc, hR⟩ := o1 hR
          refine r_cVi 50 14 [.int y1, .int (σ2 4 x3.toNatClampNeg)] [] x4 (wB γ h σ2 ++ (r)) K (ct_X4_freshTaken hl hc.symm) cs_X0_172 ⟨rfl, rfl, rfl⟩ (dk_of tX0_skim 28 rfl) rfl rfl rfl rfl rfl rfl ?_
          refine r_istore_n 53 3 [some (.ref (h 0)), some (.int y1), some (.int x3), some (.int x4), none] K (dk_of tX0_skim 29 rfl) rfl rfl rfl (by decide) ?_
          refine r_aload_n 54 0 K (dk_of tX0_skim 30 rfl) rfl rfl ?_
          refine r_getf (C := RX0) (T := TX0) (N := 9) 55 0 2 K (dk_of tX0_skim 31 rfl) w207 gwX0 rfl rfl (by decide) rfl ?_
          refine r_iload_n 58 1 K (dk_of tX0_skim 32 rfl) rfl rfl ?_
          refine r_iload_n 59 3 K (dk_of tX0_skim 33 rfl) rfl rfl ?_
          refine r_aload_n 60 0 K (dk_of tX0_skim 34 rfl) rfl rfl ?_
          refine r_getf (C := RX0) (T := TX0) (N := 9) 61 0 0 K (dk_of tX0_skim 35 rfl) w200 gwX0 rfl rfl (by decide) rfl ?_
          refine r_getf (C := RX2) (T := TX2) (N := 8) 64 1 3 K (dk_of tX0_skim 36 rfl) w57 gwX2 rfl rfl (by decide) rfl ?_
          refine r_iload_n 67 2 K (dk_of tX0_skim 37 rfl) rfl rfl ?_
          refine r_ialdR 68 5 K (dk_of tX0_skim 38 rfl) rfl hR (fun hR => ?_)
          obtain ⟨x5, hc, hR⟩ := o1 hR
          refine r_cVi 69 14 [.int y1, .int x4, .int (σ2 5 x3.toNatClampNeg)] [] x5 (wB γ h σ2 ++ (r)) K (ct_X4_thickTaken hl hc.symm) cs_X0_175 ⟨rfl, rfl, rfl⟩ (dk_of tX0_skim 39 rfl) rfl rfl rfl rfl rfl rfl ?_
          refine r_istore 72 4 [some (.ref (h 0)), some (.int y1), some (.int x3), some (.int x4), some (.int x5)] K (dk_of tX0_skim 40 rfl) rfl rfl (by decide) ?_
          refine r_aload_n 74 0 K (dk_of tX0_skim 41 rfl) rfl rfl ?_
          refine r_getf (C := RX0) (T := TX0) (N := 9) 75 0 0 K (dk_of tX0_skim 42 rfl) w200 gwX0 rfl rfl (by decide) rfl ?_
          refine r_getf (C := RX2) (T := TX2) (N := 8) 78 1 2 K (dk_of tX0_skim 43 rfl) w52 gwX2 rfl rfl (by decide) rfl ?_
          refine r_iload_n 81 2 K (dk_of tX0_skim 44 rfl) rfl rfl ?_
          refine r_dup2 82 K (dk_of tX0_skim 45 rfl) rfl rfl ?_
          refine r_ialdR 83 4 K (dk_of tX0_skim 46 rfl) rfl hR (fun hR => ?_)
          refine r_iload_n 84 3 K (dk_of tX0_skim 47 rfl) rfl rfl ?_
          refine r_isub 85 K (dk_of tX0_skim 48 rfl) ?_
          refine r_iastR 86 4 K (dk_of tX0_skim 49 rfl) rfl sB_4 hR (fun hR => ?_)
          refine r_nmS (fun σ6 : St => wB γ h σ6 ++ (r)) hR (fun σ6 hR => ?_)
          refine r_aload_n 87 0 K (dk_of tX0_skim 50 rfl) rfl rfl ?_
          refine r_getf (C := RX0) (T := TX0) (N := 9) 88 0 0 K (dk_of tX0_skim 51 rfl) w200 gwX0 rfl rfl (by decide) rfl ?_
          refine r_getf (C := RX2) (T := TX2) (N := 8) 91 1 3 K (dk_of tX0_skim 52 rfl) w57 gwX2 rfl rfl (by decide) rfl ?_
          refine r_iload_n 94 2 K (dk_of tX0_skim 53 rfl) rfl rfl ?_
          refine r_dup2 95 K (dk_of tX0_skim 54 rfl) rfl rfl ?_
          refine r_ialdR 96 5 K (dk_of tX0_skim 55 rfl) rfl hR (fun hR => ?_)
          refine r_iload 97 4 K (dk_of tX0_skim 56 rfl) rfl ?_
          refine r_isub 99 K (dk_of tX0_skim 57 rfl) ?_
          refine r_iastR 100 5 K (dk_of tX0_skim 58 rfl) rfl sB_5 hR (fun hR => ?_)
          refine r_nmS (fun σ7 : St => wB γ h σ7 ++ (r)) hR (fun σ7 hR => ?_)
          refine r_aload_n 101 0 K (dk_of tX0_skim 59 rfl) rfl rfl ?_
          refine r_getf (C := RX0) (T := TX0) (N := 9) 102 0 2 K (dk_of tX0_skim 60 rfl) w207 gwX0 rfl rfl (by decide) rfl ?_
          refine r_getf (C := RX4) (T := TX4) (N := 9) 105 14 6 K (dk_of tX0_skim 61 rfl) w140 gwX4 rfl rfl (by decide) rfl ?_
          refine r_iload_n 108 1 K (dk_of tX0_skim 62 rfl) rfl rfl ?_
          refine r_dup2 109 K (dk_of tX0_skim 63 rfl) rfl rfl ?_
          refine r_ialdR 110 20 K (dk_of tX0_skim 64 rfl) rfl hR (fun hR => ?_)
          refine r_iload_n 111 3 K (dk_of tX0_skim 65 rfl) rfl rfl ?_
          refine r_iload 112 4 K (dk_of tX0_skim 66 rfl) rfl ?_
          refine r_iadd 114 K (dk_of tX0_skim 67 rfl) ?_
          refine r_iadd 115 K (dk_of tX0_skim 68 rfl) ?_
          refine r_iastR 116 20 K (dk_of tX0_skim 69 rfl) rfl sB_20 hR (fun hR => ?_)
          refine r_nmS (fun σ8 : St => wB γ h σ8 ++ (r)) hR (fun σ8 hR => ?_)
          refine r_iinc 117 1 (y1 + 1) [some (.ref (h 0)), some (.int (y1 + 1)), some (.int x3), some (.int x4), some (.int x5)] K (dk_of tX0_skim 70 rfl) rfl rfl rfl rfl (by decide) ?_
          refine r_goto 120 2 K (dk_of tX0_skim 71 rfl) (by decide) ?_
          exact r_msk [true, true, false, false, false] [some (.ref (h 0)), some (.int (y1 + 1)), none, none, none] rfl (ih2 (y1 + 1) σ8 hR)
        · refine r_iinc 117 1 (y1 + 1) [some (.ref (h 0)), some (.int (y1 + 1)), none, none, none] K (dk_of tX0_skim 70 rfl) rfl rfl rfl rfl (by decide) ?_
          refine r_goto 120 2 K (dk_of tX0_skim 71 rfl) (by decide) ?_
          exact ih2 (y1 + 1) σ2 hR
  refine r_iconst 0 (0 : Int32) K (dk_of tX0_skim 0 rfl) (by decide) ?_
  refine r_istore_n 1 1 [some (.ref (h 0)), some (.int (0 : Int32)), none, none, none] K (dk_of tX0_skim 1 rfl) rfl rfl rfl (by decide) ?_
  exact b2 200 (0 : Int32) σ hR

def sp_X0_harmShores_2  : Nat → Int32 → St → Option (St)
  | 0, _, _ => none
  | n + 1, y1, σ2 => if (24 : Int32) ≤ y1 then (some σ2) else (b1 (sp_X2_oilBirds y1 σ2) (fun (σ3 : St) => b1 (sp_X2_isTooDirty y1 σ3) (fun (x4 : Int32) => if x4 = 0 then (sp_X0_harmShores_2 n (y1 + 1) σ3) else (if y1 < 0 ∨ 24 ≤ y1.toNatClampNeg then none else (sl (stU σ3 9 y1.toNatClampNeg (0 : Int32)) (fun σ5 : St => sp_X0_harmShores_2 n (y1 + 1) σ5))))))
def sp_X0_harmShores  (σ : St) : Option (St) := sp_X0_harmShores_2 200 (0 : Int32) σ
set_option maxHeartbeats 4000000 in
set_option maxRecDepth 100000 in
theorem ct_X0_harmShores {l : Launch} (hl : l.stackTraces = false) {γ : Gd} {h : Nat → Nat} {σ : St} {r : va_W}  {σ0 : St} (hR : some σ0 = sp_X0_harmShores σ) : Ct l γ yX0_harmShores (Cond.code yX0_harmShores cX0_harmShores 2 none) ({ frames := 2, cells := 0, slots := 0, locals := 37 } : Room) [.ref (h 0)] (wB γ h σ ++ (r)) (Pr none (wB γ h σ0 ++ (r))) 0 0 := by
  refine Ct_of hl (by decide +kernel) rfl (Nat.le_of_ble_eq_true rfl) (L := [some (.ref (h 0)), none]) rfl ?_
  intro X Q K hQ
  generalize ((wB γ h σ ++ (r), Q) : MX) = M at K hQ ⊢
  unfold sp_X0_harmShores at hR
  have b2 : ∀  (n : Nat) (y1 : Int32) (σ2 : St), some σ0 = sp_X0_harmShores_2  n y1 σ2 → V l γ X M (wB γ h σ2 ++ (r)) [some (.ref (h 0)), some (.int y1)] 0 0 2 [] := by
    intro  n
    induction n with
    | zero => intro y1 σ2 hR; exact nn_ hR
    | succ n ih2 =>
      intro y1 σ2 hR
      rw [sp_X0_harmShores_2] at hR
      refine r_iload_n 2 1 K (dk_of tX0_harmShores 2 rfl) rfl rfl ?_
      refine r_bipush 3 (24 : Int32) K (dk_of tX0_harmShores 3 rfl) (by decide) ?_
      refine r_ic_ge 5 43 K (dk_of tX0_harmShores 4 rfl) (by decide) hR (fun hR => ?_) (fun hR => ?_)
      · exact r_vret 43 K hQ (dk_of tX0_harmShores 22 rfl) (Nat.zero_le _) (Nat.zero_le _) (lfv (fun u9 : St => wB γ h u9 ++ (r)) hR)
      · refine r_aload_n 8 0 K (dk_of tX0_harmShores 5 rfl) rfl rfl ?_
        refine r_getf (C := RX0) (T := TX0) (N := 9) 9 0 0 K (dk_of tX0_harmShores 6 rfl) w200 gwX0 rfl rfl (by decide) rfl ?_
        refine r_iload_n 12 1 K (dk_of tX0_harmShores 7 rfl) rfl rfl ?_
        obtain ⟨σ3, hc, hR⟩ := o1 hR
        refine r_cVv 13 1 [.int y1] [] (wB γ h σ3 ++ (r)) K (ct_X2_oilBirds hl hc.symm) cs_X0_179 ⟨rfl, rfl, rfl⟩ (dk_of tX0_harmShores 8 rfl) rfl rfl rfl rfl rfl rfl ?_
        refine r_aload_n 16 0 K (dk_of tX0_harmShores 9 rfl) rfl rfl ?_
        refine r_getf (C := RX0) (T := TX0) (N := 9) 17 0 0 K (dk_of tX0_harmShores 10 rfl) w200 gwX0 rfl rfl (by decide) rfl ?_
        refine r_iload_n 20 1 K (dk_of tX0_harmShores 11 rfl) rfl rfl ?_
        obtain ⟨x4, hc, hR⟩ := o1 hR
        refine r_cVi 21 1 [.int y1] [] x4 (wB γ h σ3 ++ (r)) K (ct_X2_isTooDirty hl hc.symm) cs_X0_182 ⟨rfl, rfl, rfl⟩ (dk_of tX0_harmShores 12 rfl) rfl rfl rfl rfl rfl rfl ?_
        refine r_if_eq 24 37 K (dk_of tX0_harmShores 13 rfl) (by decide) hR (fun hR => ?_) (fun hR => ?_)
        · refine r_iinc 37 1 (y1 + 1) [some (.ref (h 0)), some (.int (y1 + 1))] K (dk_of tX0_harmShores 20 rfl) rfl rfl rfl rfl (by decide) ?_
          refine r_goto 40 2 K (dk_of tX0_harmShores 21 rfl) (by decide) ?_
          exact ih2 (y1 + 1) σ3 hR
        · refine r_aload_n 27 0 K (dk_of tX0_harmShores 14 rfl) rfl rfl ?_
          refine r_getf (C := RX0) (T := TX0) (N := 9) 28 0 0 K (dk_of tX0_harmShores 15 rfl) w200 gwX0 rfl rfl (by decide) rfl ?_
          refine r_getf (C := RX2) (T := TX2) (N := 8) 31 1 7 K (dk_of tX0_harmShores 16 rfl) w69 gwX2 rfl rfl (by decide) rfl ?_
          refine r_iload_n 34 1 K (dk_of tX0_harmShores 17 rfl) rfl rfl ?_
          refine r_iconst 35 (0 : Int32) K (dk_of tX0_harmShores 18 rfl) (by decide) ?_
          refine r_iastR 36 9 K (dk_of tX0_harmShores 19 rfl) rfl sB_9 hR (fun hR => ?_)
          refine r_nmS (fun σ5 : St => wB γ h σ5 ++ (r)) hR (fun σ5 hR => ?_)
          refine r_iinc 37 1 (y1 + 1) [some (.ref (h 0)), some (.int (y1 + 1))] K (dk_of tX0_harmShores 20 rfl) rfl rfl rfl rfl (by decide) ?_
          refine r_goto 40 2 K (dk_of tX0_harmShores 21 rfl) (by decide) ?_
          exact ih2 (y1 + 1) σ5 hR
  refine r_iconst 0 (0 : Int32) K (dk_of tX0_harmShores 0 rfl) (by decide) ?_
  refine r_istore_n 1 1 [some (.ref (h 0)), some (.int (0 : Int32))] K (dk_of tX0_harmShores 1 rfl) rfl rfl rfl (by decide) ?_
  exact b2 200 (0 : Int32) σ hR

def sp_X0_letPass_2 (y1 : Int32) : Nat → Int32 → St → Option (St)
  | 0, _, _ => none
  | n + 1, y2, σ3 => if y1 ≤ y2 then (some σ3) else (sl (stU σ3 0 4 ((σ3 0 4) + (1 : Int32))) (fun σ4 : St => b1 (sp_X0_leak σ4) (fun (σ5 : St) => b1 (sp_X0_weather σ5) (fun (σ6 : St) => b1 (sp_X0_drift σ6) (fun (σ7 : St) => b1 (sp_X0_tideOf (σ7 0 4)) (fun (x8 : Int32) => if x8 = (6 : Int32) then (b1 (sp_X0_giveBack σ7) (fun (σ9 : St) => b1 (sp_X0_skim σ9) (fun (σ10 : St) => b1 (sp_X0_harmShores σ10) (fun (σ11 : St) => sp_X0_letPass_2 y1 n (y2 + 1) σ11)))) else (b1 (sp_X0_skim σ7) (fun (σ12 : St) => b1 (sp_X0_harmShores σ12) (fun (σ13 : St) => sp_X0_letPass_2 y1 n (y2 + 1) σ13)))))))))
def sp_X0_letPass (p1 : Int32) (σ : St) : Option (St) := sp_X0_letPass_2 p1 200 (0 : Int32) σ
set_option maxHeartbeats 4000000 in
set_option maxRecDepth 100000 in
theorem ct_X0_letPass {l : Launch} (hl : l.stackTraces = false) {γ : Gd} {h : Nat → Nat} {σ : St} {r : va_W} {p1 : Int32} {σ0 : St} (hR : some σ0 = sp_X0_letPass p1 σ) : Ct l γ yX0_letPass (Cond.code yX0_letPass cX0_letPass 3 none) ({ frames := 4, cells := 0, slots := 0, locals := 94 } : Room) [.ref (h 0), .int p1] (wB γ h σ ++ (r)) (Pr none (wB γ h σ0 ++ (r))) 0 0 := by
  refine Ct_of hl (by decide +kernel) rfl (Nat.le_of_ble_eq_true rfl) (L := [some (.ref (h 0)), some (.int p1), none]) rfl ?_
  intro X Q K hQ
  generalize ((wB γ h σ ++ (r), Q) : MX) = M at K hQ ⊢
  unfold sp_X0_letPass at hR
  have b2 : ∀ (y1 : Int32) (n : Nat) (y2 : Int32) (σ3 : St), some σ0 = sp_X0_letPass_2 y1 n y2 σ3 → V l γ X M (wB γ h σ3 ++ (r)) [some (.ref (h 0)), some (.int y1), some (.int y2)] 0 0 2 [] := by
    intro y1 n
    induction n with
    | zero => intro y2 σ3 hR; exact nn_ hR
    | succ n ih2 =>
      intro y2 σ3 hR
      rw [sp_X0_letPass_2] at hR
      refine r_iload_n 2 2 K (dk_of tX0_letPass 2 rfl) rfl rfl ?_
      refine r_iload_n 3 1 K (dk_of tX0_letPass 3 rfl) rfl rfl ?_
      refine r_ic_ge 4 59 K (dk_of tX0_letPass 4 rfl) (by decide) hR (fun hR => ?_) (fun hR => ?_)
      · exact r_vret 59 K hQ (dk_of tX0_letPass 30 rfl) (Nat.zero_le _) (Nat.zero_le _) (lfv (fun u9 : St => wB γ h u9 ++ (r)) hR)
      · refine r_aload_n 7 0 K (dk_of tX0_letPass 5 rfl) rfl rfl ?_
        refine r_dup 8 K (dk_of tX0_letPass 6 rfl) rfl ?_
        refine r_getf (C := RX0) (T := TX0) (N := 9) 9 0 4 K (dk_of tX0_letPass 7 rfl) w213 gwX0 rfl rfl (by decide) rfl ?_
        refine r_iconst 12 (1 : Int32) K (dk_of tX0_letPass 8 rfl) (by decide) ?_
        refine r_iadd 13 K (dk_of tX0_letPass 9 rfl) ?_
        refine r_putf (C := RX0) (T := TX0) (N := 9) 14 0 4 K (dk_of tX0_letPass 10 rfl) w213 gwX0 tyX0_ok nmX0 rfl rfl (by decide) rfl rfl rfl rfl (Nat.le_of_ble_eq_true rfl) sB_0_4 ?_
        refine r_nmS (fun σ4 : St => wB γ h σ4 ++ (r)) hR (fun σ4 hR => ?_)
        refine r_aload_n 17 0 K (dk_of tX0_letPass 11 rfl) rfl rfl ?_
        obtain ⟨σ5, hc, hR⟩ := o1 hR
        refine r_cVv 18 0 [] [] (wB γ h σ5 ++ (r)) K (ct_X0_leak hl hc.symm) cs_X0_66 ⟨rfl, rfl, rfl⟩ (dk_of tX0_letPass 12 rfl) rfl rfl rfl rfl rfl rfl ?_
        refine r_aload_n 21 0 K (dk_of tX0_letPass 13 rfl) rfl rfl ?_
        obtain ⟨σ6, hc, hR⟩ := o1 hR
        refine r_cVv 22 0 [] [] (wB γ h σ6 ++ (r)) K (ct_X0_weather hl hc.symm) cs_X0_69 ⟨rfl, rfl, rfl⟩ (dk_of tX0_letPass 14 rfl) rfl rfl rfl rfl rfl rfl ?_
        refine r_aload_n 25 0 K (dk_of tX0_letPass 15 rfl) rfl rfl ?_
        obtain ⟨σ7, hc, hR⟩ := o1 hR
        refine r_cVv 26 0 [] [] (wB γ h σ7 ++ (r)) K (ct_X0_drift hl hc.symm) cs_X0_72 ⟨rfl, rfl, rfl⟩ (dk_of tX0_letPass 16 rfl) rfl rfl rfl rfl rfl rfl ?_
        refine r_aload_n 29 0 K (dk_of tX0_letPass 17 rfl) rfl rfl ?_
        refine r_getf (C := RX0) (T := TX0) (N := 9) 30 0 4 K (dk_of tX0_letPass 18 rfl) w213 gwX0 rfl rfl (by decide) rfl ?_
        obtain ⟨x8, hc, hR⟩ := o1 hR
        refine r_cSi 33 [.int (σ7 0 4)] [] x8 (wB γ h σ7 ++ (r)) K (ct_X0_tideOf hl hc.symm) cs_X0_75 ⟨rfl, rfl, rfl⟩ (dk_of tX0_letPass 19 rfl) rfl rfl rfl rfl ?_
        refine r_bipush 36 (6 : Int32) K (dk_of tX0_letPass 20 rfl) (by decide) ?_
        refine r_ic_ne 38 45 K (dk_of tX0_letPass 21 rfl) (by decide) hR (fun hR => ?_) (fun hR => ?_)
        · refine r_aload_n 41 0 K (dk_of tX0_letPass 22 rfl) rfl rfl ?_
          obtain ⟨σ9, hc, hR⟩ := o1 hR
          refine r_cVv 42 0 [] [] (wB γ h σ9 ++ (r)) K (ct_X0_giveBack hl hc.symm) cs_X0_79 ⟨rfl, rfl, rfl⟩ (dk_of tX0_letPass 23 rfl) rfl rfl rfl rfl rfl rfl ?_
          refine r_aload_n 45 0 K (dk_of tX0_letPass 24 rfl) rfl rfl ?_
          obtain ⟨σ10, hc, hR⟩ := o1 hR
          refine r_cVv 46 0 [] [] (wB γ h σ10 ++ (r)) K (ct_X0_skim hl hc.symm) cs_X0_82 ⟨rfl, rfl, rfl⟩ (dk_of tX0_letPass 25 rfl) rfl rfl rfl rfl rfl rfl ?_
          refine r_aload_n 49 0 K (dk_of tX0_letPass 26 rfl) rfl rfl ?_
          obtain ⟨σ11, hc, hR⟩ := o1 hR
          refine r_cVv 50 0 [] [] (wB γ h σ11 ++ (r)) K (ct_X0_harmShores hl hc.symm) cs_X0_85 ⟨rfl, rfl, rfl⟩ (dk_of tX0_letPass 27 rfl) rfl rfl rfl rfl rfl rfl ?_
          refine r_iinc 53 2 (y2 + 1) [some (.ref (h 0)), some (.int y1), some (.int (y2 + 1))] K (dk_of tX0_letPass 28 rfl) rfl rfl rfl rfl (by decide) ?_
          refine r_goto 56 2 K (dk_of tX0_letPass 29 rfl) (by decide) ?_
          exact ih2 (y2 + 1) σ11 hR
        · refine r_aload_n 45 0 K (dk_of tX0_letPass 24 rfl) rfl rfl ?_
          obtain ⟨σ12, hc, hR⟩ := o1 hR
          refine r_cVv 46 0 [] [] (wB γ h σ12 ++ (r)) K (ct_X0_skim hl hc.symm) cs_X0_82 ⟨rfl, rfl, rfl⟩ (dk_of tX0_letPass 25 rfl) rfl rfl rfl rfl rfl rfl ?_
          refine r_aload_n 49 0 K (dk_of tX0_letPass 26 rfl) rfl rfl ?_
          obtain ⟨σ13, hc, hR⟩ := o1 hR
          refine r_cVv 50 0 [] [] (wB γ h σ13 ++ (r)) K (ct_X0_harmShores hl hc.symm) cs_X0_85 ⟨rfl, rfl, rfl⟩ (dk_of tX0_letPass 27 rfl) rfl rfl rfl rfl rfl rfl ?_
          refine r_iinc 53 2 (y2 + 1) [some (.ref (h 0)), some (.int y1), some (.int (y2 + 1))] K (dk_of tX0_letPass 28 rfl) rfl rfl rfl rfl (by decide) ?_
          refine r_goto 56 2 K (dk_of tX0_letPass 29 rfl) (by decide) ?_
          exact ih2 (y2 + 1) σ13 hR
  refine r_iconst 0 (0 : Int32) K (dk_of tX0_letPass 0 rfl) (by decide) ?_
  refine r_istore_n 1 2 [some (.ref (h 0)), some (.int p1), some (.int (0 : Int32))] K (dk_of tX0_letPass 1 rfl) rfl rfl rfl (by decide) ?_
  exact b2 p1 200 (0 : Int32) σ hR

def sp_X0_becomeLike  (σ : St) (τ : St) : Option (St) := b1 (sp_X2_becomeLike σ τ) (fun (σ1 : St) => b1 (sp_X8_becomeLike σ1 τ) (fun (σ2 : St) => b1 (sp_X4_becomeLike σ2 τ) (fun (σ3 : St) => sl (stU σ3 0 4 (τ 0 4)) (fun σ4 : St => sl (stU σ4 0 5 (τ 0 5)) (fun σ5 : St => sl (stU σ5 0 6 (τ 0 6)) (fun σ6 : St => some σ6))))))
set_option maxHeartbeats 4000000 in
set_option maxRecDepth 100000 in
theorem ct_X0_becomeLike {l : Launch} (hl : l.stackTraces = false) {γ : Gd} {h : Nat → Nat} {g : Nat → Nat} {σ : St} {τ : St} {r : va_W}  {σ0 : St} (hR : some σ0 = sp_X0_becomeLike σ τ) : Ct l γ yX0_becomeLike (Cond.code yX0_becomeLike cX0_becomeLike 2 none) ({ frames := 2, cells := 0, slots := 0, locals := 61 } : Room) [.ref (h 0), .ref (g 0)] (wB γ h σ ++ (wB γ g τ ++ (r))) (Pr none (wB γ h σ0 ++ (wB γ g τ ++ (r)))) 0 0 := by
  refine Ct_of hl (by decide +kernel) rfl (Nat.le_of_ble_eq_true rfl) (L := [some (.ref (h 0)), some (.ref (g 0))]) rfl ?_
  intro X Q K hQ
  generalize ((wB γ h σ ++ (wB γ g τ ++ (r)), Q) : MX) = M at K hQ ⊢
  unfold sp_X0_becomeLike at hR
  refine r_aload_n 0 0 K (dk_of tX0_becomeLike 0 rfl) rfl rfl ?_
  refine r_getf (C := RX0) (T := TX0) (N := 9) 1 0 0 K (dk_of tX0_becomeLike 1 rfl) w200 gwX0 rfl rfl (by decide) rfl ?_
  refine r_aload_n 4 1 K (dk_of tX0_becomeLike 2 rfl) rfl rfl ?_
  refine r_getf (C := RX0) (T := TX0) (N := 9) 5 26 0 K (dk_of tX0_becomeLike 3 rfl) w200 gwX0 rfl rfl (by decide) rfl ?_
  obtain ⟨σ1, hc, hR⟩ := o1 hR
  refine r_cVv 8 1 [.ref (g 1)] [] (wB γ h σ1 ++ (wB γ g τ ++ (r))) K (ct_X2_becomeLike hl hc.symm) cs_X0_50 ⟨rfl, rfl, rfl⟩ (dk_of tX0_becomeLike 4 rfl) rfl rfl rfl rfl rfl rfl ?_
  refine r_aload_n 11 0 K (dk_of tX0_becomeLike 5 rfl) rfl rfl ?_
  refine r_getf (C := RX0) (T := TX0) (N := 9) 12 0 1 K (dk_of tX0_becomeLike 6 rfl) w204 gwX0 rfl rfl (by decide) rfl ?_
  refine r_aload_n 15 1 K (dk_of tX0_becomeLike 7 rfl) rfl rfl ?_
  refine r_getf (C := RX0) (T := TX0) (N := 9) 16 26 1 K (dk_of tX0_becomeLike 8 rfl) w204 gwX0 rfl rfl (by decide) rfl ?_
  obtain ⟨σ2, hc, hR⟩ := o1 hR
  refine r_cVv 19 10 [.ref (g 10)] [] (wB γ h σ2 ++ (wB γ g τ ++ (r))) K (ct_X8_becomeLike hl hc.symm) cs_X0_54 ⟨rfl, rfl, rfl⟩ (dk_of tX0_becomeLike 9 rfl) rfl rfl rfl rfl rfl rfl ?_
  refine r_aload_n 22 0 K (dk_of tX0_becomeLike 10 rfl) rfl rfl ?_
  refine r_getf (C := RX0) (T := TX0) (N := 9) 23 0 2 K (dk_of tX0_becomeLike 11 rfl) w207 gwX0 rfl rfl (by decide) rfl ?_
  refine r_aload_n 26 1 K (dk_of tX0_becomeLike 12 rfl) rfl rfl ?_
  refine r_getf (C := RX0) (T := TX0) (N := 9) 27 26 2 K (dk_of tX0_becomeLike 13 rfl) w207 gwX0 rfl rfl (by decide) rfl ?_
  obtain ⟨σ3, hc, hR⟩ := o1 hR
  refine r_cVv 30 14 [.ref (g 14)] [] (wB γ h σ3 ++ (wB γ g τ ++ (r))) K (ct_X4_becomeLike hl hc.symm) cs_X0_57 ⟨rfl, rfl, rfl⟩ (dk_of tX0_becomeLike 14 rfl) rfl rfl rfl rfl rfl rfl ?_
  refine r_aload_n 33 0 K (dk_of tX0_becomeLike 15 rfl) rfl rfl ?_
  refine r_aload_n 34 1 K (dk_of tX0_becomeLike 16 rfl) rfl rfl ?_
  refine r_getf (C := RX0) (T := TX0) (N := 9) 35 26 4 K (dk_of tX0_becomeLike 17 rfl) w213 gwX0 rfl rfl (by decide) rfl ?_
  refine r_putf (C := RX0) (T := TX0) (N := 9) 38 0 4 K (dk_of tX0_becomeLike 18 rfl) w213 gwX0 tyX0_ok nmX0 rfl rfl (by decide) rfl rfl rfl rfl (Nat.le_of_ble_eq_true rfl) sB_0_4 ?_
  refine r_nmS (fun σ4 : St => wB γ h σ4 ++ (wB γ g τ ++ (r))) hR (fun σ4 hR => ?_)
  refine r_aload_n 41 0 K (dk_of tX0_becomeLike 19 rfl) rfl rfl ?_
  refine r_aload_n 42 1 K (dk_of tX0_becomeLike 20 rfl) rfl rfl ?_
  refine r_getf (C := RX0) (T := TX0) (N := 9) 43 26 5 K (dk_of tX0_becomeLike 21 rfl) w215 gwX0 rfl rfl (by decide) rfl ?_
  refine r_putf (C := RX0) (T := TX0) (N := 9) 46 0 5 K (dk_of tX0_becomeLike 22 rfl) w215 gwX0 tyX0_ok nmX0 rfl rfl (by decide) rfl rfl rfl rfl (Nat.le_of_ble_eq_true rfl) sB_0_5 ?_
  refine r_nmS (fun σ5 : St => wB γ h σ5 ++ (wB γ g τ ++ (r))) hR (fun σ5 hR => ?_)
  refine r_aload_n 49 0 K (dk_of tX0_becomeLike 23 rfl) rfl rfl ?_
  refine r_aload_n 50 1 K (dk_of tX0_becomeLike 24 rfl) rfl rfl ?_
  refine r_getf (C := RX0) (T := TX0) (N := 9) 51 26 6 K (dk_of tX0_becomeLike 25 rfl) w218 gwX0 rfl rfl (by decide) rfl ?_
  refine r_putf (C := RX0) (T := TX0) (N := 9) 54 0 6 K (dk_of tX0_becomeLike 26 rfl) w218 gwX0 tyX0_ok nmX0 rfl rfl (by decide) rfl rfl rfl rfl (Nat.le_of_ble_eq_true rfl) sB_0_6 ?_
  refine r_nmS (fun σ6 : St => wB γ h σ6 ++ (wB γ g τ ++ (r))) hR (fun σ6 hR => ?_)
  exact r_vret 57 K hQ (dk_of tX0_becomeLike 27 rfl) (Nat.zero_le _) (Nat.zero_le _) (lfv (fun u9 : St => wB γ h u9 ++ (wB γ g τ ++ (r))) hR)

def sp_X0_hasLeakedWithin (p1 : Int32) (σ : St) : Option (Int32) := if (σ 23 1) = (-1 : Int32) then (some (0 : Int32)) else (if p1 < ((σ 0 4) - (σ 23 1)) then (some (0 : Int32)) else (some (1 : Int32)))
set_option maxHeartbeats 4000000 in
set_option maxRecDepth 100000 in
theorem ct_X0_hasLeakedWithin {l : Launch} (hl : l.stackTraces = false) {γ : Gd} {h : Nat → Nat} {σ : St} {r : va_W} {p1 : Int32} {x0 : Int32} (hR : some x0 = sp_X0_hasLeakedWithin p1 σ) : Ct l γ yX0_hasLeakedWithin (Cond.code yX0_hasLeakedWithin cX0_hasLeakedWithin 2 (some .boolean)) ({ frames := 0, cells := 0, slots := 0, locals := 0 } : Room) [.ref (h 0), .int p1] (wB γ h σ ++ (r)) (Pr (some (.int x0)) (wB γ h σ ++ (r))) 0 0 := by
  refine Ct_of hl (by decide +kernel) rfl (Nat.le_of_ble_eq_true rfl) (L := [some (.ref (h 0)), some (.int p1)]) rfl ?_
  intro X Q K hQ
  generalize ((wB γ h σ ++ (r), Q) : MX) = M at K hQ ⊢
  unfold sp_X0_hasLeakedWithin at hR
  refine r_aload_n 0 0 K (dk_of tX0_hasLeakedWithin 0 rfl) rfl rfl ?_
  refine r_getf (C := RX0) (T := TX0) (N := 9) 1 0 3 K (dk_of tX0_hasLeakedWithin 1 rfl) w210 gwX0 rfl rfl (by decide) rfl ?_
  refine r_getf (C := RX1) (T := TX1) (N := 7) 4 23 1 K (dk_of tX0_hasLeakedWithin 2 rfl) w174 gwX1 rfl rfl (by decide) rfl ?_
  refine r_iconst 7 (-1) K (dk_of tX0_hasLeakedWithin 3 rfl) (by decide) ?_
  refine r_ic_eq 8 31 K (dk_of tX0_hasLeakedWithin 4 rfl) (by decide) hR (fun hR => ?_) (fun hR => ?_)
  · refine r_iconst 31 (0 : Int32) K (dk_of tX0_hasLeakedWithin 15 rfl) (by decide) ?_
    exact r_zret 32 K hQ (dk_of tX0_hasLeakedWithin 16 rfl) zb0 (Nat.zero_le _) (Nat.zero_le _) (lfi0 hR)
  · refine r_aload_n 11 0 K (dk_of tX0_hasLeakedWithin 5 rfl) rfl rfl ?_
    refine r_getf (C := RX0) (T := TX0) (N := 9) 12 0 4 K (dk_of tX0_hasLeakedWithin 6 rfl) w213 gwX0 rfl rfl (by decide) rfl ?_
    refine r_aload_n 15 0 K (dk_of tX0_hasLeakedWithin 7 rfl) rfl rfl ?_
    refine r_getf (C := RX0) (T := TX0) (N := 9) 16 0 3 K (dk_of tX0_hasLeakedWithin 8 rfl) w210 gwX0 rfl rfl (by decide) rfl ?_
    refine r_getf (C := RX1) (T := TX1) (N := 7) 19 23 1 K (dk_of tX0_hasLeakedWithin 9 rfl) w174 gwX1 rfl rfl (by decide) rfl ?_
    refine r_isub 22 K (dk_of tX0_hasLeakedWithin 10 rfl) ?_
    refine r_iload_n 23 1 K (dk_of tX0_hasLeakedWithin 11 rfl) rfl rfl ?_
    refine r_ic_gt 24 31 K (dk_of tX0_hasLeakedWithin 12 rfl) (by decide) hR (fun hR => ?_) (fun hR => ?_)
    · refine r_iconst 31 (0 : Int32) K (dk_of tX0_hasLeakedWithin 15 rfl) (by decide) ?_
      exact r_zret 32 K hQ (dk_of tX0_hasLeakedWithin 16 rfl) zb0 (Nat.zero_le _) (Nat.zero_le _) (lfi0 hR)
    · refine r_iconst 27 (1 : Int32) K (dk_of tX0_hasLeakedWithin 13 rfl) (by decide) ?_
      refine r_goto 28 32 K (dk_of tX0_hasLeakedWithin 14 rfl) (by decide) ?_
      exact r_zret 32 K hQ (dk_of tX0_hasLeakedWithin 16 rfl) zb1 (Nat.zero_le _) (Nat.zero_le _) (lfi0 hR)

def sp_X0_disperse (p1 : Int32) (σ : St) : Option (Int32 × St) := if p1 < 0 ∨ 24 ≤ p1.toNatClampNeg then none else (sl ((σ 4 p1.toNatClampNeg)) (fun x1 : Int32 => if p1 < 0 ∨ 24 ≤ p1.toNatClampNeg then none else (sl (stU σ 4 p1.toNatClampNeg (0 : Int32)) (fun σ2 : St => sl (stU σ2 23 5 ((σ2 23 5) + x1)) (fun σ3 : St => some (x1, σ3))))))
set_option maxHeartbeats 4000000 in
set_option maxRecDepth 100000 in
theorem ct_X0_disperse {l : Launch} (hl : l.stackTraces = false) {γ : Gd} {h : Nat → Nat} {σ : St} {r : va_W} {p1 : Int32} {x0 : Int32} {σ0 : St} (hR : some (x0, σ0) = sp_X0_disperse p1 σ) : Ct l γ yX0_disperse (Cond.code yX0_disperse cX0_disperse 3 (some .int)) ({ frames := 0, cells := 0, slots := 0, locals := 0 } : Room) [.ref (h 0), .int p1] (wB γ h σ ++ (r)) (Pr (some (.int x0)) (wB γ h σ0 ++ (r))) 0 0 := by
  refine Ct_of hl (by decide +kernel) rfl (Nat.le_of_ble_eq_true rfl) (L := [some (.ref (h 0)), some (.int p1), none]) rfl ?_
  intro X Q K hQ
  generalize ((wB γ h σ ++ (r), Q) : MX) = M at K hQ ⊢
  unfold sp_X0_disperse at hR
  refine r_aload_n 0 0 K (dk_of tX0_disperse 0 rfl) rfl rfl ?_
  refine r_getf (C := RX0) (T := TX0) (N := 9) 1 0 0 K (dk_of tX0_disperse 1 rfl) w200 gwX0 rfl rfl (by decide) rfl ?_
  refine r_getf (C := RX2) (T := TX2) (N := 8) 4 1 2 K (dk_of tX0_disperse 2 rfl) w52 gwX2 rfl rfl (by decide) rfl ?_
  refine r_iload_n 7 1 K (dk_of tX0_disperse 3 rfl) rfl rfl ?_
  refine r_ialdR 8 4 K (dk_of tX0_disperse 4 rfl) rfl hR (fun hR => ?_)
  refine r_nmI hR (fun x1 hR => ?_)
  refine r_istore_n 9 2 [some (.ref (h 0)), some (.int p1), some (.int x1)] K (dk_of tX0_disperse 5 rfl) rfl rfl rfl (by decide) ?_
  refine r_aload_n 10 0 K (dk_of tX0_disperse 6 rfl) rfl rfl ?_
  refine r_getf (C := RX0) (T := TX0) (N := 9) 11 0 0 K (dk_of tX0_disperse 7 rfl) w200 gwX0 rfl rfl (by decide) rfl ?_
  refine r_getf (C := RX2) (T := TX2) (N := 8) 14 1 2 K (dk_of tX0_disperse 8 rfl) w52 gwX2 rfl rfl (by decide) rfl ?_
  refine r_iload_n 17 1 K (dk_of tX0_disperse 9 rfl) rfl rfl ?_
  refine r_iconst 18 (0 : Int32) K (dk_of tX0_disperse 10 rfl) (by decide) ?_
  refine r_iastR 19 4 K (dk_of tX0_disperse 11 rfl) rfl sB_4 hR (fun hR => ?_)
  refine r_nmS (fun σ2 : St => wB γ h σ2 ++ (r)) hR (fun σ2 hR => ?_)
  refine r_aload_n 20 0 K (dk_of tX0_disperse 12 rfl) rfl rfl ?_
  refine r_getf (C := RX0) (T := TX0) (N := 9) 21 0 3 K (dk_of tX0_disperse 13 rfl) w210 gwX0 rfl rfl (by decide) rfl ?_
  refine r_dup 24 K (dk_of tX0_disperse 14 rfl) rfl ?_
  refine r_getf (C := RX1) (T := TX1) (N := 7) 25 23 5 K (dk_of tX0_disperse 15 rfl) w181 gwX1 rfl rfl (by decide) rfl ?_
  refine r_iload_n 28 2 K (dk_of tX0_disperse 16 rfl) rfl rfl ?_
  refine r_iadd 29 K (dk_of tX0_disperse 17 rfl) ?_
  refine r_putf (C := RX1) (T := TX1) (N := 7) 30 23 5 K (dk_of tX0_disperse 18 rfl) w181 gwX1 tyX1_ok nmX1 rfl rfl (by decide) rfl rfl rfl rfl (Nat.le_of_ble_eq_true rfl) sB_23_5 ?_
  refine r_nmS (fun σ3 : St => wB γ h σ3 ++ (r)) hR (fun σ3 hR => ?_)
  refine r_iload_n 33 2 K (dk_of tX0_disperse 19 rfl) rfl rfl ?_
  exact r_iret 34 K hQ (dk_of tX0_disperse 20 rfl) (Nat.zero_le _) (Nat.zero_le _) (lfi (fun u9 : St => wB γ h u9 ++ (r)) hR)

def sp_X0_burn (p1 : Int32) (σ : St) : Option (Int32 × St) := if p1 < 0 ∨ 24 ≤ p1.toNatClampNeg then none else (sl ((((σ 4 p1.toNatClampNeg) * (9 : Int32)) / (10 : Int32))) (fun x1 : Int32 => if p1 < 0 ∨ 24 ≤ p1.toNatClampNeg then none else (if p1 < 0 ∨ 24 ≤ p1.toNatClampNeg then none else (sl (stU σ 4 p1.toNatClampNeg ((σ 4 p1.toNatClampNeg) - x1)) (fun σ2 : St => sl (stU σ2 23 6 ((σ2 23 6) + x1)) (fun σ3 : St => some (x1, σ3)))))))
set_option maxHeartbeats 4000000 in
set_option maxRecDepth 100000 in
theorem ct_X0_burn {l : Launch} (hl : l.stackTraces = false) {γ : Gd} {h : Nat → Nat} {σ : St} {r : va_W} {p1 : Int32} {x0 : Int32} {σ0 : St} (hR : some (x0, σ0) = sp_X0_burn p1 σ) : Ct l γ yX0_burn (Cond.code yX0_burn cX0_burn 3 (some .int)) ({ frames := 0, cells := 0, slots := 0, locals := 0 } : Room) [.ref (h 0), .int p1] (wB γ h σ ++ (r)) (Pr (some (.int x0)) (wB γ h σ0 ++ (r))) 0 0 := by
  refine Ct_of hl (by decide +kernel) rfl (Nat.le_of_ble_eq_true rfl) (L := [some (.ref (h 0)), some (.int p1), none]) rfl ?_
  intro X Q K hQ
  generalize ((wB γ h σ ++ (r), Q) : MX) = M at K hQ ⊢
  unfold sp_X0_burn at hR
  refine r_aload_n 0 0 K (dk_of tX0_burn 0 rfl) rfl rfl ?_
  refine r_getf (C := RX0) (T := TX0) (N := 9) 1 0 0 K (dk_of tX0_burn 1 rfl) w200 gwX0 rfl rfl (by decide) rfl ?_
  refine r_getf (C := RX2) (T := TX2) (N := 8) 4 1 2 K (dk_of tX0_burn 2 rfl) w52 gwX2 rfl rfl (by decide) rfl ?_
  refine r_iload_n 7 1 K (dk_of tX0_burn 3 rfl) rfl rfl ?_
  refine r_ialdR 8 4 K (dk_of tX0_burn 4 rfl) rfl hR (fun hR => ?_)
  refine r_bipush 9 (9 : Int32) K (dk_of tX0_burn 5 rfl) (by decide) ?_
  refine r_imul 11 K (dk_of tX0_burn 6 rfl) ?_
  refine r_bipush 12 (10 : Int32) K (dk_of tX0_burn 7 rfl) (by decide) ?_
  refine r_idiv 14 K (dk_of tX0_burn 8 rfl) (by decide) ?_
  refine r_nmI hR (fun x1 hR => ?_)
  refine r_istore_n 15 2 [some (.ref (h 0)), some (.int p1), some (.int x1)] K (dk_of tX0_burn 9 rfl) rfl rfl rfl (by decide) ?_
  refine r_aload_n 16 0 K (dk_of tX0_burn 10 rfl) rfl rfl ?_
  refine r_getf (C := RX0) (T := TX0) (N := 9) 17 0 0 K (dk_of tX0_burn 11 rfl) w200 gwX0 rfl rfl (by decide) rfl ?_
  refine r_getf (C := RX2) (T := TX2) (N := 8) 20 1 2 K (dk_of tX0_burn 12 rfl) w52 gwX2 rfl rfl (by decide) rfl ?_
  refine r_iload_n 23 1 K (dk_of tX0_burn 13 rfl) rfl rfl ?_
  refine r_dup2 24 K (dk_of tX0_burn 14 rfl) rfl rfl ?_
  refine r_ialdR 25 4 K (dk_of tX0_burn 15 rfl) rfl hR (fun hR => ?_)
  refine r_iload_n 26 2 K (dk_of tX0_burn 16 rfl) rfl rfl ?_
  refine r_isub 27 K (dk_of tX0_burn 17 rfl) ?_
  refine r_iastR 28 4 K (dk_of tX0_burn 18 rfl) rfl sB_4 hR (fun hR => ?_)
  refine r_nmS (fun σ2 : St => wB γ h σ2 ++ (r)) hR (fun σ2 hR => ?_)
  refine r_aload_n 29 0 K (dk_of tX0_burn 19 rfl) rfl rfl ?_
  refine r_getf (C := RX0) (T := TX0) (N := 9) 30 0 3 K (dk_of tX0_burn 20 rfl) w210 gwX0 rfl rfl (by decide) rfl ?_
  refine r_dup 33 K (dk_of tX0_burn 21 rfl) rfl ?_
  refine r_getf (C := RX1) (T := TX1) (N := 7) 34 23 6 K (dk_of tX0_burn 22 rfl) w183 gwX1 rfl rfl (by decide) rfl ?_
  refine r_iload_n 37 2 K (dk_of tX0_burn 23 rfl) rfl rfl ?_
  refine r_iadd 38 K (dk_of tX0_burn 24 rfl) ?_
  refine r_putf (C := RX1) (T := TX1) (N := 7) 39 23 6 K (dk_of tX0_burn 25 rfl) w183 gwX1 tyX1_ok nmX1 rfl rfl (by decide) rfl rfl rfl rfl (Nat.le_of_ble_eq_true rfl) sB_23_6 ?_
  refine r_nmS (fun σ3 : St => wB γ h σ3 ++ (r)) hR (fun σ3 hR => ?_)
  refine r_iload_n 42 2 K (dk_of tX0_burn 26 rfl) rfl rfl ?_
  exact r_iret 43 K hQ (dk_of tX0_burn 27 rfl) (Nat.zero_le _) (Nat.zero_le _) (lfi (fun u9 : St => wB γ h u9 ++ (r)) hR)
