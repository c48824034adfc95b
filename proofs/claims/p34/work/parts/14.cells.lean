def sp_J6_bitCount_0f7a4 (p1 : Int32)  : Option (Int32) := sl ((p1 - (((p1.toUInt32 >>> ((1 : Int32).toUInt32 &&& Int32.toUInt32 31)).toInt32) &&& (1431655765 : Int32)))) (fun x1 : Int32 => sl (((x1 &&& (858993459 : Int32)) + (((x1.toUInt32 >>> ((2 : Int32).toUInt32 &&& Int32.toUInt32 31)).toInt32) &&& (858993459 : Int32)))) (fun x2 : Int32 => sl (((x2 + ((x2.toUInt32 >>> ((4 : Int32).toUInt32 &&& Int32.toUInt32 31)).toInt32)) &&& (252645135 : Int32))) (fun x3 : Int32 => sl ((x3 + ((x3.toUInt32 >>> ((8 : Int32).toUInt32 &&& Int32.toUInt32 31)).toInt32))) (fun x4 : Int32 => sl ((x4 + ((x4.toUInt32 >>> ((16 : Int32).toUInt32 &&& Int32.toUInt32 31)).toInt32))) (fun x5 : Int32 => some (x5 &&& (63 : Int32)))))))
set_option maxHeartbeats 4000000 in
set_option maxRecDepth 100000 in
theorem ct_J6_bitCount_0f7a4 {l : Launch} (hl : l.stackTraces = false) {γ : Gd}   {w : va_W} {p1 : Int32} {x0 : Int32} (hR : some x0 = sp_J6_bitCount_0f7a4 p1) : Ct l γ yJ6_bitCount_0f7a4 (Cond.code yJ6_bitCount_0f7a4 cJ6_bitCount_0f7a4 1 (some .int)) ({ frames := 0, cells := 0, slots := 0, locals := 0 } : Room) [.int p1] (w) (Pr (some (.int x0)) (w)) 0 0 := by
  refine Ct_of hl (by decide +kernel) rfl (Nat.le_of_ble_eq_true rfl) (L := [some (.int p1)]) rfl ?_
  intro X Q K hQ
  generalize ((w, Q) : MX) = M at K hQ ⊢
  unfold sp_J6_bitCount_0f7a4 at hR
  refine r_iload_n 0 0 K (dk_of tJ6_bitCount_0f7a4 0 rfl) rfl rfl ?_
  refine r_iload_n 1 0 K (dk_of tJ6_bitCount_0f7a4 1 rfl) rfl rfl ?_
  refine r_iconst 2 (1 : Int32) K (dk_of tJ6_bitCount_0f7a4 2 rfl) (by decide) ?_
  refine r_iushr 3 K (dk_of tJ6_bitCount_0f7a4 3 rfl) ?_
  refine r_ldcw 4 1431655765 K (dk_of tJ6_bitCount_0f7a4 4 rfl) w600 ?_
  refine r_iand 7 K (dk_of tJ6_bitCount_0f7a4 5 rfl) ?_
  refine r_isub 8 K (dk_of tJ6_bitCount_0f7a4 6 rfl) ?_
  refine r_nmI hR (fun x1 hR => ?_)
  refine r_istore_n 9 0 [some (.int x1)] K (dk_of tJ6_bitCount_0f7a4 7 rfl) rfl rfl rfl (by decide) ?_
  refine r_iload_n 10 0 K (dk_of tJ6_bitCount_0f7a4 8 rfl) rfl rfl ?_
  refine r_ldcw 11 858993459 K (dk_of tJ6_bitCount_0f7a4 9 rfl) w601 ?_
  refine r_iand 14 K (dk_of tJ6_bitCount_0f7a4 10 rfl) ?_
  refine r_iload_n 15 0 K (dk_of tJ6_bitCount_0f7a4 11 rfl) rfl rfl ?_
  refine r_iconst 16 (2 : Int32) K (dk_of tJ6_bitCount_0f7a4 12 rfl) (by decide) ?_
  refine r_iushr 17 K (dk_of tJ6_bitCount_0f7a4 13 rfl) ?_
  refine r_ldcw 18 858993459 K (dk_of tJ6_bitCount_0f7a4 14 rfl) w601 ?_
  refine r_iand 21 K (dk_of tJ6_bitCount_0f7a4 15 rfl) ?_
  refine r_iadd 22 K (dk_of tJ6_bitCount_0f7a4 16 rfl) ?_
  refine r_nmI hR (fun x2 hR => ?_)
  refine r_istore_n 23 0 [some (.int x2)] K (dk_of tJ6_bitCount_0f7a4 17 rfl) rfl rfl rfl (by decide) ?_
  refine r_iload_n 24 0 K (dk_of tJ6_bitCount_0f7a4 18 rfl) rfl rfl ?_
  refine r_iload_n 25 0 K (dk_of tJ6_bitCount_0f7a4 19 rfl) rfl rfl ?_
  refine r_iconst 26 (4 : Int32) K (dk_of tJ6_bitCount_0f7a4 20 rfl) (by decide) ?_
  refine r_iushr 27 K (dk_of tJ6_bitCount_0f7a4 21 rfl) ?_
  refine r_iadd 28 K (dk_of tJ6_bitCount_0f7a4 22 rfl) ?_
  refine r_ldcw 29 252645135 K (dk_of tJ6_bitCount_0f7a4 23 rfl) w602 ?_
  refine r_iand 32 K (dk_of tJ6_bitCount_0f7a4 24 rfl) ?_
  refine r_nmI hR (fun x3 hR => ?_)
  refine r_istore_n 33 0 [some (.int x3)] K (dk_of tJ6_bitCount_0f7a4 25 rfl) rfl rfl rfl (by decide) ?_
  refine r_iload_n 34 0 K (dk_of tJ6_bitCount_0f7a4 26 rfl) rfl rfl ?_
  refine r_iload_n 35 0 K (dk_of tJ6_bitCount_0f7a4 27 rfl) rfl rfl ?_
  refine r_bipush 36 (8 : Int32) K (dk_of tJ6_bitCount_0f7a4 28 rfl) (by decide) ?_
  refine r_iushr 38 K (dk_of tJ6_bitCount_0f7a4 29 rfl) ?_
  refine r_iadd 39 K (dk_of tJ6_bitCount_0f7a4 30 rfl) ?_
  refine r_nmI hR (fun x4 hR => ?_)
  refine r_istore_n 40 0 [some (.int x4)] K (dk_of tJ6_bitCount_0f7a4 31 rfl) rfl rfl rfl (by decide) ?_
  refine r_iload_n 41 0 K (dk_of tJ6_bitCount_0f7a4 32 rfl) rfl rfl ?_
  refine r_iload_n 42 0 K (dk_of tJ6_bitCount_0f7a4 33 rfl) rfl rfl ?_
  refine r_bipush 43 (16 : Int32) K (dk_of tJ6_bitCount_0f7a4 34 rfl) (by decide) ?_
  refine r_iushr 45 K (dk_of tJ6_bitCount_0f7a4 35 rfl) ?_
  refine r_iadd 46 K (dk_of tJ6_bitCount_0f7a4 36 rfl) ?_
  refine r_nmI hR (fun x5 hR => ?_)
  refine r_istore_n 47 0 [some (.int x5)] K (dk_of tJ6_bitCount_0f7a4 37 rfl) rfl rfl rfl (by decide) ?_
  refine r_iload_n 48 0 K (dk_of tJ6_bitCount_0f7a4 38 rfl) rfl rfl ?_
  refine r_bipush 49 (63 : Int32) K (dk_of tJ6_bitCount_0f7a4 39 rfl) (by decide) ?_
  refine r_iand 51 K (dk_of tJ6_bitCount_0f7a4 40 rfl) ?_
  exact r_iret 52 K hQ (dk_of tJ6_bitCount_0f7a4 41 rfl) (Nat.zero_le _) (Nat.zero_le _) (lfi0 hR)

def sp_X2_become_22  (y2 : Int32) (y3 : Int32) (y4 : Int32) (σ5 : St) : Option (St) := if y3 < 0 ∨ 24 ≤ y3.toNatClampNeg then none else (sl (stU σ5 3 y3.toNatClampNeg y4) (fun σ6 : St => if y2 < 0 ∨ 24 ≤ y2.toNatClampNeg then none else (sl (stU σ6 7 y2.toNatClampNeg (0 : Int32)) (fun σ7 : St => if y2 < 0 ∨ 24 ≤ y2.toNatClampNeg then none else (sl (stU σ7 8 y2.toNatClampNeg (0 : Int32)) (fun σ8 : St => if y2 < 0 ∨ 24 ≤ y2.toNatClampNeg then none else (sl (stU σ8 9 y2.toNatClampNeg (0 : Int32)) (fun σ9 : St => some σ9))))))))
def sp_X2_become (p1 : Int32) (p2 : Int32) (σ : St) : Option (St) := if p1 < 0 ∨ 24 ≤ p1.toNatClampNeg then none else (sl (stU σ 2 p1.toNatClampNeg p2) (fun σ1 : St => if p2 = 0 then (sp_X2_become_22 p1 p1 (20 : Int32) σ1) else (sp_X2_become_22 p1 p1 (0 : Int32) σ1)))
set_option maxHeartbeats 4000000 in
set_option maxRecDepth 100000 in
theorem ct_X2_become {l : Launch} (hl : l.stackTraces = false) {γ : Gd} {h : Nat → Nat} {σ : St} {r : va_W} {p1 : Int32} {p2 : Int32} {σ0 : St} (hR : some σ0 = sp_X2_become p1 p2 σ) : Ct l γ yX2_become (Cond.code yX2_become cX2_become 3 none) ({ frames := 0, cells := 0, slots := 0, locals := 0 } : Room) [.ref (h 1), .int p1, .int p2] (wB γ h σ ++ (r)) (Pr none (wB γ h σ0 ++ (r))) 0 0 := by
  refine Ct_of hl (by decide +kernel) rfl (Nat.le_of_ble_eq_true rfl) (L := [some (.ref (h 1)), some (.int p1), some (.int p2)]) rfl ?_
  intro X Q K hQ
  generalize ((wB γ h σ ++ (r), Q) : MX) = M at K hQ ⊢
  unfold sp_X2_become at hR
  have b22 : ∀ (y2 : Int32) (y3 : Int32) (y4 : Int32) (σ5 : St), some σ0 = sp_X2_become_22  y2 y3 y4 σ5 → V l γ X M (wB γ h σ5 ++ (r)) [some (.ref (h 1)), some (.int y2), none] 0 0 22 [.int y4, .int y3, .ref (h 3)] := by
    intro  y2 y3 y4 σ5 hR
    unfold sp_X2_become_22 at hR
    refine r_iastR 22 3 K (dk_of tX2_become 13 rfl) rfl sB_3 hR (fun hR => ?_)
    refine r_nmS (fun σ6 : St => wB γ h σ6 ++ (r)) hR (fun σ6 hR => ?_)
    refine r_aload_n 23 0 K (dk_of tX2_become 14 rfl) rfl rfl ?_
    refine r_getf (C := RX2) (T := TX2) (N := 8) 24 1 5 K (dk_of tX2_become 15 rfl) w63 gwX2 rfl rfl (by decide) rfl ?_
    refine r_iload_n 27 1 K (dk_of tX2_become 16 rfl) rfl rfl ?_
    refine r_iconst 28 (0 : Int32) K (dk_of tX2_become 17 rfl) (by decide) ?_
    refine r_iastR 29 7 K (dk_of tX2_become 18 rfl) rfl sB_7 hR (fun hR => ?_)
    refine r_nmS (fun σ7 : St => wB γ h σ7 ++ (r)) hR (fun σ7 hR => ?_)
    refine r_aload_n 30 0 K (dk_of tX2_become 19 rfl) rfl rfl ?_
    refine r_getf (C := RX2) (T := TX2) (N := 8) 31 1 6 K (dk_of tX2_become 20 rfl) w65 gwX2 rfl rfl (by decide) rfl ?_
    refine r_iload_n 34 1 K (dk_of tX2_become 21 rfl) rfl rfl ?_
    refine r_iconst 35 (0 : Int32) K (dk_of tX2_become 22 rfl) (by decide) ?_
    refine r_iastR 36 8 K (dk_of tX2_become 23 rfl) rfl sB_8 hR (fun hR => ?_)
    refine r_nmS (fun σ8 : St => wB γ h σ8 ++ (r)) hR (fun σ8 hR => ?_)
    refine r_aload_n 37 0 K (dk_of tX2_become 24 rfl) rfl rfl ?_
    refine r_getf (C := RX2) (T := TX2) (N := 8) 38 1 7 K (dk_of tX2_become 25 rfl) w67 gwX2 rfl rfl (by decide) rfl ?_
    refine r_iload_n 41 1 K (dk_of tX2_become 26 rfl) rfl rfl ?_
    refine r_iconst 42 (0 : Int32) K (dk_of tX2_become 27 rfl) (by decide) ?_
    refine r_iastR 43 9 K (dk_of tX2_become 28 rfl) rfl sB_9 hR (fun hR => ?_)
    refine r_nmS (fun σ9 : St => wB γ h σ9 ++ (r)) hR (fun σ9 hR => ?_)
    exact r_vret 44 K hQ (dk_of tX2_become 29 rfl) (Nat.zero_le _) (Nat.zero_le _) (lfv (fun u9 : St => wB γ h u9 ++ (r)) hR)
  refine r_aload_n 0 0 K (dk_of tX2_become 0 rfl) rfl rfl ?_
  refine r_getf (C := RX2) (T := TX2) (N := 8) 1 1 0 K (dk_of tX2_become 1 rfl) w44 gwX2 rfl rfl (by decide) rfl ?_
  refine r_iload_n 4 1 K (dk_of tX2_become 2 rfl) rfl rfl ?_
  refine r_iload_n 5 2 K (dk_of tX2_become 3 rfl) rfl rfl ?_
  refine r_iastR 6 2 K (dk_of tX2_become 4 rfl) rfl sB_2 hR (fun hR => ?_)
  refine r_nmS (fun σ1 : St => wB γ h σ1 ++ (r)) hR (fun σ1 hR => ?_)
  refine r_aload_n 7 0 K (dk_of tX2_become 5 rfl) rfl rfl ?_
  refine r_getf (C := RX2) (T := TX2) (N := 8) 8 1 1 K (dk_of tX2_become 6 rfl) w46 gwX2 rfl rfl (by decide) rfl ?_
  refine r_iload_n 11 1 K (dk_of tX2_become 7 rfl) rfl rfl ?_
  refine r_iload_n 12 2 K (dk_of tX2_become 8 rfl) rfl rfl ?_
  refine r_if_ne 13 21 K (dk_of tX2_become 9 rfl) (by decide) hR (fun hR => ?_) (fun hR => ?_)
  · refine r_bipush 16 (20 : Int32) K (dk_of tX2_become 10 rfl) (by decide) ?_
    refine r_goto 18 22 K (dk_of tX2_become 11 rfl) (by decide) ?_
    exact r_msk [true, true, false] [some (.ref (h 1)), some (.int p1), none] rfl (b22 p1 p1 (20 : Int32) σ1 hR)
  · refine r_iconst 21 (0 : Int32) K (dk_of tX2_become 12 rfl) (by decide) ?_
    exact r_msk [true, true, false] [some (.ref (h 1)), some (.int p1), none] rfl (b22 p1 p1 (0 : Int32) σ1 hR)

def sp_X2_beside (p1 : Int32) (p2 : Int32)  : Option (Int32) := sl ((p1 / (6 : Int32))) (fun x1 : Int32 => sl ((p1 - p1 / (6 : Int32) * (6 : Int32))) (fun x2 : Int32 => if p2 = 0 then (if (5 : Int32) ≤ x2 then (some (-1 : Int32)) else (some (p1 + (1 : Int32)))) else (if p2 = 1 then (if x2 ≤ 0 then (some (-1 : Int32)) else (some (p1 - (1 : Int32)))) else (if p2 = 2 then (if (3 : Int32) ≤ x1 then (some (-1 : Int32)) else (some (p1 + (6 : Int32)))) else (if x1 ≤ 0 then (some (-1 : Int32)) else (some (p1 - (6 : Int32))))))))
set_option maxHeartbeats 4000000 in
set_option maxRecDepth 100000 in
theorem ct_X2_beside {l : Launch} (hl : l.stackTraces = false) {γ : Gd}   {w : va_W} {p1 : Int32} {p2 : Int32} {x0 : Int32} (hR : some x0 = sp_X2_beside p1 p2) : Ct l γ yX2_beside (Cond.code yX2_beside cX2_beside 4 (some .int)) ({ frames := 0, cells := 0, slots := 0, locals := 0 } : Room) [.int p1, .int p2] (w) (Pr (some (.int x0)) (w)) 0 0 := by
  refine Ct_of hl (by decide +kernel) rfl (Nat.le_of_ble_eq_true rfl) (L := [some (.int p1), some (.int p2), none, none]) rfl ?_
  intro X Q K hQ
  generalize ((w, Q) : MX) = M at K hQ ⊢
  unfold sp_X2_beside at hR
  refine r_iload_n 0 0 K (dk_of tX2_beside 0 rfl) rfl rfl ?_
  refine r_bipush 1 (6 : Int32) K (dk_of tX2_beside 1 rfl) (by decide) ?_
  refine r_idiv 3 K (dk_of tX2_beside 2 rfl) (by decide) ?_
  refine r_nmI hR (fun x1 hR => ?_)
  refine r_istore_n 4 2 [some (.int p1), some (.int p2), some (.int x1), none] K (dk_of tX2_beside 3 rfl) rfl rfl rfl (by decide) ?_
  refine r_iload_n 5 0 K (dk_of tX2_beside 4 rfl) rfl rfl ?_
  refine r_bipush 6 (6 : Int32) K (dk_of tX2_beside 5 rfl) (by decide) ?_
  refine r_irem 8 K (dk_of tX2_beside 6 rfl) (by decide) ?_
  refine r_nmI hR (fun x2 hR => ?_)
  refine r_istore_n 9 3 [some (.int p1), some (.int p2), some (.int x1), some (.int x2)] K (dk_of tX2_beside 7 rfl) rfl rfl rfl (by decide) ?_
  refine r_iload_n 10 1 K (dk_of tX2_beside 8 rfl) rfl rfl ?_
  refine r_case hR (fun c11_0 hR => ?_) (fun c11_0 hR => ?_)
  · refine r_tswIn 11 36 K (v := 0) c11_0 (dk_of tX2_beside 9 rfl) (by decide) (by decide) rfl (by decide) ?_
    refine r_iload_n 36 3 K (dk_of tX2_beside 10 rfl) rfl rfl ?_
    refine r_iconst 37 (5 : Int32) K (dk_of tX2_beside 11 rfl) (by decide) ?_
    refine r_ic_ge 38 47 K (dk_of tX2_beside 12 rfl) (by decide) hR (fun hR => ?_) (fun hR => ?_)
    · refine r_iconst 47 (-1) K (dk_of tX2_beside 17 rfl) (by decide) ?_
      exact r_iret 48 K hQ (dk_of tX2_beside 18 rfl) (Nat.zero_le _) (Nat.zero_le _) (lfi0 hR)
    · refine r_iload_n 41 0 K (dk_of tX2_beside 13 rfl) rfl rfl ?_
      refine r_iconst 42 (1 : Int32) K (dk_of tX2_beside 14 rfl) (by decide) ?_
      refine r_iadd 43 K (dk_of tX2_beside 15 rfl) ?_
      refine r_goto 44 48 K (dk_of tX2_beside 16 rfl) (by decide) ?_
      exact r_iret 48 K hQ (dk_of tX2_beside 18 rfl) (Nat.zero_le _) (Nat.zero_le _) (lfi0 hR)
  · refine r_case hR (fun c11_1 hR => ?_) (fun c11_1 hR => ?_)
    · refine r_tswIn 11 49 K (v := 1) c11_1 (dk_of tX2_beside 9 rfl) (by decide) (by decide) rfl (by decide) ?_
      refine r_iload_n 49 3 K (dk_of tX2_beside 19 rfl) rfl rfl ?_
      refine r_if_le 50 59 K (dk_of tX2_beside 20 rfl) (by decide) hR (fun hR => ?_) (fun hR => ?_)
      · refine r_iconst 59 (-1) K (dk_of tX2_beside 25 rfl) (by decide) ?_
        exact r_iret 60 K hQ (dk_of tX2_beside 26 rfl) (Nat.zero_le _) (Nat.zero_le _) (lfi0 hR)
      · refine r_iload_n 53 0 K (dk_of tX2_beside 21 rfl) rfl rfl ?_
        refine r_iconst 54 (1 : Int32) K (dk_of tX2_beside 22 rfl) (by decide) ?_
        refine r_isub 55 K (dk_of tX2_beside 23 rfl) ?_
        refine r_goto 56 60 K (dk_of tX2_beside 24 rfl) (by decide) ?_
        exact r_iret 60 K hQ (dk_of tX2_beside 26 rfl) (Nat.zero_le _) (Nat.zero_le _) (lfi0 hR)
    · refine r_case hR (fun c11_2 hR => ?_) (fun c11_2 hR => ?_)
      · refine r_tswIn 11 61 K (v := 2) c11_2 (dk_of tX2_beside 9 rfl) (by decide) (by decide) rfl (by decide) ?_
        refine r_iload_n 61 2 K (dk_of tX2_beside 27 rfl) rfl rfl ?_
        refine r_iconst 62 (3 : Int32) K (dk_of tX2_beside 28 rfl) (by decide) ?_
        refine r_ic_ge 63 73 K (dk_of tX2_beside 29 rfl) (by decide) hR (fun hR => ?_) (fun hR => ?_)
        · refine r_iconst 73 (-1) K (dk_of tX2_beside 34 rfl) (by decide) ?_
          exact r_iret 74 K hQ (dk_of tX2_beside 35 rfl) (Nat.zero_le _) (Nat.zero_le _) (lfi0 hR)
        · refine r_iload_n 66 0 K (dk_of tX2_beside 30 rfl) rfl rfl ?_
          refine r_bipush 67 (6 : Int32) K (dk_of tX2_beside 31 rfl) (by decide) ?_
          refine r_iadd 69 K (dk_of tX2_beside 32 rfl) ?_
          refine r_goto 70 74 K (dk_of tX2_beside 33 rfl) (by decide) ?_
          exact r_iret 74 K hQ (dk_of tX2_beside 35 rfl) (Nat.zero_le _) (Nat.zero_le _) (lfi0 hR)
      · refine r_tswOut 11 75 K (dk_of tX2_beside 9 rfl) (by have e0 := i32_ne (0) c11_0 (by decide); have e1 := i32_ne (1) c11_1 (by decide); have e2 := i32_ne (2) c11_2 (by decide); omega) (by decide) ?_
        refine r_iload_n 75 2 K (dk_of tX2_beside 36 rfl) rfl rfl ?_
        refine r_if_le 76 86 K (dk_of tX2_beside 37 rfl) (by decide) hR (fun hR => ?_) (fun hR => ?_)
        · refine r_iconst 86 (-1) K (dk_of tX2_beside 42 rfl) (by decide) ?_
          exact r_iret 87 K hQ (dk_of tX2_beside 43 rfl) (Nat.zero_le _) (Nat.zero_le _) (lfi0 hR)
        · refine r_iload_n 79 0 K (dk_of tX2_beside 38 rfl) rfl rfl ?_
          refine r_bipush 80 (6 : Int32) K (dk_of tX2_beside 39 rfl) (by decide) ?_
          refine r_isub 82 K (dk_of tX2_beside 40 rfl) ?_
          refine r_goto 83 87 K (dk_of tX2_beside 41 rfl) (by decide) ?_
          exact r_iret 87 K hQ (dk_of tX2_beside 43 rfl) (Nat.zero_le _) (Nat.zero_le _) (lfi0 hR)

def sp_X2_isWater (p1 : Int32) (σ : St) : Option (Int32) := if p1 < 0 ∨ 24 ≤ p1.toNatClampNeg then none else (if (σ 2 p1.toNatClampNeg) = 0 then (some (1 : Int32)) else (some (0 : Int32)))
set_option maxHeartbeats 4000000 in
set_option maxRecDepth 100000 in
theorem ct_X2_isWater {l : Launch} (hl : l.stackTraces = false) {γ : Gd} {h : Nat → Nat} {σ : St} {r : va_W} {p1 : Int32} {x0 : Int32} (hR : some x0 = sp_X2_isWater p1 σ) : Ct l γ yX2_isWater (Cond.code yX2_isWater cX2_isWater 2 (some .boolean)) ({ frames := 0, cells := 0, slots := 0, locals := 0 } : Room) [.ref (h 1), .int p1] (wB γ h σ ++ (r)) (Pr (some (.int x0)) (wB γ h σ ++ (r))) 0 0 := by
  refine Ct_of hl (by decide +kernel) rfl (Nat.le_of_ble_eq_true rfl) (L := [some (.ref (h 1)), some (.int p1)]) rfl ?_
  intro X Q K hQ
  generalize ((wB γ h σ ++ (r), Q) : MX) = M at K hQ ⊢
  unfold sp_X2_isWater at hR
  refine r_aload_n 0 0 K (dk_of tX2_isWater 0 rfl) rfl rfl ?_
  refine r_getf (C := RX2) (T := TX2) (N := 8) 1 1 0 K (dk_of tX2_isWater 1 rfl) w44 gwX2 rfl rfl (by decide) rfl ?_
  refine r_iload_n 4 1 K (dk_of tX2_isWater 2 rfl) rfl rfl ?_
  refine r_ialdR 5 2 K (dk_of tX2_isWater 3 rfl) rfl hR (fun hR => ?_)
  refine r_if_ne 6 13 K (dk_of tX2_isWater 4 rfl) (by decide) hR (fun hR => ?_) (fun hR => ?_)
  · refine r_iconst 9 (1 : Int32) K (dk_of tX2_isWater 5 rfl) (by decide) ?_
    refine r_goto 10 14 K (dk_of tX2_isWater 6 rfl) (by decide) ?_
    exact r_zret 14 K hQ (dk_of tX2_isWater 8 rfl) zb1 (Nat.zero_le _) (Nat.zero_le _) (lfi0 hR)
  · refine r_iconst 13 (0 : Int32) K (dk_of tX2_isWater 7 rfl) (by decide) ?_
    exact r_zret 14 K hQ (dk_of tX2_isWater 8 rfl) zb0 (Nat.zero_le _) (Nat.zero_le _) (lfi0 hR)

def sp_X2_roomOf (p1 : Int32) (σ : St) : Option (Int32) := if p1 < 0 ∨ 24 ≤ p1.toNatClampNeg then none else (if (σ 2 p1.toNatClampNeg) < 0 ∨ 4 ≤ (σ 2 p1.toNatClampNeg).toNatClampNeg then none else (if p1 < 0 ∨ 24 ≤ p1.toNatClampNeg then none else (some ((tabH (σ 2 p1.toNatClampNeg)) - (σ 6 p1.toNatClampNeg)))))
set_option maxHeartbeats 4000000 in
set_option maxRecDepth 100000 in
theorem ct_X2_roomOf {l : Launch} (hl : l.stackTraces = false) {γ : Gd} {h : Nat → Nat} {σ : St} {r : va_W} {p1 : Int32} {x0 : Int32} (hR : some x0 = sp_X2_roomOf p1 σ) : Ct l γ yX2_roomOf (Cond.code yX2_roomOf cX2_roomOf 2 (some .int)) ({ frames := 0, cells := 0, slots := 0, locals := 0 } : Room) [.ref (h 1), .int p1] (wB γ h σ ++ (r)) (Pr (some (.int x0)) (wB γ h σ ++ (r))) 0 0 := by
  refine Ct_of hl (by decide +kernel) rfl (Nat.le_of_ble_eq_true rfl) (L := [some (.ref (h 1)), some (.int p1)]) rfl ?_
  intro X Q K hQ
  generalize ((wB γ h σ ++ (r), Q) : MX) = M at K hQ ⊢
  unfold sp_X2_roomOf at hR
  refine r_gets0 0 K (dk_of tX2_roomOf 0 rfl) ?_
  refine r_aload_n 3 0 K (dk_of tX2_roomOf 1 rfl) rfl rfl ?_
  refine r_getf (C := RX2) (T := TX2) (N := 8) 4 1 0 K (dk_of tX2_roomOf 2 rfl) w44 gwX2 rfl rfl (by decide) rfl ?_
  refine r_iload_n 7 1 K (dk_of tX2_roomOf 3 rfl) rfl rfl ?_
  refine r_ialdR 8 2 K (dk_of tX2_roomOf 4 rfl) rfl hR (fun hR => ?_)
  refine r_tab0R 9 K (dk_of tX2_roomOf 5 rfl) hR (fun hR => ?_)
  refine r_aload_n 10 0 K (dk_of tX2_roomOf 6 rfl) rfl rfl ?_
  refine r_getf (C := RX2) (T := TX2) (N := 8) 11 1 4 K (dk_of tX2_roomOf 7 rfl) w59 gwX2 rfl rfl (by decide) rfl ?_
  refine r_iload_n 14 1 K (dk_of tX2_roomOf 8 rfl) rfl rfl ?_
  refine r_ialdR 15 6 K (dk_of tX2_roomOf 9 rfl) rfl hR (fun hR => ?_)
  refine r_isub 16 K (dk_of tX2_roomOf 10 rfl) ?_
  exact r_iret 17 K hQ (dk_of tX2_roomOf 11 rfl) (Nat.zero_le _) (Nat.zero_le _) (lfi0 hR)

def sp_X2_opposite (p1 : Int32)  : Option (Int32) := if p1 = 0 then (some (1 : Int32)) else (if p1 = 1 then (some (0 : Int32)) else (if p1 = 2 then (some (3 : Int32)) else (some (2 : Int32))))
set_option maxHeartbeats 4000000 in
set_option maxRecDepth 100000 in
theorem ct_X2_opposite {l : Launch} (hl : l.stackTraces = false) {γ : Gd}   {w : va_W} {p1 : Int32} {x0 : Int32} (hR : some x0 = sp_X2_opposite p1) : Ct l γ yX2_opposite (Cond.code yX2_opposite cX2_opposite 1 (some .int)) ({ frames := 0, cells := 0, slots := 0, locals := 0 } : Room) [.int p1] (w) (Pr (some (.int x0)) (w)) 0 0 := by
  refine Ct_of hl (by decide +kernel) rfl (Nat.le_of_ble_eq_true rfl) (L := [some (.int p1)]) rfl ?_
  intro X Q K hQ
  generalize ((w, Q) : MX) = M at K hQ ⊢
  unfold sp_X2_opposite at hR
  refine r_iload_n 0 0 K (dk_of tX2_opposite 0 rfl) rfl rfl ?_
  refine r_case hR (fun c1_0 hR => ?_) (fun c1_0 hR => ?_)
  · refine r_tswIn 1 28 K (v := 0) c1_0 (dk_of tX2_opposite 1 rfl) (by decide) (by decide) rfl (by decide) ?_
    refine r_iconst 28 (1 : Int32) K (dk_of tX2_opposite 2 rfl) (by decide) ?_
    exact r_iret 29 K hQ (dk_of tX2_opposite 3 rfl) (Nat.zero_le _) (Nat.zero_le _) (lfi0 hR)
  · refine r_case hR (fun c1_1 hR => ?_) (fun c1_1 hR => ?_)
    · refine r_tswIn 1 30 K (v := 1) c1_1 (dk_of tX2_opposite 1 rfl) (by decide) (by decide) rfl (by decide) ?_
      refine r_iconst 30 (0 : Int32) K (dk_of tX2_opposite 4 rfl) (by decide) ?_
      exact r_iret 31 K hQ (dk_of tX2_opposite 5 rfl) (Nat.zero_le _) (Nat.zero_le _) (lfi0 hR)
    · refine r_case hR (fun c1_2 hR => ?_) (fun c1_2 hR => ?_)
      · refine r_tswIn 1 32 K (v := 2) c1_2 (dk_of tX2_opposite 1 rfl) (by decide) (by decide) rfl (by decide) ?_
        refine r_iconst 32 (3 : Int32) K (dk_of tX2_opposite 6 rfl) (by decide) ?_
        exact r_iret 33 K hQ (dk_of tX2_opposite 7 rfl) (Nat.zero_le _) (Nat.zero_le _) (lfi0 hR)
      · refine r_tswOut 1 34 K (dk_of tX2_opposite 1 rfl) (by have e0 := i32_ne (0) c1_0 (by decide); have e1 := i32_ne (1) c1_1 (by decide); have e2 := i32_ne (2) c1_2 (by decide); omega) (by decide) ?_
        refine r_iconst 34 (2 : Int32) K (dk_of tX2_opposite 8 rfl) (by decide) ?_
        exact r_iret 35 K hQ (dk_of tX2_opposite 9 rfl) (Nat.zero_le _) (Nat.zero_le _) (lfi0 hR)

def sp_X2_lowestWaterBeside_4 (σ : St) (y1 : Int32) : Nat → Int32 → Int32 → Option (Int32)
  | 0, _, _ => none
  | n + 1, y2, y3 => if (3 : Int32) < y3 then (some y2) else (b1 (sp_X2_beside y1 y3) (fun (x4 : Int32) => if x4 = (-1 : Int32) then (sp_X2_lowestWaterBeside_4 σ y1 n y2 (y3 + 1)) else (b1 (sp_X2_isWater x4 σ) (fun (x5 : Int32) => if x5 = 0 then (sp_X2_lowestWaterBeside_4 σ y1 n y2 (y3 + 1)) else (if y2 = (-1 : Int32) then (sp_X2_lowestWaterBeside_4 σ y1 n x4 (y3 + 1)) else (if y2 ≤ x4 then (sp_X2_lowestWaterBeside_4 σ y1 n y2 (y3 + 1)) else (sp_X2_lowestWaterBeside_4 σ y1 n x4 (y3 + 1))))))))
def sp_X2_lowestWaterBeside (p1 : Int32) (σ : St) : Option (Int32) := sp_X2_lowestWaterBeside_4 σ p1 200 (-1 : Int32) (0 : Int32)
set_option maxHeartbeats 4000000 in
set_option maxRecDepth 100000 in
theorem ct_X2_lowestWaterBeside {l : Launch} (hl : l.stackTraces = false) {γ : Gd} {h : Nat → Nat} {σ : St} {r : va_W} {p1 : Int32} {x0 : Int32} (hR : some x0 = sp_X2_lowestWaterBeside p1 σ) : Ct l γ yX2_lowestWaterBeside (Cond.code yX2_lowestWaterBeside cX2_lowestWaterBeside 5 (some .int)) ({ frames := 1, cells := 0, slots := 0, locals := 23 } : Room) [.ref (h 1), .int p1] (wB γ h σ ++ (r)) (Pr (some (.int x0)) (wB γ h σ ++ (r))) 0 0 := by
  refine Ct_of hl (by decide +kernel) rfl (Nat.le_of_ble_eq_true rfl) (L := [some (.ref (h 1)), some (.int p1), none, none, none]) rfl ?_
  intro X Q K hQ
  generalize ((wB γ h σ ++ (r), Q) : MX) = M at K hQ ⊢
  unfold sp_X2_lowestWaterBeside at hR
  have b4 : ∀ (y1 : Int32) (n : Nat) (y2 : Int32) (y3 : Int32), some x0 = sp_X2_lowestWaterBeside_4 σ y1 n y2 y3 → V l γ X M (wB γ h σ ++ (r)) [some (.ref (h 1)), some (.int y1), some (.int y2), some (.int y3), none] 0 0 4 [] := by
    intro y1 n
    induction n with
    | zero => intro y2 y3 hR; exact nn_ hR
    | succ n ih4 =>
      intro y2 y3 hR
      rw [sp_X2_lowestWaterBeside_4] at hR
      refine r_iload_n 4 3 K (dk_of tX2_lowestWaterBeside 4 rfl) rfl rfl ?_
      refine r_iconst 5 (3 : Int32) K (dk_of tX2_lowestWaterBeside 5 rfl) (by decide) ?_
      refine r_ic_gt 6 51 K (dk_of tX2_lowestWaterBeside 6 rfl) (by decide) hR (fun hR => ?_) (fun hR => ?_)
      · refine r_iload_n 51 2 K (dk_of tX2_lowestWaterBeside 28 rfl) rfl rfl ?_
        exact r_iret 52 K hQ (dk_of tX2_lowestWaterBeside 29 rfl) (Nat.zero_le _) (Nat.zero_le _) (lfi0 hR)
      · refine r_iload_n 9 1 K (dk_of tX2_lowestWaterBeside 7 rfl) rfl rfl ?_
        refine r_iload_n 10 3 K (dk_of tX2_lowestWaterBeside 8 rfl) rfl rfl ?_
        obtain ⟨x4, hc, hR⟩ := o1 hR
        refine r_cSi 11 [.int y1, .int y3] [] x4 (wB γ h σ ++ (r)) K (ct_X2_beside hl hc.symm) cs_X2_42 ⟨rfl, rfl, rfl⟩ (dk_of tX2_lowestWaterBeside 9 rfl) rfl rfl rfl rfl ?_
        refine r_istore 14 4 [some (.ref (h 1)), some (.int y1), some (.int y2), some (.int y3), some (.int x4)] K (dk_of tX2_lowestWaterBeside 10 rfl) rfl rfl (by decide) ?_
        refine r_iload 16 4 K (dk_of tX2_lowestWaterBeside 11 rfl) rfl ?_
        refine r_iconst 18 (-1) K (dk_of tX2_lowestWaterBeside 12 rfl) (by decide) ?_
        refine r_ic_eq 19 45 K (dk_of tX2_lowestWaterBeside 13 rfl) (by decide) hR (fun hR => ?_) (fun hR => ?_)
        · refine r_iinc 45 3 (y3 + 1) [some (.ref (h 1)), some (.int y1), some (.int y2), some (.int (y3 + 1)), some (.int x4)] K (dk_of tX2_lowestWaterBeside 26 rfl) rfl rfl rfl rfl (by decide) ?_
          refine r_goto 48 4 K (dk_of tX2_lowestWaterBeside 27 rfl) (by decide) ?_
          exact r_msk [true, true, true, true, false] [some (.ref (h 1)), some (.int y1), some (.int y2), some (.int (y3 + 1)), none] rfl (ih4 y2 (y3 + 1) hR)
        · refine r_aload_n 22 0 K (dk_of tX2_lowestWaterBeside 14 rfl) rfl rfl ?_
          refine r_iload 23 4 K (dk_of tX2_lowestWaterBeside 15 rfl) rfl ?_
          obtain ⟨x5, hc, hR⟩ := o1 hR
          refine r_cVi 25 1 [.int x4] [] x5 (wB γ h σ ++ (r)) K (ct_X2_isWater hl hc.symm) cs_X2_46 ⟨rfl, rfl, rfl⟩ (dk_of tX2_lowestWaterBeside 16 rfl) rfl rfl rfl rfl rfl rfl ?_
          refine r_if_eq 28 45 K (dk_of tX2_lowestWaterBeside 17 rfl) (by decide) hR (fun hR => ?_) (fun hR => ?_)
          · refine r_iinc 45 3 (y3 + 1) [some (.ref (h 1)), some (.int y1), some (.int y2), some (.int (y3 + 1)), some (.int x4)] K (dk_of tX2_lowestWaterBeside 26 rfl) rfl rfl rfl rfl (by decide) ?_
            refine r_goto 48 4 K (dk_of tX2_lowestWaterBeside 27 rfl) (by decide) ?_
            exact r_msk [true, true, true, true, false] [some (.ref (h 1)), some (.int y1), some (.int y2), some (.int (y3 + 1)), none] rfl (ih4 y2 (y3 + 1) hR)
          · refine r_iload_n 31 2 K (dk_of tX2_lowestWaterBeside 18 rfl) rfl rfl ?_
            refine r_iconst 32 (-1) K (dk_of tX2_lowestWaterBeside 19 rfl) (by decide) ?_
            refine r_ic_eq 33 42 K (dk_of tX2_lowestWaterBeside 20 rfl) (by decide) hR (fun hR => ?_) (fun hR => ?_)
            · refine r_iload 42 4 K (dk_of tX2_lowestWaterBeside 24 rfl) rfl ?_
              refine r_istore_n 44 2 [some (.ref (h 1)), some (.int y1), some (.int x4), some (.int y3), some (.int x4)] K (dk_of tX2_lowestWaterBeside 25 rfl) rfl rfl rfl (by decide) ?_
              refine r_iinc 45 3 (y3 + 1) [some (.ref (h 1)), some (.int y1), some (.int x4), some (.int (y3 + 1)), some (.int x4)] K (dk_of tX2_lowestWaterBeside 26 rfl) rfl rfl rfl rfl (by decide) ?_
              refine r_goto 48 4 K (dk_of tX2_lowestWaterBeside 27 rfl) (by decide) ?_
              exact r_msk [true, true, true, true, false] [some (.ref (h 1)), some (.int y1), some (.int x4), some (.int (y3 + 1)), none] rfl (ih4 x4 (y3 + 1) hR)
            · refine r_iload 36 4 K (dk_of tX2_lowestWaterBeside 21 rfl) rfl ?_
              refine r_iload_n 38 2 K (dk_of tX2_lowestWaterBeside 22 rfl) rfl rfl ?_
              refine r_ic_ge 39 45 K (dk_of tX2_lowestWaterBeside 23 rfl) (by decide) hR (fun hR => ?_) (fun hR => ?_)
              · refine r_iinc 45 3 (y3 + 1) [some (.ref (h 1)), some (.int y1), some (.int y2), some (.int (y3 + 1)), some (.int x4)] K (dk_of tX2_lowestWaterBeside 26 rfl) rfl rfl rfl rfl (by decide) ?_
                refine r_goto 48 4 K (dk_of tX2_lowestWaterBeside 27 rfl) (by decide) ?_
                exact r_msk [true, true, true, true, false] [some (.ref (h 1)), some (.int y1), some (.int y2), some (.int (y3 + 1)), none] rfl (ih4 y2 (y3 + 1) hR)
              · refine r_iload 42 4 K (dk_of tX2_lowestWaterBeside 24 rfl) rfl ?_
                refine r_istore_n 44 2 [some (.ref (h 1)), some (.int y1), some (.int x4), some (.int y3), some (.int x4)] K (dk_of tX2_lowestWaterBeside 25 rfl) rfl rfl rfl (by decide) ?_
                refine r_iinc 45 3 (y3 + 1) [some (.ref (h 1)), some (.int y1), some (.int x4), some (.int (y3 + 1)), some (.int x4)] K (dk_of tX2_lowestWaterBeside 26 rfl) rfl rfl rfl rfl (by decide) ?_
                refine r_goto 48 4 K (dk_of tX2_lowestWaterBeside 27 rfl) (by decide) ?_
                exact r_msk [true, true, true, true, false] [some (.ref (h 1)), some (.int y1), some (.int x4), some (.int (y3 + 1)), none] rfl (ih4 x4 (y3 + 1) hR)
  refine r_iconst 0 (-1) K (dk_of tX2_lowestWaterBeside 0 rfl) (by decide) ?_
  refine r_istore_n 1 2 [some (.ref (h 1)), some (.int p1), some (.int (-1 : Int32)), none, none] K (dk_of tX2_lowestWaterBeside 1 rfl) rfl rfl rfl (by decide) ?_
  refine r_iconst 2 (0 : Int32) K (dk_of tX2_lowestWaterBeside 2 rfl) (by decide) ?_
  refine r_istore_n 3 3 [some (.ref (h 1)), some (.int p1), some (.int (-1 : Int32)), some (.int (0 : Int32)), none] K (dk_of tX2_lowestWaterBeside 3 rfl) rfl rfl rfl (by decide) ?_
  exact b4 p1 200 (-1 : Int32) (0 : Int32) hR

def sp_X2_backOf (p1 : Int32) (p2 : Int32) (σ : St) : Option (Int32) := if p1 < 0 ∨ 24 ≤ p1.toNatClampNeg then none else (if (σ 2 p1.toNatClampNeg) < 0 ∨ 4 ≤ (σ 2 p1.toNatClampNeg).toNatClampNeg then none else (sl ((tabB (σ 2 p1.toNatClampNeg))) (fun x1 : Int32 => if x1 = 0 then (some (0 : Int32)) else (if x1 = 0 then none else (some (p2 / x1))))))
set_option maxHeartbeats 4000000 in
set_option maxRecDepth 100000 in
theorem ct_X2_backOf {l : Launch} (hl : l.stackTraces = false) {γ : Gd} {h : Nat → Nat} {σ : St} {r : va_W} {p1 : Int32} {p2 : Int32} {x0 : Int32} (hR : some x0 = sp_X2_backOf p1 p2 σ) : Ct l γ yX2_backOf (Cond.code yX2_backOf cX2_backOf 4 (some .int)) ({ frames := 0, cells := 0, slots := 0, locals := 0 } : Room) [.ref (h 1), .int p1, .int p2] (wB γ h σ ++ (r)) (Pr (some (.int x0)) (wB γ h σ ++ (r))) 0 0 := by
  refine Ct_of hl (by decide +kernel) rfl (Nat.le_of_ble_eq_true rfl) (L := [some (.ref (h 1)), some (.int p1), some (.int p2), none]) rfl ?_
  intro X Q K hQ
  generalize ((wB γ h σ ++ (r), Q) : MX) = M at K hQ ⊢
  unfold sp_X2_backOf at hR
  refine r_gets1 0 K (dk_of tX2_backOf 0 rfl) ?_
  refine r_aload_n 3 0 K (dk_of tX2_backOf 1 rfl) rfl rfl ?_
  refine r_getf (C := RX2) (T := TX2) (N := 8) 4 1 0 K (dk_of tX2_backOf 2 rfl) w44 gwX2 rfl rfl (by decide) rfl ?_
  refine r_iload_n 7 1 K (dk_of tX2_backOf 3 rfl) rfl rfl ?_
  refine r_ialdR 8 2 K (dk_of tX2_backOf 4 rfl) rfl hR (fun hR => ?_)
  refine r_tab1R 9 K (dk_of tX2_backOf 5 rfl) hR (fun hR => ?_)
  refine r_nmI hR (fun x1 hR => ?_)
  refine r_istore_n 10 3 [some (.ref (h 1)), some (.int p1), some (.int p2), some (.int x1)] K (dk_of tX2_backOf 6 rfl) rfl rfl rfl (by decide) ?_
  refine r_iload_n 11 3 K (dk_of tX2_backOf 7 rfl) rfl rfl ?_
  refine r_if_ne 12 19 K (dk_of tX2_backOf 8 rfl) (by decide) hR (fun hR => ?_) (fun hR => ?_)
  · refine r_iconst 15 (0 : Int32) K (dk_of tX2_backOf 9 rfl) (by decide) ?_
    refine r_goto 16 22 K (dk_of tX2_backOf 10 rfl) (by decide) ?_
    exact r_iret 22 K hQ (dk_of tX2_backOf 14 rfl) (Nat.zero_le _) (Nat.zero_le _) (lfi0 hR)
  · refine r_iload_n 19 2 K (dk_of tX2_backOf 11 rfl) rfl rfl ?_
    refine r_iload_n 20 3 K (dk_of tX2_backOf 12 rfl) rfl rfl ?_
    refine r_idivR 21 K (dk_of tX2_backOf 13 rfl) hR (fun hR => ?_)
    exact r_iret 22 K hQ (dk_of tX2_backOf 14 rfl) (Nat.zero_le _) (Nat.zero_le _) (lfi0 hR)

def sp_X2_oilBirds (p1 : Int32) (σ : St) : Option (St) := if p1 < 0 ∨ 24 ≤ p1.toNatClampNeg then none else (if p1 < 0 ∨ 24 ≤ p1.toNatClampNeg then none else (if p1 < 0 ∨ 24 ≤ p1.toNatClampNeg then none else (sl ((iMin ((σ 6 p1.toNatClampNeg) / (100 : Int32)) ((σ 7 p1.toNatClampNeg) - (σ 8 p1.toNatClampNeg)))) (fun x1 : Int32 => if p1 < 0 ∨ 24 ≤ p1.toNatClampNeg then none else (if p1 < 0 ∨ 24 ≤ p1.toNatClampNeg then none else (sl (stU σ 8 p1.toNatClampNeg ((σ 8 p1.toNatClampNeg) + x1)) (fun σ2 : St => some σ2)))))))
set_option maxHeartbeats 4000000 in
set_option maxRecDepth 100000 in
theorem ct_X2_oilBirds {l : Launch} (hl : l.stackTraces = false) {γ : Gd} {h : Nat → Nat} {σ : St} {r : va_W} {p1 : Int32} {σ0 : St} (hR : some σ0 = sp_X2_oilBirds p1 σ) : Ct l γ yX2_oilBirds (Cond.code yX2_oilBirds cX2_oilBirds 3 none) ({ frames := 1, cells := 0, slots := 0, locals := 15 } : Room) [.ref (h 1), .int p1] (wB γ h σ ++ (r)) (Pr none (wB γ h σ0 ++ (r))) 0 0 := by
  refine Ct_of hl (by decide +kernel) rfl (Nat.le_of_ble_eq_true rfl) (L := [some (.ref (h 1)), some (.int p1), none]) rfl ?_
  intro X Q K hQ
  generalize ((wB γ h σ ++ (r), Q) : MX) = M at K hQ ⊢
  unfold sp_X2_oilBirds at hR
  refine r_aload_n 0 0 K (dk_of tX2_oilBirds 0 rfl) rfl rfl ?_
  refine r_getf (C := RX2) (T := TX2) (N := 8) 1 1 4 K (dk_of tX2_oilBirds 1 rfl) w59 gwX2 rfl rfl (by decide) rfl ?_
  refine r_iload_n 4 1 K (dk_of tX2_oilBirds 2 rfl) rfl rfl ?_
  refine r_ialdR 5 6 K (dk_of tX2_oilBirds 3 rfl) rfl hR (fun hR => ?_)
  refine r_bipush 6 (100 : Int32) K (dk_of tX2_oilBirds 4 rfl) (by decide) ?_
  refine r_idiv 8 K (dk_of tX2_oilBirds 5 rfl) (by decide) ?_
  refine r_aload_n 9 0 K (dk_of tX2_oilBirds 6 rfl) rfl rfl ?_
  refine r_getf (C := RX2) (T := TX2) (N := 8) 10 1 5 K (dk_of tX2_oilBirds 7 rfl) w63 gwX2 rfl rfl (by decide) rfl ?_
  refine r_iload_n 13 1 K (dk_of tX2_oilBirds 8 rfl) rfl rfl ?_
  refine r_ialdR 14 7 K (dk_of tX2_oilBirds 9 rfl) rfl hR (fun hR => ?_)
  refine r_aload_n 15 0 K (dk_of tX2_oilBirds 10 rfl) rfl rfl ?_
  refine r_getf (C := RX2) (T := TX2) (N := 8) 16 1 6 K (dk_of tX2_oilBirds 11 rfl) w65 gwX2 rfl rfl (by decide) rfl ?_
  refine r_iload_n 19 1 K (dk_of tX2_oilBirds 12 rfl) rfl rfl ?_
  refine r_ialdR 20 8 K (dk_of tX2_oilBirds 13 rfl) rfl hR (fun hR => ?_)
  refine r_isub 21 K (dk_of tX2_oilBirds 14 rfl) ?_
  refine r_min 22 K w584 w494 w19 w495 (dk_of tX2_oilBirds 15 rfl) rfl ?_
  refine r_nmI hR (fun x1 hR => ?_)
  refine r_istore_n 25 2 [some (.ref (h 1)), some (.int p1), some (.int x1)] K (dk_of tX2_oilBirds 16 rfl) rfl rfl rfl (by decide) ?_
  refine r_aload_n 26 0 K (dk_of tX2_oilBirds 17 rfl) rfl rfl ?_
  refine r_getf (C := RX2) (T := TX2) (N := 8) 27 1 6 K (dk_of tX2_oilBirds 18 rfl) w65 gwX2 rfl rfl (by decide) rfl ?_
  refine r_iload_n 30 1 K (dk_of tX2_oilBirds 19 rfl) rfl rfl ?_
  refine r_dup2 31 K (dk_of tX2_oilBirds 20 rfl) rfl rfl ?_
  refine r_ialdR 32 8 K (dk_of tX2_oilBirds 21 rfl) rfl hR (fun hR => ?_)
  refine r_iload_n 33 2 K (dk_of tX2_oilBirds 22 rfl) rfl rfl ?_
  refine r_iadd 34 K (dk_of tX2_oilBirds 23 rfl) ?_
  refine r_iastR 35 8 K (dk_of tX2_oilBirds 24 rfl) rfl sB_8 hR (fun hR => ?_)
  refine r_nmS (fun σ2 : St => wB γ h σ2 ++ (r)) hR (fun σ2 hR => ?_)
  exact r_vret 36 K hQ (dk_of tX2_oilBirds 25 rfl) (Nat.zero_le _) (Nat.zero_le _) (lfv (fun u9 : St => wB γ h u9 ++ (r)) hR)

def sp_X2_isTooDirty (p1 : Int32) (σ : St) : Option (Int32) := if p1 < 0 ∨ 24 ≤ p1.toNatClampNeg then none else (if p1 < 0 ∨ 24 ≤ p1.toNatClampNeg then none else (if (σ 2 p1.toNatClampNeg) < 0 ∨ 4 ≤ (σ 2 p1.toNatClampNeg).toNatClampNeg then none else (if (σ 6 p1.toNatClampNeg) ≤ ((tabH (σ 2 p1.toNatClampNeg)) / (20 : Int32)) then (some (0 : Int32)) else (some (1 : Int32)))))
set_option maxHeartbeats 4000000 in
set_option maxRecDepth 100000 in
theorem ct_X2_isTooDirty {l : Launch} (hl : l.stackTraces = false) {γ : Gd} {h : Nat → Nat} {σ : St} {r : va_W} {p1 : Int32} {x0 : Int32} (hR : some x0 = sp_X2_isTooDirty p1 σ) : Ct l γ yX2_isTooDirty (Cond.code yX2_isTooDirty cX2_isTooDirty 2 (some .boolean)) ({ frames := 0, cells := 0, slots := 0, locals := 0 } : Room) [.ref (h 1), .int p1] (wB γ h σ ++ (r)) (Pr (some (.int x0)) (wB γ h σ ++ (r))) 0 0 := by
  refine Ct_of hl (by decide +kernel) rfl (Nat.le_of_ble_eq_true rfl) (L := [some (.ref (h 1)), some (.int p1)]) rfl ?_
  intro X Q K hQ
  generalize ((wB γ h σ ++ (r), Q) : MX) = M at K hQ ⊢
  unfold sp_X2_isTooDirty at hR
  refine r_aload_n 0 0 K (dk_of tX2_isTooDirty 0 rfl) rfl rfl ?_
  refine r_getf (C := RX2) (T := TX2) (N := 8) 1 1 4 K (dk_of tX2_isTooDirty 1 rfl) w59 gwX2 rfl rfl (by decide) rfl ?_
  refine r_iload_n 4 1 K (dk_of tX2_isTooDirty 2 rfl) rfl rfl ?_
  refine r_ialdR 5 6 K (dk_of tX2_isTooDirty 3 rfl) rfl hR (fun hR => ?_)
  refine r_gets0 6 K (dk_of tX2_isTooDirty 4 rfl) ?_
  refine r_aload_n 9 0 K (dk_of tX2_isTooDirty 5 rfl) rfl rfl ?_
  refine r_getf (C := RX2) (T := TX2) (N := 8) 10 1 0 K (dk_of tX2_isTooDirty 6 rfl) w44 gwX2 rfl rfl (by decide) rfl ?_
  refine r_iload_n 13 1 K (dk_of tX2_isTooDirty 7 rfl) rfl rfl ?_
  refine r_ialdR 14 2 K (dk_of tX2_isTooDirty 8 rfl) rfl hR (fun hR => ?_)
  refine r_tab0R 15 K (dk_of tX2_isTooDirty 9 rfl) hR (fun hR => ?_)
  refine r_bipush 16 (20 : Int32) K (dk_of tX2_isTooDirty 10 rfl) (by decide) ?_
  refine r_idiv 18 K (dk_of tX2_isTooDirty 11 rfl) (by decide) ?_
  refine r_ic_le 19 26 K (dk_of tX2_isTooDirty 12 rfl) (by decide) hR (fun hR => ?_) (fun hR => ?_)
  · refine r_iconst 26 (0 : Int32) K (dk_of tX2_isTooDirty 15 rfl) (by decide) ?_
    exact r_zret 27 K hQ (dk_of tX2_isTooDirty 16 rfl) zb0 (Nat.zero_le _) (Nat.zero_le _) (lfi0 hR)
  · refine r_iconst 22 (1 : Int32) K (dk_of tX2_isTooDirty 13 rfl) (by decide) ?_
    refine r_goto 23 27 K (dk_of tX2_isTooDirty 14 rfl) (by decide) ?_
    exact r_zret 27 K hQ (dk_of tX2_isTooDirty 16 rfl) zb1 (Nat.zero_le _) (Nat.zero_le _) (lfi0 hR)

def sp_X2_isClean (p1 : Int32) (σ : St) : Option (Int32) := if p1 < 0 ∨ 24 ≤ p1.toNatClampNeg then none else (b1 (sp_J6_bitCount_0f7a4 (σ 9 p1.toNatClampNeg)) (fun (x1 : Int32) => if x1 < (2 : Int32) then (some (0 : Int32)) else (some (1 : Int32))))
set_option maxHeartbeats 4000000 in
set_option maxRecDepth 100000 in
theorem ct_X2_isClean {l : Launch} (hl : l.stackTraces = false) {γ : Gd} {h : Nat → Nat} {σ : St} {r : va_W} {p1 : Int32} {x0 : Int32} (hR : some x0 = sp_X2_isClean p1 σ) : Ct l γ yX2_isClean (Cond.code yX2_isClean cX2_isClean 2 (some .boolean)) ({ frames := 1, cells := 0, slots := 0, locals := 20 } : Room) [.ref (h 1), .int p1] (wB γ h σ ++ (r)) (Pr (some (.int x0)) (wB γ h σ ++ (r))) 0 0 := by
  refine Ct_of hl (by decide +kernel) rfl (Nat.le_of_ble_eq_true rfl) (L := [some (.ref (h 1)), some (.int p1)]) rfl ?_
  intro X Q K hQ
  generalize ((wB γ h σ ++ (r), Q) : MX) = M at K hQ ⊢
  unfold sp_X2_isClean at hR
  refine r_aload_n 0 0 K (dk_of tX2_isClean 0 rfl) rfl rfl ?_
  refine r_getf (C := RX2) (T := TX2) (N := 8) 1 1 7 K (dk_of tX2_isClean 1 rfl) w67 gwX2 rfl rfl (by decide) rfl ?_
  refine r_iload_n 4 1 K (dk_of tX2_isClean 2 rfl) rfl rfl ?_
  refine r_ialdR 5 9 K (dk_of tX2_isClean 3 rfl) rfl hR (fun hR => ?_)
  obtain ⟨x1, hc, hR⟩ := o1 hR
  refine r_cSi 6 [.int (σ 9 p1.toNatClampNeg)] [] x1 (wB γ h σ ++ (r)) K (ct_J6_bitCount_0f7a4 hl hc.symm) cs_X2_56 ⟨rfl, rfl, rfl⟩ (dk_of tX2_isClean 4 rfl) rfl rfl rfl rfl ?_
  refine r_iconst 9 (2 : Int32) K (dk_of tX2_isClean 5 rfl) (by decide) ?_
  refine r_ic_lt 10 17 K (dk_of tX2_isClean 6 rfl) (by decide) hR (fun hR => ?_) (fun hR => ?_)
  · refine r_iconst 17 (0 : Int32) K (dk_of tX2_isClean 9 rfl) (by decide) ?_
    exact r_zret 18 K hQ (dk_of tX2_isClean 10 rfl) zb0 (Nat.zero_le _) (Nat.zero_le _) (lfi0 hR)
  · refine r_iconst 13 (1 : Int32) K (dk_of tX2_isClean 7 rfl) (by decide) ?_
    refine r_goto 14 18 K (dk_of tX2_isClean 8 rfl) (by decide) ?_
    exact r_zret 18 K hQ (dk_of tX2_isClean 10 rfl) zb1 (Nat.zero_le _) (Nat.zero_le _) (lfi0 hR)

def sp_X2_becomeLike  (σ : St) (τ : St) : Option (St) := sl (stC σ 2 (va_cpy (τ 2) (σ 2) (0 : Int32).toNatClampNeg (0 : Int32).toNatClampNeg (24 : Int32).toNatClampNeg)) (fun σ1 : St => sl (stC σ1 4 (va_cpy (τ 4) (σ1 4) (0 : Int32).toNatClampNeg (0 : Int32).toNatClampNeg (24 : Int32).toNatClampNeg)) (fun σ2 : St => sl (stC σ2 5 (va_cpy (τ 5) (σ2 5) (0 : Int32).toNatClampNeg (0 : Int32).toNatClampNeg (24 : Int32).toNatClampNeg)) (fun σ3 : St => sl (stC σ3 6 (va_cpy (τ 6) (σ3 6) (0 : Int32).toNatClampNeg (0 : Int32).toNatClampNeg (24 : Int32).toNatClampNeg)) (fun σ4 : St => some σ4))))
set_option maxHeartbeats 4000000 in
set_option maxRecDepth 100000 in
theorem ct_X2_becomeLike {l : Launch} (hl : l.stackTraces = false) {γ : Gd} {h : Nat → Nat} {g : Nat → Nat} {σ : St} {τ : St} {r : va_W}  {σ0 : St} (hR : some σ0 = sp_X2_becomeLike σ τ) : Ct l γ yX2_becomeLike (Cond.code yX2_becomeLike cX2_becomeLike 2 none) ({ frames := 1, cells := 0, slots := 0, locals := 40 } : Room) [.ref (h 1), .ref (g 1)] (wB γ h σ ++ (wB γ g τ ++ (r))) (Pr none (wB γ h σ0 ++ (wB γ g τ ++ (r)))) 0 0 := by
  refine Ct_of hl (by decide +kernel) rfl (Nat.le_of_ble_eq_true rfl) (L := [some (.ref (h 1)), some (.ref (g 1))]) rfl ?_
  intro X Q K hQ
  generalize ((wB γ h σ ++ (wB γ g τ ++ (r)), Q) : MX) = M at K hQ ⊢
  unfold sp_X2_becomeLike at hR
  refine r_aload_n 0 1 K (dk_of tX2_becomeLike 0 rfl) rfl rfl ?_
  refine r_getf (C := RX2) (T := TX2) (N := 8) 1 27 0 K (dk_of tX2_becomeLike 1 rfl) w44 gwX2 rfl rfl (by decide) rfl ?_
  refine r_iconst 4 (0 : Int32) K (dk_of tX2_becomeLike 2 rfl) (by decide) ?_
  refine r_aload_n 5 0 K (dk_of tX2_becomeLike 3 rfl) rfl rfl ?_
  refine r_getf (C := RX2) (T := TX2) (N := 8) 6 1 0 K (dk_of tX2_becomeLike 4 rfl) w44 gwX2 rfl rfl (by decide) rfl ?_
  refine r_iconst 9 (0 : Int32) K (dk_of tX2_becomeLike 5 rfl) (by decide) ?_
  refine r_bipush 10 (24 : Int32) K (dk_of tX2_becomeLike 6 rfl) (by decide) ?_
  refine r_copy 12 28 2 K w673 w675 w674 w20 (dk_of tX2_becomeLike 7 rfl) rfl rfl (by decide) (by decide) (by decide) (by decide) (by decide) cB_2 rfl ?_
  refine r_nmS (fun σ1 : St => wB γ h σ1 ++ (wB γ g τ ++ (r))) hR (fun σ1 hR => ?_)
  refine r_aload_n 15 1 K (dk_of tX2_becomeLike 8 rfl) rfl rfl ?_
  refine r_getf (C := RX2) (T := TX2) (N := 8) 16 27 2 K (dk_of tX2_becomeLike 9 rfl) w49 gwX2 rfl rfl (by decide) rfl ?_
  refine r_iconst 19 (0 : Int32) K (dk_of tX2_becomeLike 10 rfl) (by decide) ?_
  refine r_aload_n 20 0 K (dk_of tX2_becomeLike 11 rfl) rfl rfl ?_
  refine r_getf (C := RX2) (T := TX2) (N := 8) 21 1 2 K (dk_of tX2_becomeLike 12 rfl) w49 gwX2 rfl rfl (by decide) rfl ?_
  refine r_iconst 24 (0 : Int32) K (dk_of tX2_becomeLike 13 rfl) (by decide) ?_
  refine r_bipush 25 (24 : Int32) K (dk_of tX2_becomeLike 14 rfl) (by decide) ?_
  refine r_copy 27 30 4 K w673 w675 w674 w20 (dk_of tX2_becomeLike 15 rfl) rfl rfl (by decide) (by decide) (by decide) (by decide) (by decide) cB_4 rfl ?_
  refine r_nmS (fun σ2 : St => wB γ h σ2 ++ (wB γ g τ ++ (r))) hR (fun σ2 hR => ?_)
  refine r_aload_n 30 1 K (dk_of tX2_becomeLike 16 rfl) rfl rfl ?_
  refine r_getf (C := RX2) (T := TX2) (N := 8) 31 27 3 K (dk_of tX2_becomeLike 17 rfl) w54 gwX2 rfl rfl (by decide) rfl ?_
  refine r_iconst 34 (0 : Int32) K (dk_of tX2_becomeLike 18 rfl) (by decide) ?_
  refine r_aload_n 35 0 K (dk_of tX2_becomeLike 19 rfl) rfl rfl ?_
  refine r_getf (C := RX2) (T := TX2) (N := 8) 36 1 3 K (dk_of tX2_becomeLike 20 rfl) w54 gwX2 rfl rfl (by decide) rfl ?_
  refine r_iconst 39 (0 : Int32) K (dk_of tX2_becomeLike 21 rfl) (by decide) ?_
  refine r_bipush 40 (24 : Int32) K (dk_of tX2_becomeLike 22 rfl) (by decide) ?_
  refine r_copy 42 31 5 K w673 w675 w674 w20 (dk_of tX2_becomeLike 23 rfl) rfl rfl (by decide) (by decide) (by decide) (by decide) (by decide) cB_5 rfl ?_
  refine r_nmS (fun σ3 : St => wB γ h σ3 ++ (wB γ g τ ++ (r))) hR (fun σ3 hR => ?_)
  refine r_aload_n 45 1 K (dk_of tX2_becomeLike 24 rfl) rfl rfl ?_
  refine r_getf (C := RX2) (T := TX2) (N := 8) 46 27 4 K (dk_of tX2_becomeLike 25 rfl) w59 gwX2 rfl rfl (by decide) rfl ?_
  refine r_iconst 49 (0 : Int32) K (dk_of tX2_becomeLike 26 rfl) (by decide) ?_
  refine r_aload_n 50 0 K (dk_of tX2_becomeLike 27 rfl) rfl rfl ?_
  refine r_getf (C := RX2) (T := TX2) (N := 8) 51 1 4 K (dk_of tX2_becomeLike 28 rfl) w59 gwX2 rfl rfl (by decide) rfl ?_
  refine r_iconst 54 (0 : Int32) K (dk_of tX2_becomeLike 29 rfl) (by decide) ?_
  refine r_bipush 55 (24 : Int32) K (dk_of tX2_becomeLike 30 rfl) (by decide) ?_
  refine r_copy 57 32 6 K w673 w675 w674 w20 (dk_of tX2_becomeLike 31 rfl) rfl rfl (by decide) (by decide) (by decide) (by decide) (by decide) cB_6 rfl ?_
  refine r_nmS (fun σ4 : St => wB γ h σ4 ++ (wB γ g τ ++ (r))) hR (fun σ4 hR => ?_)
  exact r_vret 60 K hQ (dk_of tX2_becomeLike 32 rfl) (Nat.zero_le _) (Nat.zero_le _) (lfv (fun u9 : St => wB γ h u9 ++ (wB γ g τ ++ (r))) hR)

def sp_X2_oilOf (p1 : Int32) (σ : St) : Option (Int32) := if p1 < 0 ∨ 24 ≤ p1.toNatClampNeg then none else (if p1 < 0 ∨ 24 ≤ p1.toNatClampNeg then none else (if p1 < 0 ∨ 24 ≤ p1.toNatClampNeg then none else (some (((σ 4 p1.toNatClampNeg) + (σ 5 p1.toNatClampNeg)) + (σ 6 p1.toNatClampNeg)))))
set_option maxHeartbeats 4000000 in
set_option maxRecDepth 100000 in
theorem ct_X2_oilOf {l : Launch} (hl : l.stackTraces = false) {γ : Gd} {h : Nat → Nat} {σ : St} {r : va_W} {p1 : Int32} {x0 : Int32} (hR : some x0 = sp_X2_oilOf p1 σ) : Ct l γ yX2_oilOf (Cond.code yX2_oilOf cX2_oilOf 2 (some .int)) ({ frames := 0, cells := 0, slots := 0, locals := 0 } : Room) [.ref (h 1), .int p1] (wB γ h σ ++ (r)) (Pr (some (.int x0)) (wB γ h σ ++ (r))) 0 0 := by
  refine Ct_of hl (by decide +kernel) rfl (Nat.le_of_ble_eq_true rfl) (L := [some (.ref (h 1)), some (.int p1)]) rfl ?_
  intro X Q K hQ
  generalize ((wB γ h σ ++ (r), Q) : MX) = M at K hQ ⊢
  unfold sp_X2_oilOf at hR
  refine r_aload_n 0 0 K (dk_of tX2_oilOf 0 rfl) rfl rfl ?_
  refine r_getf (C := RX2) (T := TX2) (N := 8) 1 1 2 K (dk_of tX2_oilOf 1 rfl) w49 gwX2 rfl rfl (by decide) rfl ?_
  refine r_iload_n 4 1 K (dk_of tX2_oilOf 2 rfl) rfl rfl ?_
  refine r_ialdR 5 4 K (dk_of tX2_oilOf 3 rfl) rfl hR (fun hR => ?_)
  refine r_aload_n 6 0 K (dk_of tX2_oilOf 4 rfl) rfl rfl ?_
  refine r_getf (C := RX2) (T := TX2) (N := 8) 7 1 3 K (dk_of tX2_oilOf 5 rfl) w54 gwX2 rfl rfl (by decide) rfl ?_
  refine r_iload_n 10 1 K (dk_of tX2_oilOf 6 rfl) rfl rfl ?_
  refine r_ialdR 11 5 K (dk_of tX2_oilOf 7 rfl) rfl hR (fun hR => ?_)
  refine r_iadd 12 K (dk_of tX2_oilOf 8 rfl) ?_
  refine r_aload_n 13 0 K (dk_of tX2_oilOf 9 rfl) rfl rfl ?_
  refine r_getf (C := RX2) (T := TX2) (N := 8) 14 1 4 K (dk_of tX2_oilOf 10 rfl) w59 gwX2 rfl rfl (by decide) rfl ?_
  refine r_iload_n 17 1 K (dk_of tX2_oilOf 11 rfl) rfl rfl ?_
  refine r_ialdR 18 6 K (dk_of tX2_oilOf 12 rfl) rfl hR (fun hR => ?_)
  refine r_iadd 19 K (dk_of tX2_oilOf 13 rfl) ?_
  exact r_iret 20 K hQ (dk_of tX2_oilOf 14 rfl) (Nat.zero_le _) (Nat.zero_le _) (lfi0 hR)

def sp_X2_allFloating_4 (σ : St) : Nat → Int32 → Int32 → Option (Int32)
  | 0, _, _ => none
  | n + 1, y1, y2 => if (24 : Int32) ≤ y2 then (some y1) else (if y2 < 0 ∨ 24 ≤ y2.toNatClampNeg then none else (if y2 < 0 ∨ 24 ≤ y2.toNatClampNeg then none else (sl ((y1 + ((σ 4 y2.toNatClampNeg) + (σ 5 y2.toNatClampNeg)))) (fun x3 : Int32 => sp_X2_allFloating_4 σ n x3 (y2 + 1)))))
def sp_X2_allFloating  (σ : St) : Option (Int32) := sp_X2_allFloating_4 σ 200 (0 : Int32) (0 : Int32)
set_option maxHeartbeats 4000000 in
set_option maxRecDepth 100000 in
theorem ct_X2_allFloating {l : Launch} (hl : l.stackTraces = false) {γ : Gd} {h : Nat → Nat} {σ : St} {r : va_W}  {x0 : Int32} (hR : some x0 = sp_X2_allFloating σ) : Ct l γ yX2_allFloating (Cond.code yX2_allFloating cX2_allFloating 3 (some .int)) ({ frames := 0, cells := 0, slots := 0, locals := 0 } : Room) [.ref (h 1)] (wB γ h σ ++ (r)) (Pr (some (.int x0)) (wB γ h σ ++ (r))) 0 0 := by
  refine Ct_of hl (by decide +kernel) rfl (Nat.le_of_ble_eq_true rfl) (L := [some (.ref (h 1)), none, none]) rfl ?_
  intro X Q K hQ
  generalize ((wB γ h σ ++ (r), Q) : MX) = M at K hQ ⊢
  unfold sp_X2_allFloating at hR
  have b4 : ∀  (n : Nat) (y1 : Int32) (y2 : Int32), some x0 = sp_X2_allFloating_4 σ n y1 y2 → V l γ X M (wB γ h σ ++ (r)) [some (.ref (h 1)), some (.int y1), some (.int y2)] 0 0 4 [] := by
    intro  n
    induction n with
    | zero => intro y1 y2 hR; exact nn_ hR
    | succ n ih4 =>
      intro y1 y2 hR
      rw [sp_X2_allFloating_4] at hR
      refine r_iload_n 4 2 K (dk_of tX2_allFloating 4 rfl) rfl rfl ?_
      refine r_bipush 5 (24 : Int32) K (dk_of tX2_allFloating 5 rfl) (by decide) ?_
      refine r_ic_ge 7 32 K (dk_of tX2_allFloating 6 rfl) (by decide) hR (fun hR => ?_) (fun hR => ?_)
      · refine r_iload_n 32 1 K (dk_of tX2_allFloating 21 rfl) rfl rfl ?_
        exact r_iret 33 K hQ (dk_of tX2_allFloating 22 rfl) (Nat.zero_le _) (Nat.zero_le _) (lfi0 hR)
      · refine r_iload_n 10 1 K (dk_of tX2_allFloating 7 rfl) rfl rfl ?_
        refine r_aload_n 11 0 K (dk_of tX2_allFloating 8 rfl) rfl rfl ?_
        refine r_getf (C := RX2) (T := TX2) (N := 8) 12 1 2 K (dk_of tX2_allFloating 9 rfl) w49 gwX2 rfl rfl (by decide) rfl ?_
        refine r_iload_n 15 2 K (dk_of tX2_allFloating 10 rfl) rfl rfl ?_
        refine r_ialdR 16 4 K (dk_of tX2_allFloating 11 rfl) rfl hR (fun hR => ?_)
        refine r_aload_n 17 0 K (dk_of tX2_allFloating 12 rfl) rfl rfl ?_
        refine r_getf (C := RX2) (T := TX2) (N := 8) 18 1 3 K (dk_of tX2_allFloating 13 rfl) w54 gwX2 rfl rfl (by decide) rfl ?_
        refine r_iload_n 21 2 K (dk_of tX2_allFloating 14 rfl) rfl rfl ?_
        refine r_ialdR 22 5 K (dk_of tX2_allFloating 15 rfl) rfl hR (fun hR => ?_)
        refine r_iadd 23 K (dk_of tX2_allFloating 16 rfl) ?_
        refine r_iadd 24 K (dk_of tX2_allFloating 17 rfl) ?_
        refine r_nmI hR (fun x3 hR => ?_)
        refine r_istore_n 25 1 [some (.ref (h 1)), some (.int x3), some (.int y2)] K (dk_of tX2_allFloating 18 rfl) rfl rfl rfl (by decide) ?_
        refine r_iinc 26 2 (y2 + 1) [some (.ref (h 1)), some (.int x3), some (.int (y2 + 1))] K (dk_of tX2_allFloating 19 rfl) rfl rfl rfl rfl (by decide) ?_
        refine r_goto 29 4 K (dk_of tX2_allFloating 20 rfl) (by decide) ?_
        exact ih4 x3 (y2 + 1) hR
  refine r_iconst 0 (0 : Int32) K (dk_of tX2_allFloating 0 rfl) (by decide) ?_
  refine r_istore_n 1 1 [some (.ref (h 1)), some (.int (0 : Int32)), none] K (dk_of tX2_allFloating 1 rfl) rfl rfl rfl (by decide) ?_
  refine r_iconst 2 (0 : Int32) K (dk_of tX2_allFloating 2 rfl) (by decide) ?_
  refine r_istore_n 3 2 [some (.ref (h 1)), some (.int (0 : Int32)), some (.int (0 : Int32))] K (dk_of tX2_allFloating 3 rfl) rfl rfl rfl (by decide) ?_
  exact b4 200 (0 : Int32) (0 : Int32) hR

def sp_X2_allStranded_4 (σ : St) : Nat → Int32 → Int32 → Option (Int32)
  | 0, _, _ => none
  | n + 1, y1, y2 => if (24 : Int32) ≤ y2 then (some y1) else (if y2 < 0 ∨ 24 ≤ y2.toNatClampNeg then none else (sl ((y1 + (σ 6 y2.toNatClampNeg))) (fun x3 : Int32 => sp_X2_allStranded_4 σ n x3 (y2 + 1))))
def sp_X2_allStranded  (σ : St) : Option (Int32) := sp_X2_allStranded_4 σ 200 (0 : Int32) (0 : Int32)
set_option maxHeartbeats 4000000 in
set_option maxRecDepth 100000 in
theorem ct_X2_allStranded {l : Launch} (hl : l.stackTraces = false) {γ : Gd} {h : Nat → Nat} {σ : St} {r : va_W}  {x0 : Int32} (hR : some x0 = sp_X2_allStranded σ) : Ct l γ yX2_allStranded (Cond.code yX2_allStranded cX2_allStranded 3 (some .int)) ({ frames := 0, cells := 0, slots := 0, locals := 0 } : Room) [.ref (h 1)] (wB γ h σ ++ (r)) (Pr (some (.int x0)) (wB γ h σ ++ (r))) 0 0 := by
  refine Ct_of hl (by decide +kernel) rfl (Nat.le_of_ble_eq_true rfl) (L := [some (.ref (h 1)), none, none]) rfl ?_
  intro X Q K hQ
  generalize ((wB γ h σ ++ (r), Q) : MX) = M at K hQ ⊢
  unfold sp_X2_allStranded at hR
  have b4 : ∀  (n : Nat) (y1 : Int32) (y2 : Int32), some x0 = sp_X2_allStranded_4 σ n y1 y2 → V l γ X M (wB γ h σ ++ (r)) [some (.ref (h 1)), some (.int y1), some (.int y2)] 0 0 4 [] := by
    intro  n
    induction n with
    | zero => intro y1 y2 hR; exact nn_ hR
    | succ n ih4 =>
      intro y1 y2 hR
      rw [sp_X2_allStranded_4] at hR
      refine r_iload_n 4 2 K (dk_of tX2_allStranded 4 rfl) rfl rfl ?_
      refine r_bipush 5 (24 : Int32) K (dk_of tX2_allStranded 5 rfl) (by decide) ?_
      refine r_ic_ge 7 25 K (dk_of tX2_allStranded 6 rfl) (by decide) hR (fun hR => ?_) (fun hR => ?_)
      · refine r_iload_n 25 1 K (dk_of tX2_allStranded 16 rfl) rfl rfl ?_
        exact r_iret 26 K hQ (dk_of tX2_allStranded 17 rfl) (Nat.zero_le _) (Nat.zero_le _) (lfi0 hR)
      · refine r_iload_n 10 1 K (dk_of tX2_allStranded 7 rfl) rfl rfl ?_
        refine r_aload_n 11 0 K (dk_of tX2_allStranded 8 rfl) rfl rfl ?_
        refine r_getf (C := RX2) (T := TX2) (N := 8) 12 1 4 K (dk_of tX2_allStranded 9 rfl) w59 gwX2 rfl rfl (by decide) rfl ?_
        refine r_iload_n 15 2 K (dk_of tX2_allStranded 10 rfl) rfl rfl ?_
        refine r_ialdR 16 6 K (dk_of tX2_allStranded 11 rfl) rfl hR (fun hR => ?_)
        refine r_iadd 17 K (dk_of tX2_allStranded 12 rfl) ?_
        refine r_nmI hR (fun x3 hR => ?_)
        refine r_istore_n 18 1 [some (.ref (h 1)), some (.int x3), some (.int y2)] K (dk_of tX2_allStranded 13 rfl) rfl rfl rfl (by decide) ?_
        refine r_iinc 19 2 (y2 + 1) [some (.ref (h 1)), some (.int x3), some (.int (y2 + 1))] K (dk_of tX2_allStranded 14 rfl) rfl rfl rfl rfl (by decide) ?_
        refine r_goto 22 4 K (dk_of tX2_allStranded 15 rfl) (by decide) ?_
        exact ih4 x3 (y2 + 1) hR
  refine r_iconst 0 (0 : Int32) K (dk_of tX2_allStranded 0 rfl) (by decide) ?_
  refine r_istore_n 1 1 [some (.ref (h 1)), some (.int (0 : Int32)), none] K (dk_of tX2_allStranded 1 rfl) rfl rfl rfl (by decide) ?_
  refine r_iconst 2 (0 : Int32) K (dk_of tX2_allStranded 2 rfl) (by decide) ?_
  refine r_istore_n 3 2 [some (.ref (h 1)), some (.int (0 : Int32)), some (.int (0 : Int32))] K (dk_of tX2_allStranded 3 rfl) rfl rfl rfl (by decide) ?_
  exact b4 200 (0 : Int32) (0 : Int32) hR

def sp_X2_isKindBeside_3 (σ : St) (y1 : Int32) (y2 : Int32) (y3 : Int32) : Nat → Int32 → Option (Int32)
  | 0, _ => none
  | n + 1, y4 => if (3 : Int32) < y4 then (some (0 : Int32)) else (b1 (sp_X2_beside y1 y4) (fun (x5 : Int32) => if x5 = (-1 : Int32) then (sp_X2_isKindBeside_3 σ y1 y2 y3 n (y4 + 1)) else (if x5 < 0 ∨ 24 ≤ x5.toNatClampNeg then none else (if (σ 2 x5.toNatClampNeg) < y2 then (sp_X2_isKindBeside_3 σ y1 y2 y3 n (y4 + 1)) else (if x5 < 0 ∨ 24 ≤ x5.toNatClampNeg then none else (if y3 < (σ 2 x5.toNatClampNeg) then (sp_X2_isKindBeside_3 σ y1 y2 y3 n (y4 + 1)) else (some (1 : Int32))))))))
def sp_X2_isKindBeside (p1 : Int32) (p2 : Int32) (p3 : Int32) (σ : St) : Option (Int32) := sp_X2_isKindBeside_3 σ p1 p2 p3 200 (0 : Int32)
set_option maxHeartbeats 4000000 in
set_option maxRecDepth 100000 in
theorem ct_X2_isKindBeside {l : Launch} (hl : l.stackTraces = false) {γ : Gd} {h : Nat → Nat} {σ : St} {r : va_W} {p1 : Int32} {p2 : Int32} {p3 : Int32} {x0 : Int32} (hR : some x0 = sp_X2_isKindBeside p1 p2 p3 σ) : Ct l γ yX2_isKindBeside (Cond.code yX2_isKindBeside cX2_isKindBeside 6 (some .boolean)) ({ frames := 1, cells := 0, slots := 0, locals := 23 } : Room) [.ref (h 1), .int p1, .int p2, .int p3] (wB γ h σ ++ (r)) (Pr (some (.int x0)) (wB γ h σ ++ (r))) 0 0 := by
  refine Ct_of hl (by decide +kernel) rfl (Nat.le_of_ble_eq_true rfl) (L := [some (.ref (h 1)), some (.int p1), some (.int p2), some (.int p3), none, none]) rfl ?_
  intro X Q K hQ
  generalize ((wB γ h σ ++ (r), Q) : MX) = M at K hQ ⊢
  unfold sp_X2_isKindBeside at hR
  have b3 : ∀ (y1 : Int32) (y2 : Int32) (y3 : Int32) (n : Nat) (y4 : Int32), some x0 = sp_X2_isKindBeside_3 σ y1 y2 y3 n y4 → V l γ X M (wB γ h σ ++ (r)) [some (.ref (h 1)), some (.int y1), some (.int y2), some (.int y3), some (.int y4), none] 0 0 3 [] := by
    intro y1 y2 y3 n
    induction n with
    | zero => intro y4 hR; exact nn_ hR
    | succ n ih3 =>
      intro y4 hR
      rw [sp_X2_isKindBeside_3] at hR
      refine r_iload 3 4 K (dk_of tX2_isKindBeside 2 rfl) rfl ?_
      refine r_iconst 5 (3 : Int32) K (dk_of tX2_isKindBeside 3 rfl) (by decide) ?_
      refine r_ic_gt 6 53 K (dk_of tX2_isKindBeside 4 rfl) (by decide) hR (fun hR => ?_) (fun hR => ?_)
      · refine r_iconst 53 (0 : Int32) K (dk_of tX2_isKindBeside 28 rfl) (by decide) ?_
        exact r_zret 54 K hQ (dk_of tX2_isKindBeside 29 rfl) zb0 (Nat.zero_le _) (Nat.zero_le _) (lfi0 hR)
      · refine r_iload_n 9 1 K (dk_of tX2_isKindBeside 5 rfl) rfl rfl ?_
        refine r_iload 10 4 K (dk_of tX2_isKindBeside 6 rfl) rfl ?_
        obtain ⟨x5, hc, hR⟩ := o1 hR
        refine r_cSi 12 [.int y1, .int y4] [] x5 (wB γ h σ ++ (r)) K (ct_X2_beside hl hc.symm) cs_X2_42 ⟨rfl, rfl, rfl⟩ (dk_of tX2_isKindBeside 7 rfl) rfl rfl rfl rfl ?_
        refine r_istore 15 5 [some (.ref (h 1)), some (.int y1), some (.int y2), some (.int y3), some (.int y4), some (.int x5)] K (dk_of tX2_isKindBeside 8 rfl) rfl rfl (by decide) ?_
        refine r_iload 17 5 K (dk_of tX2_isKindBeside 9 rfl) rfl ?_
        refine r_iconst 19 (-1) K (dk_of tX2_isKindBeside 10 rfl) (by decide) ?_
        refine r_ic_eq 20 47 K (dk_of tX2_isKindBeside 11 rfl) (by decide) hR (fun hR => ?_) (fun hR => ?_)
        · refine r_iinc 47 4 (y4 + 1) [some (.ref (h 1)), some (.int y1), some (.int y2), some (.int y3), some (.int (y4 + 1)), some (.int x5)] K (dk_of tX2_isKindBeside 26 rfl) rfl rfl rfl rfl (by decide) ?_
          refine r_goto 50 3 K (dk_of tX2_isKindBeside 27 rfl) (by decide) ?_
          exact r_msk [true, true, true, true, true, false] [some (.ref (h 1)), some (.int y1), some (.int y2), some (.int y3), some (.int (y4 + 1)), none] rfl (ih3 (y4 + 1) hR)
        · refine r_aload_n 23 0 K (dk_of tX2_isKindBeside 12 rfl) rfl rfl ?_
          refine r_getf (C := RX2) (T := TX2) (N := 8) 24 1 0 K (dk_of tX2_isKindBeside 13 rfl) w44 gwX2 rfl rfl (by decide) rfl ?_
          refine r_iload 27 5 K (dk_of tX2_isKindBeside 14 rfl) rfl ?_
          refine r_ialdR 29 2 K (dk_of tX2_isKindBeside 15 rfl) rfl hR (fun hR => ?_)
          refine r_iload_n 30 2 K (dk_of tX2_isKindBeside 16 rfl) rfl rfl ?_
          refine r_ic_lt 31 47 K (dk_of tX2_isKindBeside 17 rfl) (by decide) hR (fun hR => ?_) (fun hR => ?_)
          · refine r_iinc 47 4 (y4 + 1) [some (.ref (h 1)), some (.int y1), some (.int y2), some (.int y3), some (.int (y4 + 1)), some (.int x5)] K (dk_of tX2_isKindBeside 26 rfl) rfl rfl rfl rfl (by decide) ?_
            refine r_goto 50 3 K (dk_of tX2_isKindBeside 27 rfl) (by decide) ?_
            exact r_msk [true, true, true, true, true, false] [some (.ref (h 1)), some (.int y1), some (.int y2), some (.int y3), some (.int (y4 + 1)), none] rfl (ih3 (y4 + 1) hR)
          · refine r_aload_n 34 0 K (dk_of tX2_isKindBeside 18 rfl) rfl rfl ?_
            refine r_getf (C := RX2) (T := TX2) (N := 8) 35 1 0 K (dk_of tX2_isKindBeside 19 rfl) w44 gwX2 rfl rfl (by decide) rfl ?_
            refine r_iload 38 5 K (dk_of tX2_isKindBeside 20 rfl) rfl ?_
            refine r_ialdR 40 2 K (dk_of tX2_isKindBeside 21 rfl) rfl hR (fun hR => ?_)
            refine r_iload_n 41 3 K (dk_of tX2_isKindBeside 22 rfl) rfl rfl ?_
            refine r_ic_gt 42 47 K (dk_of tX2_isKindBeside 23 rfl) (by decide) hR (fun hR => ?_) (fun hR => ?_)
            · refine r_iinc 47 4 (y4 + 1) [some (.ref (h 1)), some (.int y1), some (.int y2), some (.int y3), some (.int (y4 + 1)), some (.int x5)] K (dk_of tX2_isKindBeside 26 rfl) rfl rfl rfl rfl (by decide) ?_
              refine r_goto 50 3 K (dk_of tX2_isKindBeside 27 rfl) (by decide) ?_
              exact r_msk [true, true, true, true, true, false] [some (.ref (h 1)), some (.int y1), some (.int y2), some (.int y3), some (.int (y4 + 1)), none] rfl (ih3 (y4 + 1) hR)
            · refine r_iconst 45 (1 : Int32) K (dk_of tX2_isKindBeside 24 rfl) (by decide) ?_
              exact r_zret 46 K hQ (dk_of tX2_isKindBeside 25 rfl) zb1 (Nat.zero_le _) (Nat.zero_le _) (lfi0 hR)
  refine r_iconst 0 (0 : Int32) K (dk_of tX2_isKindBeside 0 rfl) (by decide) ?_
  refine r_istore 1 4 [some (.ref (h 1)), some (.int p1), some (.int p2), some (.int p3), some (.int (0 : Int32)), none] K (dk_of tX2_isKindBeside 1 rfl) rfl rfl (by decide) ?_
  exact b3 p1 p2 p3 200 (0 : Int32) hR
