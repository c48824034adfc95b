def sp_X10_thrown  (μ : St) : Option (Int32) := some (μ 0 28)
set_option maxHeartbeats 4000000 in
set_option maxRecDepth 100000 in
theorem ct_X10_thrown {l : Launch} (hl : l.stackTraces = false) {γ : Gd} {am : Nat → Nat} {μ : St} {r : va_W}  {x0 : Int32} (hR : some x0 = sp_X10_thrown μ) : Ct l γ yX10_thrown (Cond.code yX10_thrown cX10_thrown 1 (some .int)) ({ frames := 0, cells := 0, slots := 0, locals := 0 } : Room) [.ref (am 0)] (wM γ am μ ++ (r)) (Pr (some (.int x0)) (wM γ am μ ++ (r))) 0 0 := by
  refine Ct_of hl (by decide +kernel) rfl (Nat.le_of_ble_eq_true rfl) (L := [some (.ref (am 0))]) rfl ?_
  intro X Q K hQ
  generalize ((wM γ am μ ++ (r), Q) : MX) = M at K hQ ⊢
  unfold sp_X10_thrown at hR
  refine r_aload_n 0 0 K (dk_of tX10_thrown 0 rfl) rfl rfl ?_
  refine r_getf (C := RX10) (T := TX10) (N := 29) 1 0 28 K (dk_of tX10_thrown 1 rfl) w1056 gwX10 rfl rfl (by decide) rfl ?_
  exact r_iret 4 K hQ (dk_of tX10_thrown 2 rfl) (Nat.zero_le _) (Nat.zero_le _) (lfi0 hR)

def sp_X10_in (p1 : Int32) (p2 : Int32) (p3 : Int32)  : Option (Int32) := if p1 < p2 then (some (0 : Int32)) else (if p3 < p1 then (some (0 : Int32)) else (some (1 : Int32)))
set_option maxHeartbeats 4000000 in
set_option maxRecDepth 100000 in
theorem ct_X10_in {l : Launch} (hl : l.stackTraces = false) {γ : Gd}   {w : va_W} {p1 : Int32} {p2 : Int32} {p3 : Int32} {x0 : Int32} (hR : some x0 = sp_X10_in p1 p2 p3) : Ct l γ yX10_in (Cond.code yX10_in cX10_in 3 (some .boolean)) ({ frames := 0, cells := 0, slots := 0, locals := 0 } : Room) [.int p1, .int p2, .int p3] (w) (Pr (some (.int x0)) (w)) 0 0 := by
  refine Ct_of hl (by decide +kernel) rfl (Nat.le_of_ble_eq_true rfl) (L := [some (.int p1), some (.int p2), some (.int p3)]) rfl ?_
  intro X Q K hQ
  generalize ((w, Q) : MX) = M at K hQ ⊢
  unfold sp_X10_in at hR
  refine r_iload_n 0 0 K (dk_of tX10_in 0 rfl) rfl rfl ?_
  refine r_iload_n 1 1 K (dk_of tX10_in 1 rfl) rfl rfl ?_
  refine r_ic_lt 2 14 K (dk_of tX10_in 2 rfl) (by decide) hR (fun hR => ?_) (fun hR => ?_)
  · refine r_iconst 14 (0 : Int32) K (dk_of tX10_in 8 rfl) (by decide) ?_
    exact r_zret 15 K hQ (dk_of tX10_in 9 rfl) zb0 (Nat.zero_le _) (Nat.zero_le _) (lfi0 hR)
  · refine r_iload_n 5 0 K (dk_of tX10_in 3 rfl) rfl rfl ?_
    refine r_iload_n 6 2 K (dk_of tX10_in 4 rfl) rfl rfl ?_
    refine r_ic_gt 7 14 K (dk_of tX10_in 5 rfl) (by decide) hR (fun hR => ?_) (fun hR => ?_)
    · refine r_iconst 14 (0 : Int32) K (dk_of tX10_in 8 rfl) (by decide) ?_
      exact r_zret 15 K hQ (dk_of tX10_in 9 rfl) zb0 (Nat.zero_le _) (Nat.zero_le _) (lfi0 hR)
    · refine r_iconst 10 (1 : Int32) K (dk_of tX10_in 6 rfl) (by decide) ?_
      refine r_goto 11 15 K (dk_of tX10_in 7 rfl) (by decide) ?_
      exact r_zret 15 K hQ (dk_of tX10_in 9 rfl) zb1 (Nat.zero_le _) (Nat.zero_le _) (lfi0 hR)

def sp_X10_isCell (p1 : Int32)  : Option (Int32) := b1 (sp_X10_in p1 (0 : Int32) (23 : Int32)) (fun (x1 : Int32) => if x1 = 0 ∨ x1 = 1 then some x1 else none)
set_option maxHeartbeats 4000000 in
set_option maxRecDepth 100000 in
theorem ct_X10_isCell {l : Launch} (hl : l.stackTraces = false) {γ : Gd}   {w : va_W} {p1 : Int32} {x0 : Int32} (hR : some x0 = sp_X10_isCell p1) : Ct l γ yX10_isCell (Cond.code yX10_isCell cX10_isCell 1 (some .boolean)) ({ frames := 1, cells := 0, slots := 0, locals := 22 } : Room) [.int p1] (w) (Pr (some (.int x0)) (w)) 0 0 := by
  refine Ct_of hl (by decide +kernel) rfl (Nat.le_of_ble_eq_true rfl) (L := [some (.int p1)]) rfl ?_
  intro X Q K hQ
  generalize ((w, Q) : MX) = M at K hQ ⊢
  unfold sp_X10_isCell at hR
  refine r_iload_n 0 0 K (dk_of tX10_isCell 0 rfl) rfl rfl ?_
  refine r_iconst 1 (0 : Int32) K (dk_of tX10_isCell 1 rfl) (by decide) ?_
  refine r_bipush 2 (23 : Int32) K (dk_of tX10_isCell 2 rfl) (by decide) ?_
  obtain ⟨x1, hc, hR⟩ := o1 hR
  refine r_cSi 4 [.int p1, .int (0 : Int32), .int (23 : Int32)] [] x1 (w) K (ct_X10_in hl hc.symm) cs_X10_66 ⟨rfl, rfl, rfl⟩ (dk_of tX10_isCell 3 rfl) rfl rfl rfl rfl ?_
  exact r_zretR 7 K hQ (dk_of tX10_isCell 4 rfl) (Nat.zero_le _) (Nat.zero_le _) hR (fun hR => lfi0 hR)

def sp_X10_fails_10  (y1 : Int32) (y2 : Int32) (μ3 : St) : Option (Int32 × St) := sl (stU μ3 0 28 y2) (fun μ4 : St => if y1 = 0 then (some ((1 : Int32), μ4)) else (some ((0 : Int32), μ4)))
def sp_X10_fails (p1 : Int32) (p2 : Int32) (μ : St) : Option (Int32 × St) := if p1 = 0 then (sp_X10_fails_10 p1 p2 μ) else (sp_X10_fails_10 p1 (0 : Int32) μ)
set_option maxHeartbeats 4000000 in
set_option maxRecDepth 100000 in
theorem ct_X10_fails {l : Launch} (hl : l.stackTraces = false) {γ : Gd} {am : Nat → Nat} {μ : St} {r : va_W} {p1 : Int32} {p2 : Int32} {x0 : Int32} {μ0 : St} (hR : some (x0, μ0) = sp_X10_fails p1 p2 μ) : Ct l γ yX10_fails (Cond.code yX10_fails cX10_fails 3 (some .boolean)) ({ frames := 0, cells := 0, slots := 0, locals := 0 } : Room) [.ref (am 0), .int p1, .int p2] (wM γ am μ ++ (r)) (Pr (some (.int x0)) (wM γ am μ0 ++ (r))) 0 0 := by
  refine Ct_of hl (by decide +kernel) rfl (Nat.le_of_ble_eq_true rfl) (L := [some (.ref (am 0)), some (.int p1), some (.int p2)]) rfl ?_
  intro X Q K hQ
  generalize ((wM γ am μ ++ (r), Q) : MX) = M at K hQ ⊢
  unfold sp_X10_fails at hR
  have b10 : ∀ (y1 : Int32) (y2 : Int32) (μ3 : St), some (x0, μ0) = sp_X10_fails_10  y1 y2 μ3 → V l γ X M (wM γ am μ3 ++ (r)) [none, some (.int y1), none] 0 0 10 [.int y2, .ref (am 0)] := by
    intro  y1 y2 μ3 hR
    unfold sp_X10_fails_10 at hR
    refine r_putf (C := RX10) (T := TX10) (N := 29) 10 0 28 K (dk_of tX10_fails 6 rfl) w1056 gwX10 tyX10_ok nmX10 rfl rfl (by decide) rfl rfl rfl rfl (Nat.le_of_ble_eq_true rfl) sM_0_28 ?_
    refine r_nmS (fun μ4 : St => wM γ am μ4 ++ (r)) hR (fun μ4 hR => ?_)
    refine r_iload_n 13 1 K (dk_of tX10_fails 7 rfl) rfl rfl ?_
    refine r_if_ne 14 21 K (dk_of tX10_fails 8 rfl) (by decide) hR (fun hR => ?_) (fun hR => ?_)
    · refine r_iconst 17 (1 : Int32) K (dk_of tX10_fails 9 rfl) (by decide) ?_
      refine r_goto 18 22 K (dk_of tX10_fails 10 rfl) (by decide) ?_
      exact r_zret 22 K hQ (dk_of tX10_fails 12 rfl) zb1 (Nat.zero_le _) (Nat.zero_le _) (lfi (fun u9 : St => wM γ am u9 ++ (r)) hR)
    · refine r_iconst 21 (0 : Int32) K (dk_of tX10_fails 11 rfl) (by decide) ?_
      exact r_zret 22 K hQ (dk_of tX10_fails 12 rfl) zb0 (Nat.zero_le _) (Nat.zero_le _) (lfi (fun u9 : St => wM γ am u9 ++ (r)) hR)
  refine r_aload_n 0 0 K (dk_of tX10_fails 0 rfl) rfl rfl ?_
  refine r_iload_n 1 1 K (dk_of tX10_fails 1 rfl) rfl rfl ?_
  refine r_if_eq 2 9 K (dk_of tX10_fails 2 rfl) (by decide) hR (fun hR => ?_) (fun hR => ?_)
  · refine r_iload_n 9 2 K (dk_of tX10_fails 5 rfl) rfl rfl ?_
    exact r_msk [false, true, false] [none, some (.int p1), none] rfl (b10 p1 p2 μ hR)
  · refine r_iconst 5 (0 : Int32) K (dk_of tX10_fails 3 rfl) (by decide) ?_
    refine r_goto 6 10 K (dk_of tX10_fails 4 rfl) (by decide) ?_
    exact r_msk [false, true, false] [none, some (.int p1), none] rfl (b10 p1 (0 : Int32) μ hR)

def sp_X10_shore_87 (y12 : Int32) (y13 : Int32) : Nat → Int32 → Int32 → St → Option (Int32 × St)
  | 0, _, _, _ => none
  | n + 1, y14, y15, μ16 => if (μ16 0 10) ≤ y15 then (b2 (sp_X10_fails y14 (3 : Int32) μ16) (fun (x17 : Int32) (μ18 : St) => if x17 = 0 then (if y12 < 0 ∨ 24 ≤ y12.toNatClampNeg then none else (sl ((μ18 3 y12.toNatClampNeg)) (fun x19 : Int32 => if y12 < 0 ∨ 24 ≤ y12.toNatClampNeg then none else (sl (stU μ18 3 y12.toNatClampNeg y13) (fun μ20 : St => if y12 < 0 ∨ 24 ≤ y12.toNatClampNeg then none else (sl (stU μ20 4 y12.toNatClampNeg (20 : Int32)) (fun μ21 : St => if ((72 : Int32) + y12) < 0 ∨ 174 ≤ ((72 : Int32) + y12).toNatClampNeg then none else (sl (stU μ21 1 ((72 : Int32) + y12).toNatClampNeg (0 : Int32)) (fun μ22 : St => if ((96 : Int32) + y12) < 0 ∨ 174 ≤ ((96 : Int32) + y12).toNatClampNeg then none else (sl (stU μ22 1 ((96 : Int32) + y12).toNatClampNeg (0 : Int32)) (fun μ23 : St => if ((120 : Int32) + y12) < 0 ∨ 174 ≤ ((120 : Int32) + y12).toNatClampNeg then none else (sl (stU μ23 1 ((120 : Int32) + y12).toNatClampNeg (0 : Int32)) (fun μ24 : St => some (x19, μ24)))))))))))))) else (some ((0 : Int32), μ18)))) else (if y15 < 0 ∨ 20 ≤ y15.toNatClampNeg then none else (if (μ16 8 y15.toNatClampNeg) = (1 : Int32) then (if y15 < 0 ∨ 20 ≤ y15.toNatClampNeg then none else (if (μ16 9 y15.toNatClampNeg) = y12 then (sl ((y14 &&& (0 : Int32))) (fun x25 : Int32 => sp_X10_shore_87 y12 y13 n x25 (y15 + 1) μ16)) else (sl ((y14 &&& (1 : Int32))) (fun x26 : Int32 => sp_X10_shore_87 y12 y13 n x26 (y15 + 1) μ16)))) else (sl ((y14 &&& (1 : Int32))) (fun x27 : Int32 => sp_X10_shore_87 y12 y13 n x27 (y15 + 1) μ16))))
def sp_X10_shore_50 (y7 : Int32) (y8 : Int32) : Nat → Int32 → Int32 → St → Option (Int32 × St)
  | 0, _, _, _ => none
  | n + 1, y9, y10, μ11 => if (μ11 0 7) ≤ y10 then (sp_X10_shore_87 y7 y8 200 y9 (0 : Int32) μ11) else (if y10 < 0 ∨ 4 ≤ y10.toNatClampNeg then none else (if (μ11 6 y10.toNatClampNeg) = y7 then (sl ((y9 &&& (0 : Int32))) (fun x28 : Int32 => sp_X10_shore_50 y7 y8 n x28 (y10 + 1) μ11)) else (sl ((y9 &&& (1 : Int32))) (fun x29 : Int32 => sp_X10_shore_50 y7 y8 n x29 (y10 + 1) μ11))))
def sp_X10_shore (p1 : Int32) (p2 : Int32) (μ : St) : Option (Int32 × St) := b1 (sp_X10_isCell p1) (fun (x1 : Int32) => b2 (sp_X10_fails x1 (1 : Int32) μ) (fun (x2 : Int32) (μ3 : St) => if x2 = 0 then (b1 (sp_X10_in p2 (0 : Int32) (3 : Int32)) (fun (x4 : Int32) => b2 (sp_X10_fails x4 (2 : Int32) μ3) (fun (x5 : Int32) (μ6 : St) => if x5 = 0 then (if (μ6 1 (168 : Int32).toNatClampNeg) = 0 then (sp_X10_shore_50 p1 p2 200 (1 : Int32) (0 : Int32) μ6) else (sp_X10_shore_50 p1 p2 200 (0 : Int32) (0 : Int32) μ6)) else (some ((0 : Int32), μ6))))) else (some ((0 : Int32), μ3))))
set_option maxHeartbeats 4000000 in
set_option maxRecDepth 100000 in
theorem ct_X10_shore {l : Launch} (hl : l.stackTraces = false) {γ : Gd} {am : Nat → Nat} {μ : St} {r : va_W} {p1 : Int32} {p2 : Int32} {x0 : Int32} {μ0 : St} (hR : some (x0, μ0) = sp_X10_shore p1 p2 μ) : Ct l γ yX10_shore (Cond.code yX10_shore cX10_shore 5 (some .int)) ({ frames := 2, cells := 0, slots := 0, locals := 42 } : Room) [.ref (am 0), .int p1, .int p2] (wM γ am μ ++ (r)) (Pr (some (.int x0)) (wM γ am μ0 ++ (r))) 0 0 := by
  refine Ct_of hl (by decide +kernel) rfl (Nat.le_of_ble_eq_true rfl) (L := [some (.ref (am 0)), some (.int p1), some (.int p2), none, none]) rfl ?_
  intro X Q K hQ
  generalize ((wM γ am μ ++ (r), Q) : MX) = M at K hQ ⊢
  unfold sp_X10_shore at hR
  have b87 : ∀ (y12 : Int32) (y13 : Int32) (n : Nat) (y14 : Int32) (y15 : Int32) (μ16 : St), some (x0, μ0) = sp_X10_shore_87 y12 y13 n y14 y15 μ16 → V l γ X M (wM γ am μ16 ++ (r)) [some (.ref (am 0)), some (.int y12), some (.int y13), some (.int y14), some (.int y15)] 0 0 87 [] := by
    intro y12 y13 n
    induction n with
    | zero => intro y14 y15 μ16 hR; exact nn_ hR
    | succ n ih87 =>
      intro y14 y15 μ16 hR
      rw [sp_X10_shore_87] at hR
      refine r_iload 87 4 K (dk_of tX10_shore_0 49 rfl) rfl ?_
      refine r_aload_n 89 0 K (dk_of tX10_shore_0 50 rfl) rfl rfl ?_
      refine r_getf (C := RX10) (T := TX10) (N := 29) 90 0 10 K (dk_of tX10_shore_0 51 rfl) w1038 gwX10 rfl rfl (by decide) rfl ?_
      refine r_ic_ge 93 132 K (dk_of tX10_shore_0 52 rfl) (by decide) hR (fun hR => ?_) (fun hR => ?_)
      · refine r_aload_n 132 0 K (dk_of tX10_shore_0 73 rfl) rfl rfl ?_
        refine r_iload_n 133 3 K (dk_of tX10_shore_0 74 rfl) rfl rfl ?_
        refine r_iconst 134 (3 : Int32) K (dk_of tX10_shore_0 75 rfl) (by decide) ?_
        obtain ⟨x17, μ18, hc, hR⟩ := o2 hR
        refine r_cVi 135 0 [.int y14, .int (3 : Int32)] [] x17 (wM γ am μ18 ++ (r)) K (ct_X10_fails hl hc.symm) cs_X10_131 ⟨rfl, rfl, rfl⟩ (dk_of tX10_shore_0 76 rfl) rfl rfl rfl rfl rfl rfl ?_
        refine r_if_eq 138 143 K (dk_of tX10_shore_0 77 rfl) (by decide) hR (fun hR => ?_) (fun hR => ?_)
        · refine r_aload_n 143 0 K (dk_of tX10_shore_0 80 rfl) rfl rfl ?_
          refine r_getf (C := RX10) (T := TX10) (N := 29) 144 0 2 K (dk_of tX10_shore_0 81 rfl) w1030 gwX10 rfl rfl (by decide) rfl ?_
          refine r_iload_n 147 1 K (dk_of tX10_shore_0 82 rfl) rfl rfl ?_
          refine r_ialdR 148 3 K (dk_of tX10_shore_0 83 rfl) rfl hR (fun hR => ?_)
          refine r_nmI hR (fun x19 hR => ?_)
          refine r_istore 149 4 [some (.ref (am 0)), some (.int y12), some (.int y13), some (.int y14), some (.int x19)] K (dk_of tX10_shore_0 84 rfl) rfl rfl (by decide) ?_
          refine r_aload_n 151 0 K (dk_of tX10_shore_0 85 rfl) rfl rfl ?_
          refine r_getf (C := RX10) (T := TX10) (N := 29) 152 0 2 K (dk_of tX10_shore_0 86 rfl) w1030 gwX10 rfl rfl (by decide) rfl ?_
          refine r_iload_n 155 1 K (dk_of tX10_shore_0 87 rfl) rfl rfl ?_
          refine r_iload_n 156 2 K (dk_of tX10_shore_0 88 rfl) rfl rfl ?_
          refine r_iastR 157 3 K (dk_of tX10_shore_0 89 rfl) rfl sM_3 hR (fun hR => ?_)
          refine r_nmS (fun μ20 : St => wM γ am μ20 ++ (r)) hR (fun μ20 hR => ?_)
          refine r_aload_n 158 0 K (dk_of tX10_shore_0 90 rfl) rfl rfl ?_
          refine r_getf (C := RX10) (T := TX10) (N := 29) 159 0 3 K (dk_of tX10_shore_0 91 rfl) w1031 gwX10 rfl rfl (by decide) rfl ?_
          refine r_iload_n 162 1 K (dk_of tX10_shore_0 92 rfl) rfl rfl ?_
          refine r_bipush 163 (20 : Int32) K (dk_of tX10_shore_0 93 rfl) (by decide) ?_
          refine r_iastR 165 4 K (dk_of tX10_shore_0 94 rfl) rfl sM_4 hR (fun hR => ?_)
          refine r_nmS (fun μ21 : St => wM γ am μ21 ++ (r)) hR (fun μ21 hR => ?_)
          refine r_aload_n 166 0 K (dk_of tX10_shore_0 95 rfl) rfl rfl ?_
          refine r_getf (C := RX10) (T := TX10) (N := 29) 167 0 0 K (dk_of tX10_shore_0 96 rfl) w1028 gwX10 rfl rfl (by decide) rfl ?_
          refine r_bipush 170 (72 : Int32) K (dk_of tX10_shore_0 97 rfl) (by decide) ?_
          refine r_iload_n 172 1 K (dk_of tX10_shore_0 98 rfl) rfl rfl ?_
          refine r_iadd 173 K (dk_of tX10_shore_0 99 rfl) ?_
          refine r_iconst 174 (0 : Int32) K (dk_of tX10_shore_1 0 rfl) (by decide) ?_
          refine r_iastR 175 1 K (dk_of tX10_shore_1 1 rfl) rfl sM_1 hR (fun hR => ?_)
          refine r_nmS (fun μ22 : St => wM γ am μ22 ++ (r)) hR (fun μ22 hR => ?_)
          refine r_aload_n 176 0 K (dk_of tX10_shore_1 2 rfl) rfl rfl ?_
          refine r_getf (C := RX10) (T := TX10) (N := 29) 177 0 0 K (dk_of tX10_shore_1 3 rfl) w1028 gwX10 rfl rfl (by decide) rfl ?_
          refine r_bipush 180 (96 : Int32) K (dk_of tX10_shore_1 4 rfl) (by decide) ?_
          refine r_iload_n 182 1 K (dk_of tX10_shore_1 5 rfl) rfl rfl ?_
          refine r_iadd 183 K (dk_of tX10_shore_1 6 rfl) ?_
          refine r_iconst 184 (0 : Int32) K (dk_of tX10_shore_1 7 rfl) (by decide) ?_
          refine r_iastR 185 1 K (dk_of tX10_shore_1 8 rfl) rfl sM_1 hR (fun hR => ?_)
          refine r_nmS (fun μ23 : St => wM γ am μ23 ++ (r)) hR (fun μ23 hR => ?_)
          refine r_aload_n 186 0 K (dk_of tX10_shore_1 9 rfl) rfl rfl ?_
          refine r_getf (C := RX10) (T := TX10) (N := 29) 187 0 0 K (dk_of tX10_shore_1 10 rfl) w1028 gwX10 rfl rfl (by decide) rfl ?_
          refine r_bipush 190 (120 : Int32) K (dk_of tX10_shore_1 11 rfl) (by decide) ?_
          refine r_iload_n 192 1 K (dk_of tX10_shore_1 12 rfl) rfl rfl ?_
          refine r_iadd 193 K (dk_of tX10_shore_1 13 rfl) ?_
          refine r_iconst 194 (0 : Int32) K (dk_of tX10_shore_1 14 rfl) (by decide) ?_
          refine r_iastR 195 1 K (dk_of tX10_shore_1 15 rfl) rfl sM_1 hR (fun hR => ?_)
          refine r_nmS (fun μ24 : St => wM γ am μ24 ++ (r)) hR (fun μ24 hR => ?_)
          refine r_iload 196 4 K (dk_of tX10_shore_1 16 rfl) rfl ?_
          exact r_iret 198 K hQ (dk_of tX10_shore_1 17 rfl) (Nat.zero_le _) (Nat.zero_le _) (lfi (fun u9 : St => wM γ am u9 ++ (r)) hR)
        · refine r_iconst 141 (0 : Int32) K (dk_of tX10_shore_0 78 rfl) (by decide) ?_
          exact r_iret 142 K hQ (dk_of tX10_shore_0 79 rfl) (Nat.zero_le _) (Nat.zero_le _) (lfi (fun u9 : St => wM γ am u9 ++ (r)) hR)
      · refine r_iload_n 96 3 K (dk_of tX10_shore_0 53 rfl) rfl rfl ?_
        refine r_aload_n 97 0 K (dk_of tX10_shore_0 54 rfl) rfl rfl ?_
        refine r_getf (C := RX10) (T := TX10) (N := 29) 98 0 11 K (dk_of tX10_shore_0 55 rfl) w1039 gwX10 rfl rfl (by decide) rfl ?_
        refine r_iload 101 4 K (dk_of tX10_shore_0 56 rfl) rfl ?_
        refine r_ialdR 103 8 K (dk_of tX10_shore_0 57 rfl) rfl hR (fun hR => ?_)
        refine r_iconst 104 (1 : Int32) K (dk_of tX10_shore_0 58 rfl) (by decide) ?_
        refine r_ic_ne 105 119 K (dk_of tX10_shore_0 59 rfl) (by decide) hR (fun hR => ?_) (fun hR => ?_)
        · refine r_aload_n 108 0 K (dk_of tX10_shore_0 60 rfl) rfl rfl ?_
          refine r_getf (C := RX10) (T := TX10) (N := 29) 109 0 12 K (dk_of tX10_shore_0 61 rfl) w1040 gwX10 rfl rfl (by decide) rfl ?_
          refine r_iload 112 4 K (dk_of tX10_shore_0 62 rfl) rfl ?_
          refine r_ialdR 114 9 K (dk_of tX10_shore_0 63 rfl) rfl hR (fun hR => ?_)
          refine r_iload_n 115 1 K (dk_of tX10_shore_0 64 rfl) rfl rfl ?_
          refine r_ic_eq 116 123 K (dk_of tX10_shore_0 65 rfl) (by decide) hR (fun hR => ?_) (fun hR => ?_)
          · refine r_iconst 123 (0 : Int32) K (dk_of tX10_shore_0 68 rfl) (by decide) ?_
            refine r_iand 124 K (dk_of tX10_shore_0 69 rfl) ?_
            refine r_nmI hR (fun x25 hR => ?_)
            refine r_istore_n 125 3 [some (.ref (am 0)), some (.int y12), some (.int y13), some (.int x25), some (.int y15)] K (dk_of tX10_shore_0 70 rfl) rfl rfl rfl (by decide) ?_
            refine r_iinc 126 4 (y15 + 1) [some (.ref (am 0)), some (.int y12), some (.int y13), some (.int x25), some (.int (y15 + 1))] K (dk_of tX10_shore_0 71 rfl) rfl rfl rfl rfl (by decide) ?_
            refine r_goto 129 87 K (dk_of tX10_shore_0 72 rfl) (by decide) ?_
            exact ih87 x25 (y15 + 1) μ16 hR
          · refine r_iconst 119 (1 : Int32) K (dk_of tX10_shore_0 66 rfl) (by decide) ?_
            refine r_goto 120 124 K (dk_of tX10_shore_0 67 rfl) (by decide) ?_
            refine r_iand 124 K (dk_of tX10_shore_0 69 rfl) ?_
            refine r_nmI hR (fun x26 hR => ?_)
            refine r_istore_n 125 3 [some (.ref (am 0)), some (.int y12), some (.int y13), some (.int x26), some (.int y15)] K (dk_of tX10_shore_0 70 rfl) rfl rfl rfl (by decide) ?_
            refine r_iinc 126 4 (y15 + 1) [some (.ref (am 0)), some (.int y12), some (.int y13), some (.int x26), some (.int (y15 + 1))] K (dk_of tX10_shore_0 71 rfl) rfl rfl rfl rfl (by decide) ?_
            refine r_goto 129 87 K (dk_of tX10_shore_0 72 rfl) (by decide) ?_
            exact ih87 x26 (y15 + 1) μ16 hR
        · refine r_iconst 119 (1 : Int32) K (dk_of tX10_shore_0 66 rfl) (by decide) ?_
          refine r_goto 120 124 K (dk_of tX10_shore_0 67 rfl) (by decide) ?_
          refine r_iand 124 K (dk_of tX10_shore_0 69 rfl) ?_
          refine r_nmI hR (fun x27 hR => ?_)
          refine r_istore_n 125 3 [some (.ref (am 0)), some (.int y12), some (.int y13), some (.int x27), some (.int y15)] K (dk_of tX10_shore_0 70 rfl) rfl rfl rfl (by decide) ?_
          refine r_iinc 126 4 (y15 + 1) [some (.ref (am 0)), some (.int y12), some (.int y13), some (.int x27), some (.int (y15 + 1))] K (dk_of tX10_shore_0 71 rfl) rfl rfl rfl rfl (by decide) ?_
          refine r_goto 129 87 K (dk_of tX10_shore_0 72 rfl) (by decide) ?_
          exact ih87 x27 (y15 + 1) μ16 hR
  have b50 : ∀ (y7 : Int32) (y8 : Int32) (n : Nat) (y9 : Int32) (y10 : Int32) (μ11 : St), some (x0, μ0) = sp_X10_shore_50 y7 y8 n y9 y10 μ11 → V l γ X M (wM γ am μ11 ++ (r)) [some (.ref (am 0)), some (.int y7), some (.int y8), some (.int y9), some (.int y10)] 0 0 50 [] := by
    intro y7 y8 n
    induction n with
    | zero => intro y9 y10 μ11 hR; exact nn_ hR
    | succ n ih50 =>
      intro y9 y10 μ11 hR
      rw [sp_X10_shore_50] at hR
      refine r_iload 50 4 K (dk_of tX10_shore_0 29 rfl) rfl ?_
      refine r_aload_n 52 0 K (dk_of tX10_shore_0 30 rfl) rfl rfl ?_
      refine r_getf (C := RX10) (T := TX10) (N := 29) 53 0 7 K (dk_of tX10_shore_0 31 rfl) w1035 gwX10 rfl rfl (by decide) rfl ?_
      refine r_ic_ge 56 84 K (dk_of tX10_shore_0 32 rfl) (by decide) hR (fun hR => ?_) (fun hR => ?_)
      · refine r_iconst 84 (0 : Int32) K (dk_of tX10_shore_0 47 rfl) (by decide) ?_
        refine r_istore 85 4 [some (.ref (am 0)), some (.int y7), some (.int y8), some (.int y9), some (.int (0 : Int32))] K (dk_of tX10_shore_0 48 rfl) rfl rfl (by decide) ?_
        exact b87 y7 y8 200 y9 (0 : Int32) μ11 hR
      · refine r_iload_n 59 3 K (dk_of tX10_shore_0 33 rfl) rfl rfl ?_
        refine r_aload_n 60 0 K (dk_of tX10_shore_0 34 rfl) rfl rfl ?_
        refine r_getf (C := RX10) (T := TX10) (N := 29) 61 0 8 K (dk_of tX10_shore_0 35 rfl) w1036 gwX10 rfl rfl (by decide) rfl ?_
        refine r_iload 64 4 K (dk_of tX10_shore_0 36 rfl) rfl ?_
        refine r_ialdR 66 6 K (dk_of tX10_shore_0 37 rfl) rfl hR (fun hR => ?_)
        refine r_iload_n 67 1 K (dk_of tX10_shore_0 38 rfl) rfl rfl ?_
        refine r_ic_eq 68 75 K (dk_of tX10_shore_0 39 rfl) (by decide) hR (fun hR => ?_) (fun hR => ?_)
        · refine r_iconst 75 (0 : Int32) K (dk_of tX10_shore_0 42 rfl) (by decide) ?_
          refine r_iand 76 K (dk_of tX10_shore_0 43 rfl) ?_
          refine r_nmI hR (fun x28 hR => ?_)
          refine r_istore_n 77 3 [some (.ref (am 0)), some (.int y7), some (.int y8), some (.int x28), some (.int y10)] K (dk_of tX10_shore_0 44 rfl) rfl rfl rfl (by decide) ?_
          refine r_iinc 78 4 (y10 + 1) [some (.ref (am 0)), some (.int y7), some (.int y8), some (.int x28), some (.int (y10 + 1))] K (dk_of tX10_shore_0 45 rfl) rfl rfl rfl rfl (by decide) ?_
          refine r_goto 81 50 K (dk_of tX10_shore_0 46 rfl) (by decide) ?_
          exact ih50 x28 (y10 + 1) μ11 hR
        · refine r_iconst 71 (1 : Int32) K (dk_of tX10_shore_0 40 rfl) (by decide) ?_
          refine r_goto 72 76 K (dk_of tX10_shore_0 41 rfl) (by decide) ?_
          refine r_iand 76 K (dk_of tX10_shore_0 43 rfl) ?_
          refine r_nmI hR (fun x29 hR => ?_)
          refine r_istore_n 77 3 [some (.ref (am 0)), some (.int y7), some (.int y8), some (.int x29), some (.int y10)] K (dk_of tX10_shore_0 44 rfl) rfl rfl rfl (by decide) ?_
          refine r_iinc 78 4 (y10 + 1) [some (.ref (am 0)), some (.int y7), some (.int y8), some (.int x29), some (.int (y10 + 1))] K (dk_of tX10_shore_0 45 rfl) rfl rfl rfl rfl (by decide) ?_
          refine r_goto 81 50 K (dk_of tX10_shore_0 46 rfl) (by decide) ?_
          exact ih50 x29 (y10 + 1) μ11 hR
  refine r_aload_n 0 0 K (dk_of tX10_shore_0 0 rfl) rfl rfl ?_
  refine r_iload_n 1 1 K (dk_of tX10_shore_0 1 rfl) rfl rfl ?_
  obtain ⟨x1, hc, hR⟩ := o1 hR
  refine r_cSi 2 [.int p1] [.ref (am 0)] x1 (wM γ am μ ++ (r)) K (ct_X10_isCell hl hc.symm) cs_X10_76 ⟨rfl, rfl, rfl⟩ (dk_of tX10_shore_0 2 rfl) rfl rfl rfl rfl ?_
  refine r_iconst 5 (1 : Int32) K (dk_of tX10_shore_0 3 rfl) (by decide) ?_
  obtain ⟨x2, μ3, hc, hR⟩ := o2 hR
  refine r_cVi 6 0 [.int x1, .int (1 : Int32)] [] x2 (wM γ am μ3 ++ (r)) K (ct_X10_fails hl hc.symm) cs_X10_131 ⟨rfl, rfl, rfl⟩ (dk_of tX10_shore_0 4 rfl) rfl rfl rfl rfl rfl rfl ?_
  refine r_if_eq 9 14 K (dk_of tX10_shore_0 5 rfl) (by decide) hR (fun hR => ?_) (fun hR => ?_)
  · refine r_aload_n 14 0 K (dk_of tX10_shore_0 8 rfl) rfl rfl ?_
    refine r_iload_n 15 2 K (dk_of tX10_shore_0 9 rfl) rfl rfl ?_
    refine r_iconst 16 (0 : Int32) K (dk_of tX10_shore_0 10 rfl) (by decide) ?_
    refine r_iconst 17 (3 : Int32) K (dk_of tX10_shore_0 11 rfl) (by decide) ?_
    obtain ⟨x4, hc, hR⟩ := o1 hR
    refine r_cSi 18 [.int p2, .int (0 : Int32), .int (3 : Int32)] [.ref (am 0)] x4 (wM γ am μ3 ++ (r)) K (ct_X10_in hl hc.symm) cs_X10_66 ⟨rfl, rfl, rfl⟩ (dk_of tX10_shore_0 12 rfl) rfl rfl rfl rfl ?_
    refine r_iconst 21 (2 : Int32) K (dk_of tX10_shore_0 13 rfl) (by decide) ?_
    obtain ⟨x5, μ6, hc, hR⟩ := o2 hR
    refine r_cVi 22 0 [.int x4, .int (2 : Int32)] [] x5 (wM γ am μ6 ++ (r)) K (ct_X10_fails hl hc.symm) cs_X10_131 ⟨rfl, rfl, rfl⟩ (dk_of tX10_shore_0 14 rfl) rfl rfl rfl rfl rfl rfl ?_
    refine r_if_eq 25 30 K (dk_of tX10_shore_0 15 rfl) (by decide) hR (fun hR => ?_) (fun hR => ?_)
    · refine r_aload_n 30 0 K (dk_of tX10_shore_0 18 rfl) rfl rfl ?_
      refine r_getf (C := RX10) (T := TX10) (N := 29) 31 0 0 K (dk_of tX10_shore_0 19 rfl) w1028 gwX10 rfl rfl (by decide) rfl ?_
      refine r_sipush 34 (168 : Int32) K (dk_of tX10_shore_0 20 rfl) (by decide) ?_
      refine r_iald 37 1 K (dk_of tX10_shore_0 21 rfl) rfl (vpd (by decide)) ?_
      refine r_if_ne 38 45 K (dk_of tX10_shore_0 22 rfl) (by decide) hR (fun hR => ?_) (fun hR => ?_)
      · refine r_iconst 41 (1 : Int32) K (dk_of tX10_shore_0 23 rfl) (by decide) ?_
        refine r_goto 42 46 K (dk_of tX10_shore_0 24 rfl) (by decide) ?_
        refine r_istore_n 46 3 [some (.ref (am 0)), some (.int p1), some (.int p2), some (.int (1 : Int32)), none] K (dk_of tX10_shore_0 26 rfl) rfl rfl rfl (by decide) ?_
        refine r_iconst 47 (0 : Int32) K (dk_of tX10_shore_0 27 rfl) (by decide) ?_
        refine r_istore 48 4 [some (.ref (am 0)), some (.int p1), some (.int p2), some (.int (1 : Int32)), some (.int (0 : Int32))] K (dk_of tX10_shore_0 28 rfl) rfl rfl (by decide) ?_
        exact b50 p1 p2 200 (1 : Int32) (0 : Int32) μ6 hR
      · refine r_iconst 45 (0 : Int32) K (dk_of tX10_shore_0 25 rfl) (by decide) ?_
        refine r_istore_n 46 3 [some (.ref (am 0)), some (.int p1), some (.int p2), some (.int (0 : Int32)), none] K (dk_of tX10_shore_0 26 rfl) rfl rfl rfl (by decide) ?_
        refine r_iconst 47 (0 : Int32) K (dk_of tX10_shore_0 27 rfl) (by decide) ?_
        refine r_istore 48 4 [some (.ref (am 0)), some (.int p1), some (.int p2), some (.int (0 : Int32)), some (.int (0 : Int32))] K (dk_of tX10_shore_0 28 rfl) rfl rfl (by decide) ?_
        exact b50 p1 p2 200 (0 : Int32) (0 : Int32) μ6 hR
    · refine r_iconst 28 (0 : Int32) K (dk_of tX10_shore_0 16 rfl) (by decide) ?_
      exact r_iret 29 K hQ (dk_of tX10_shore_0 17 rfl) (Nat.zero_le _) (Nat.zero_le _) (lfi (fun u9 : St => wM γ am u9 ++ (r)) hR)
  · refine r_iconst 12 (0 : Int32) K (dk_of tX10_shore_0 6 rfl) (by decide) ?_
    exact r_iret 13 K hQ (dk_of tX10_shore_0 7 rfl) (Nat.zero_le _) (Nat.zero_le _) (lfi (fun u9 : St => wM γ am u9 ++ (r)) hR)

def sp_X10_depth_46  (y7 : Int32) (y8 : Int32) (y9 : Int32) (μ10 : St) : Option (Int32 × St) := b2 (sp_X10_fails y9 (3 : Int32) μ10) (fun (x11 : Int32) (μ12 : St) => if x11 = 0 then (if y7 < 0 ∨ 24 ≤ y7.toNatClampNeg then none else (sl ((μ12 4 y7.toNatClampNeg)) (fun x13 : Int32 => if y7 < 0 ∨ 24 ≤ y7.toNatClampNeg then none else (sl (stU μ12 4 y7.toNatClampNeg y8) (fun μ14 : St => some (x13, μ14)))))) else (some ((0 : Int32), μ12)))
def sp_X10_depth (p1 : Int32) (p2 : Int32) (μ : St) : Option (Int32 × St) := b1 (sp_X10_isCell p1) (fun (x1 : Int32) => b2 (sp_X10_fails x1 (1 : Int32) μ) (fun (x2 : Int32) (μ3 : St) => if x2 = 0 then (b1 (sp_X10_in p2 (1 : Int32) (99 : Int32)) (fun (x4 : Int32) => b2 (sp_X10_fails x4 (2 : Int32) μ3) (fun (x5 : Int32) (μ6 : St) => if x5 = 0 then (if p1 < 0 ∨ 24 ≤ p1.toNatClampNeg then none else (if (μ6 3 p1.toNatClampNeg) = 0 then (sp_X10_depth_46 p1 p2 (1 : Int32) μ6) else (sp_X10_depth_46 p1 p2 (0 : Int32) μ6))) else (some ((0 : Int32), μ6))))) else (some ((0 : Int32), μ3))))
set_option maxHeartbeats 4000000 in
set_option maxRecDepth 100000 in
theorem ct_X10_depth {l : Launch} (hl : l.stackTraces = false) {γ : Gd} {am : Nat → Nat} {μ : St} {r : va_W} {p1 : Int32} {p2 : Int32} {x0 : Int32} {μ0 : St} (hR : some (x0, μ0) = sp_X10_depth p1 p2 μ) : Ct l γ yX10_depth (Cond.code yX10_depth cX10_depth 4 (some .int)) ({ frames := 2, cells := 0, slots := 0, locals := 42 } : Room) [.ref (am 0), .int p1, .int p2] (wM γ am μ ++ (r)) (Pr (some (.int x0)) (wM γ am μ0 ++ (r))) 0 0 := by
  refine Ct_of hl (by decide +kernel) rfl (Nat.le_of_ble_eq_true rfl) (L := [some (.ref (am 0)), some (.int p1), some (.int p2), none]) rfl ?_
  intro X Q K hQ
  generalize ((wM γ am μ ++ (r), Q) : MX) = M at K hQ ⊢
  unfold sp_X10_depth at hR
  have b46 : ∀ (y7 : Int32) (y8 : Int32) (y9 : Int32) (μ10 : St), some (x0, μ0) = sp_X10_depth_46  y7 y8 y9 μ10 → V l γ X M (wM γ am μ10 ++ (r)) [some (.ref (am 0)), some (.int y7), some (.int y8), none] 0 0 46 [.int y9, .ref (am 0)] := by
    intro  y7 y8 y9 μ10 hR
    unfold sp_X10_depth_46 at hR
    refine r_iconst 46 (3 : Int32) K (dk_of tX10_depth 27 rfl) (by decide) ?_
    obtain ⟨x11, μ12, hc, hR⟩ := o2 hR
    refine r_cVi 47 0 [.int y9, .int (3 : Int32)] [] x11 (wM γ am μ12 ++ (r)) K (ct_X10_fails hl hc.symm) cs_X10_131 ⟨rfl, rfl, rfl⟩ (dk_of tX10_depth 28 rfl) rfl rfl rfl rfl rfl rfl ?_
    refine r_if_eq 50 55 K (dk_of tX10_depth 29 rfl) (by decide) hR (fun hR => ?_) (fun hR => ?_)
    · refine r_aload_n 55 0 K (dk_of tX10_depth 32 rfl) rfl rfl ?_
      refine r_getf (C := RX10) (T := TX10) (N := 29) 56 0 3 K (dk_of tX10_depth 33 rfl) w1031 gwX10 rfl rfl (by decide) rfl ?_
      refine r_iload_n 59 1 K (dk_of tX10_depth 34 rfl) rfl rfl ?_
      refine r_ialdR 60 4 K (dk_of tX10_depth 35 rfl) rfl hR (fun hR => ?_)
      refine r_nmI hR (fun x13 hR => ?_)
      refine r_istore_n 61 3 [some (.ref (am 0)), some (.int y7), some (.int y8), some (.int x13)] K (dk_of tX10_depth 36 rfl) rfl rfl rfl (by decide) ?_
      refine r_aload_n 62 0 K (dk_of tX10_depth 37 rfl) rfl rfl ?_
      refine r_getf (C := RX10) (T := TX10) (N := 29) 63 0 3 K (dk_of tX10_depth 38 rfl) w1031 gwX10 rfl rfl (by decide) rfl ?_
      refine r_iload_n 66 1 K (dk_of tX10_depth 39 rfl) rfl rfl ?_
      refine r_iload_n 67 2 K (dk_of tX10_depth 40 rfl) rfl rfl ?_
      refine r_iastR 68 4 K (dk_of tX10_depth 41 rfl) rfl sM_4 hR (fun hR => ?_)
      refine r_nmS (fun μ14 : St => wM γ am μ14 ++ (r)) hR (fun μ14 hR => ?_)
      refine r_iload_n 69 3 K (dk_of tX10_depth 42 rfl) rfl rfl ?_
      exact r_iret 70 K hQ (dk_of tX10_depth 43 rfl) (Nat.zero_le _) (Nat.zero_le _) (lfi (fun u9 : St => wM γ am u9 ++ (r)) hR)
    · refine r_iconst 53 (0 : Int32) K (dk_of tX10_depth 30 rfl) (by decide) ?_
      exact r_iret 54 K hQ (dk_of tX10_depth 31 rfl) (Nat.zero_le _) (Nat.zero_le _) (lfi (fun u9 : St => wM γ am u9 ++ (r)) hR)
  refine r_aload_n 0 0 K (dk_of tX10_depth 0 rfl) rfl rfl ?_
  refine r_iload_n 1 1 K (dk_of tX10_depth 1 rfl) rfl rfl ?_
  obtain ⟨x1, hc, hR⟩ := o1 hR
  refine r_cSi 2 [.int p1] [.ref (am 0)] x1 (wM γ am μ ++ (r)) K (ct_X10_isCell hl hc.symm) cs_X10_76 ⟨rfl, rfl, rfl⟩ (dk_of tX10_depth 2 rfl) rfl rfl rfl rfl ?_
  refine r_iconst 5 (1 : Int32) K (dk_of tX10_depth 3 rfl) (by decide) ?_
  obtain ⟨x2, μ3, hc, hR⟩ := o2 hR
  refine r_cVi 6 0 [.int x1, .int (1 : Int32)] [] x2 (wM γ am μ3 ++ (r)) K (ct_X10_fails hl hc.symm) cs_X10_131 ⟨rfl, rfl, rfl⟩ (dk_of tX10_depth 4 rfl) rfl rfl rfl rfl rfl rfl ?_
  refine r_if_eq 9 14 K (dk_of tX10_depth 5 rfl) (by decide) hR (fun hR => ?_) (fun hR => ?_)
  · refine r_aload_n 14 0 K (dk_of tX10_depth 8 rfl) rfl rfl ?_
    refine r_iload_n 15 2 K (dk_of tX10_depth 9 rfl) rfl rfl ?_
    refine r_iconst 16 (1 : Int32) K (dk_of tX10_depth 10 rfl) (by decide) ?_
    refine r_bipush 17 (99 : Int32) K (dk_of tX10_depth 11 rfl) (by decide) ?_
    obtain ⟨x4, hc, hR⟩ := o1 hR
    refine r_cSi 19 [.int p2, .int (1 : Int32), .int (99 : Int32)] [.ref (am 0)] x4 (wM γ am μ3 ++ (r)) K (ct_X10_in hl hc.symm) cs_X10_66 ⟨rfl, rfl, rfl⟩ (dk_of tX10_depth 12 rfl) rfl rfl rfl rfl ?_
    refine r_iconst 22 (2 : Int32) K (dk_of tX10_depth 13 rfl) (by decide) ?_
    obtain ⟨x5, μ6, hc, hR⟩ := o2 hR
    refine r_cVi 23 0 [.int x4, .int (2 : Int32)] [] x5 (wM γ am μ6 ++ (r)) K (ct_X10_fails hl hc.symm) cs_X10_131 ⟨rfl, rfl, rfl⟩ (dk_of tX10_depth 14 rfl) rfl rfl rfl rfl rfl rfl ?_
    refine r_if_eq 26 31 K (dk_of tX10_depth 15 rfl) (by decide) hR (fun hR => ?_) (fun hR => ?_)
    · refine r_aload_n 31 0 K (dk_of tX10_depth 18 rfl) rfl rfl ?_
      refine r_aload_n 32 0 K (dk_of tX10_depth 19 rfl) rfl rfl ?_
      refine r_getf (C := RX10) (T := TX10) (N := 29) 33 0 2 K (dk_of tX10_depth 20 rfl) w1030 gwX10 rfl rfl (by decide) rfl ?_
      refine r_iload_n 36 1 K (dk_of tX10_depth 21 rfl) rfl rfl ?_
      refine r_ialdR 37 3 K (dk_of tX10_depth 22 rfl) rfl hR (fun hR => ?_)
      refine r_if_ne 38 45 K (dk_of tX10_depth 23 rfl) (by decide) hR (fun hR => ?_) (fun hR => ?_)
      · refine r_iconst 41 (1 : Int32) K (dk_of tX10_depth 24 rfl) (by decide) ?_
        refine r_goto 42 46 K (dk_of tX10_depth 25 rfl) (by decide) ?_
        exact b46 p1 p2 (1 : Int32) μ6 hR
      · refine r_iconst 45 (0 : Int32) K (dk_of tX10_depth 26 rfl) (by decide) ?_
        exact b46 p1 p2 (0 : Int32) μ6 hR
    · refine r_iconst 29 (0 : Int32) K (dk_of tX10_depth 16 rfl) (by decide) ?_
      exact r_iret 30 K hQ (dk_of tX10_depth 17 rfl) (Nat.zero_le _) (Nat.zero_le _) (lfi (fun u9 : St => wM γ am u9 ++ (r)) hR)
  · refine r_iconst 12 (0 : Int32) K (dk_of tX10_depth 6 rfl) (by decide) ?_
    exact r_iret 13 K hQ (dk_of tX10_depth 7 rfl) (Nat.zero_le _) (Nat.zero_le _) (lfi (fun u9 : St => wM γ am u9 ++ (r)) hR)

def sp_X10_wind_25  (y5 : Int32) (y6 : Int32) (y7 : Int32) (μ8 : St) : Option (Int32 × St) := b2 (sp_X10_fails y7 (1 : Int32) μ8) (fun (x9 : Int32) (μ10 : St) => if x9 = 0 then (sl ((((10 : Int32) * (μ10 0 5)) + (μ10 0 6))) (fun x11 : Int32 => sl (stU μ10 0 5 y5) (fun μ12 : St => sl (stU μ12 0 6 y6) (fun μ13 : St => some (x11, μ13))))) else (some ((0 : Int32), μ10)))
def sp_X10_wind_24  (y2 : Int32) (y3 : Int32) (μ4 : St) : Option (Int32 × St) := sp_X10_wind_25 y2 y3 (0 : Int32) μ4
def sp_X10_wind (p1 : Int32) (p2 : Int32) (μ : St) : Option (Int32 × St) := b1 (sp_X10_in p1 (0 : Int32) (3 : Int32)) (fun (x1 : Int32) => if x1 = 0 then (sp_X10_wind_24 p1 p2 μ) else (b1 (sp_X10_in p2 (0 : Int32) (9 : Int32)) (fun (x14 : Int32) => if x14 = 0 then (sp_X10_wind_24 p1 p2 μ) else (sp_X10_wind_25 p1 p2 (1 : Int32) μ))))
set_option maxHeartbeats 4000000 in
set_option maxRecDepth 100000 in
theorem ct_X10_wind {l : Launch} (hl : l.stackTraces = false) {γ : Gd} {am : Nat → Nat} {μ : St} {r : va_W} {p1 : Int32} {p2 : Int32} {x0 : Int32} {μ0 : St} (hR : some (x0, μ0) = sp_X10_wind p1 p2 μ) : Ct l γ yX10_wind (Cond.code yX10_wind cX10_wind 4 (some .int)) ({ frames := 1, cells := 0, slots := 0, locals := 22 } : Room) [.ref (am 0), .int p1, .int p2] (wM γ am μ ++ (r)) (Pr (some (.int x0)) (wM γ am μ0 ++ (r))) 0 0 := by
  refine Ct_of hl (by decide +kernel) rfl (Nat.le_of_ble_eq_true rfl) (L := [some (.ref (am 0)), some (.int p1), some (.int p2), none]) rfl ?_
  intro X Q K hQ
  generalize ((wM γ am μ ++ (r), Q) : MX) = M at K hQ ⊢
  unfold sp_X10_wind at hR
  have b25 : ∀ (y5 : Int32) (y6 : Int32) (y7 : Int32) (μ8 : St), some (x0, μ0) = sp_X10_wind_25  y5 y6 y7 μ8 → V l γ X M (wM γ am μ8 ++ (r)) [some (.ref (am 0)), some (.int y5), some (.int y6), none] 0 0 25 [.int y7, .ref (am 0)] := by
    intro  y5 y6 y7 μ8 hR
    unfold sp_X10_wind_25 at hR
    refine r_iconst 25 (1 : Int32) K (dk_of tX10_wind 14 rfl) (by decide) ?_
    obtain ⟨x9, μ10, hc, hR⟩ := o2 hR
    refine r_cVi 26 0 [.int y7, .int (1 : Int32)] [] x9 (wM γ am μ10 ++ (r)) K (ct_X10_fails hl hc.symm) cs_X10_131 ⟨rfl, rfl, rfl⟩ (dk_of tX10_wind 15 rfl) rfl rfl rfl rfl rfl rfl ?_
    refine r_if_eq 29 34 K (dk_of tX10_wind 16 rfl) (by decide) hR (fun hR => ?_) (fun hR => ?_)
    · refine r_bipush 34 (10 : Int32) K (dk_of tX10_wind 19 rfl) (by decide) ?_
      refine r_aload_n 36 0 K (dk_of tX10_wind 20 rfl) rfl rfl ?_
      refine r_getf (C := RX10) (T := TX10) (N := 29) 37 0 5 K (dk_of tX10_wind 21 rfl) w1033 gwX10 rfl rfl (by decide) rfl ?_
      refine r_imul 40 K (dk_of tX10_wind 22 rfl) ?_
      refine r_aload_n 41 0 K (dk_of tX10_wind 23 rfl) rfl rfl ?_
      refine r_getf (C := RX10) (T := TX10) (N := 29) 42 0 6 K (dk_of tX10_wind 24 rfl) w1034 gwX10 rfl rfl (by decide) rfl ?_
      refine r_iadd 45 K (dk_of tX10_wind 25 rfl) ?_
      refine r_nmI hR (fun x11 hR => ?_)
      refine r_istore_n 46 3 [some (.ref (am 0)), some (.int y5), some (.int y6), some (.int x11)] K (dk_of tX10_wind 26 rfl) rfl rfl rfl (by decide) ?_
      refine r_aload_n 47 0 K (dk_of tX10_wind 27 rfl) rfl rfl ?_
      refine r_iload_n 48 1 K (dk_of tX10_wind 28 rfl) rfl rfl ?_
      refine r_putf (C := RX10) (T := TX10) (N := 29) 49 0 5 K (dk_of tX10_wind 29 rfl) w1033 gwX10 tyX10_ok nmX10 rfl rfl (by decide) rfl rfl rfl rfl (Nat.le_of_ble_eq_true rfl) sM_0_5 ?_
      refine r_nmS (fun μ12 : St => wM γ am μ12 ++ (r)) hR (fun μ12 hR => ?_)
      refine r_aload_n 52 0 K (dk_of tX10_wind 30 rfl) rfl rfl ?_
      refine r_iload_n 53 2 K (dk_of tX10_wind 31 rfl) rfl rfl ?_
      refine r_putf (C := RX10) (T := TX10) (N := 29) 54 0 6 K (dk_of tX10_wind 32 rfl) w1034 gwX10 tyX10_ok nmX10 rfl rfl (by decide) rfl rfl rfl rfl (Nat.le_of_ble_eq_true rfl) sM_0_6 ?_
      refine r_nmS (fun μ13 : St => wM γ am μ13 ++ (r)) hR (fun μ13 hR => ?_)
      refine r_iload_n 57 3 K (dk_of tX10_wind 33 rfl) rfl rfl ?_
      exact r_iret 58 K hQ (dk_of tX10_wind 34 rfl) (Nat.zero_le _) (Nat.zero_le _) (lfi (fun u9 : St => wM γ am u9 ++ (r)) hR)
    · refine r_iconst 32 (0 : Int32) K (dk_of tX10_wind 17 rfl) (by decide) ?_
      exact r_iret 33 K hQ (dk_of tX10_wind 18 rfl) (Nat.zero_le _) (Nat.zero_le _) (lfi (fun u9 : St => wM γ am u9 ++ (r)) hR)
  have b24 : ∀ (y2 : Int32) (y3 : Int32) (μ4 : St), some (x0, μ0) = sp_X10_wind_24  y2 y3 μ4 → V l γ X M (wM γ am μ4 ++ (r)) [some (.ref (am 0)), some (.int y2), some (.int y3), none] 0 0 24 [.ref (am 0)] := by
    intro  y2 y3 μ4 hR
    unfold sp_X10_wind_24 at hR
    refine r_iconst 24 (0 : Int32) K (dk_of tX10_wind 13 rfl) (by decide) ?_
    exact b25 y2 y3 (0 : Int32) μ4 hR
  refine r_aload_n 0 0 K (dk_of tX10_wind 0 rfl) rfl rfl ?_
  refine r_iload_n 1 1 K (dk_of tX10_wind 1 rfl) rfl rfl ?_
  refine r_iconst 2 (0 : Int32) K (dk_of tX10_wind 2 rfl) (by decide) ?_
  refine r_iconst 3 (3 : Int32) K (dk_of tX10_wind 3 rfl) (by decide) ?_
  obtain ⟨x1, hc, hR⟩ := o1 hR
  refine r_cSi 4 [.int p1, .int (0 : Int32), .int (3 : Int32)] [.ref (am 0)] x1 (wM γ am μ ++ (r)) K (ct_X10_in hl hc.symm) cs_X10_66 ⟨rfl, rfl, rfl⟩ (dk_of tX10_wind 4 rfl) rfl rfl rfl rfl ?_
  refine r_if_eq 7 24 K (dk_of tX10_wind 5 rfl) (by decide) hR (fun hR => ?_) (fun hR => ?_)
  · exact b24 p1 p2 μ hR
  · refine r_iload_n 10 2 K (dk_of tX10_wind 6 rfl) rfl rfl ?_
    refine r_iconst 11 (0 : Int32) K (dk_of tX10_wind 7 rfl) (by decide) ?_
    refine r_bipush 12 (9 : Int32) K (dk_of tX10_wind 8 rfl) (by decide) ?_
    obtain ⟨x14, hc, hR⟩ := o1 hR
    refine r_cSi 14 [.int p2, .int (0 : Int32), .int (9 : Int32)] [.ref (am 0)] x14 (wM γ am μ ++ (r)) K (ct_X10_in hl hc.symm) cs_X10_66 ⟨rfl, rfl, rfl⟩ (dk_of tX10_wind 9 rfl) rfl rfl rfl rfl ?_
    refine r_if_eq 17 24 K (dk_of tX10_wind 10 rfl) (by decide) hR (fun hR => ?_) (fun hR => ?_)
    · exact b24 p1 p2 μ hR
    · refine r_iconst 20 (1 : Int32) K (dk_of tX10_wind 11 rfl) (by decide) ?_
      refine r_goto 21 25 K (dk_of tX10_wind 12 rfl) (by decide) ?_
      exact b25 p1 p2 (1 : Int32) μ hR

def sp_X10_ship_54  (y10 : Int32) (y11 : Int32) (y12 : Int32) (μ13 : St) : Option (Int32 × St) := b2 (sp_X10_fails y12 (3 : Int32) μ13) (fun (x14 : Int32) (μ15 : St) => if x14 = 0 then (if (μ15 0 7) < 0 ∨ 4 ≤ (μ15 0 7).toNatClampNeg then none else (sl (stU μ15 6 (μ15 0 7).toNatClampNeg y10) (fun μ16 : St => if ((144 : Int32) + (μ16 0 7)) < 0 ∨ 174 ≤ ((144 : Int32) + (μ16 0 7)).toNatClampNeg then none else (sl (stU μ16 1 ((144 : Int32) + (μ16 0 7)).toNatClampNeg y11) (fun μ17 : St => sl (stU μ17 0 7 ((μ17 0 7) + (1 : Int32))) (fun μ18 : St => some (((μ18 0 7) - (1 : Int32)), μ18))))))) else (some ((0 : Int32), μ15)))
def sp_X10_ship_53  (y7 : Int32) (y8 : Int32) (μ9 : St) : Option (Int32 × St) := sp_X10_ship_54 y7 y8 (0 : Int32) μ9
def sp_X10_ship (p1 : Int32) (p2 : Int32) (μ : St) : Option (Int32 × St) := b1 (sp_X10_isCell p1) (fun (x1 : Int32) => b2 (sp_X10_fails x1 (1 : Int32) μ) (fun (x2 : Int32) (μ3 : St) => if x2 = 0 then (b1 (sp_X10_in p2 (0 : Int32) (100000 : Int32)) (fun (x4 : Int32) => b2 (sp_X10_fails x4 (2 : Int32) μ3) (fun (x5 : Int32) (μ6 : St) => if x5 = 0 then (if p1 < 0 ∨ 24 ≤ p1.toNatClampNeg then none else (if (μ6 3 p1.toNatClampNeg) = 0 then (if (4 : Int32) ≤ (μ6 0 7) then (sp_X10_ship_53 p1 p2 μ6) else (sp_X10_ship_54 p1 p2 (1 : Int32) μ6)) else (sp_X10_ship_53 p1 p2 μ6))) else (some ((0 : Int32), μ6))))) else (some ((0 : Int32), μ3))))
set_option maxHeartbeats 4000000 in
set_option maxRecDepth 100000 in
theorem ct_X10_ship {l : Launch} (hl : l.stackTraces = false) {γ : Gd} {am : Nat → Nat} {μ : St} {r : va_W} {p1 : Int32} {p2 : Int32} {x0 : Int32} {μ0 : St} (hR : some (x0, μ0) = sp_X10_ship p1 p2 μ) : Ct l γ yX10_ship (Cond.code yX10_ship cX10_ship 3 (some .int)) ({ frames := 2, cells := 0, slots := 0, locals := 42 } : Room) [.ref (am 0), .int p1, .int p2] (wM γ am μ ++ (r)) (Pr (some (.int x0)) (wM γ am μ0 ++ (r))) 0 0 := by
  refine Ct_of hl (by decide +kernel) rfl (Nat.le_of_ble_eq_true rfl) (L := [some (.ref (am 0)), some (.int p1), some (.int p2)]) rfl ?_
  intro X Q K hQ
  generalize ((wM γ am μ ++ (r), Q) : MX) = M at K hQ ⊢
  unfold sp_X10_ship at hR
  have b54 : ∀ (y10 : Int32) (y11 : Int32) (y12 : Int32) (μ13 : St), some (x0, μ0) = sp_X10_ship_54  y10 y11 y12 μ13 → V l γ X M (wM γ am μ13 ++ (r)) [some (.ref (am 0)), some (.int y10), some (.int y11)] 0 0 54 [.int y12, .ref (am 0)] := by
    intro  y10 y11 y12 μ13 hR
    unfold sp_X10_ship_54 at hR
    refine r_iconst 54 (3 : Int32) K (dk_of tX10_ship 31 rfl) (by decide) ?_
    obtain ⟨x14, μ15, hc, hR⟩ := o2 hR
    refine r_cVi 55 0 [.int y12, .int (3 : Int32)] [] x14 (wM γ am μ15 ++ (r)) K (ct_X10_fails hl hc.symm) cs_X10_131 ⟨rfl, rfl, rfl⟩ (dk_of tX10_ship 32 rfl) rfl rfl rfl rfl rfl rfl ?_
    refine r_if_eq 58 63 K (dk_of tX10_ship 33 rfl) (by decide) hR (fun hR => ?_) (fun hR => ?_)
    · refine r_aload_n 63 0 K (dk_of tX10_ship 36 rfl) rfl rfl ?_
      refine r_getf (C := RX10) (T := TX10) (N := 29) 64 0 8 K (dk_of tX10_ship 37 rfl) w1036 gwX10 rfl rfl (by decide) rfl ?_
      refine r_aload_n 67 0 K (dk_of tX10_ship 38 rfl) rfl rfl ?_
      refine r_getf (C := RX10) (T := TX10) (N := 29) 68 0 7 K (dk_of tX10_ship 39 rfl) w1035 gwX10 rfl rfl (by decide) rfl ?_
      refine r_iload_n 71 1 K (dk_of tX10_ship 40 rfl) rfl rfl ?_
      refine r_iastR 72 6 K (dk_of tX10_ship 41 rfl) rfl sM_6 hR (fun hR => ?_)
      refine r_nmS (fun μ16 : St => wM γ am μ16 ++ (r)) hR (fun μ16 hR => ?_)
      refine r_aload_n 73 0 K (dk_of tX10_ship 42 rfl) rfl rfl ?_
      refine r_getf (C := RX10) (T := TX10) (N := 29) 74 0 0 K (dk_of tX10_ship 43 rfl) w1028 gwX10 rfl rfl (by decide) rfl ?_
      refine r_sipush 77 (144 : Int32) K (dk_of tX10_ship 44 rfl) (by decide) ?_
      refine r_aload_n 80 0 K (dk_of tX10_ship 45 rfl) rfl rfl ?_
      refine r_getf (C := RX10) (T := TX10) (N := 29) 81 0 7 K (dk_of tX10_ship 46 rfl) w1035 gwX10 rfl rfl (by decide) rfl ?_
      refine r_iadd 84 K (dk_of tX10_ship 47 rfl) ?_
      refine r_iload_n 85 2 K (dk_of tX10_ship 48 rfl) rfl rfl ?_
      refine r_iastR 86 1 K (dk_of tX10_ship 49 rfl) rfl sM_1 hR (fun hR => ?_)
      refine r_nmS (fun μ17 : St => wM γ am μ17 ++ (r)) hR (fun μ17 hR => ?_)
      refine r_aload_n 87 0 K (dk_of tX10_ship 50 rfl) rfl rfl ?_
      refine r_dup 88 K (dk_of tX10_ship 51 rfl) rfl ?_
      refine r_getf (C := RX10) (T := TX10) (N := 29) 89 0 7 K (dk_of tX10_ship 52 rfl) w1035 gwX10 rfl rfl (by decide) rfl ?_
      refine r_iconst 92 (1 : Int32) K (dk_of tX10_ship 53 rfl) (by decide) ?_
      refine r_iadd 93 K (dk_of tX10_ship 54 rfl) ?_
      refine r_putf (C := RX10) (T := TX10) (N := 29) 94 0 7 K (dk_of tX10_ship 55 rfl) w1035 gwX10 tyX10_ok nmX10 rfl rfl (by decide) rfl rfl rfl rfl (Nat.le_of_ble_eq_true rfl) sM_0_7 ?_
      refine r_nmS (fun μ18 : St => wM γ am μ18 ++ (r)) hR (fun μ18 hR => ?_)
      refine r_aload_n 97 0 K (dk_of tX10_ship 56 rfl) rfl rfl ?_
      refine r_getf (C := RX10) (T := TX10) (N := 29) 98 0 7 K (dk_of tX10_ship 57 rfl) w1035 gwX10 rfl rfl (by decide) rfl ?_
      refine r_iconst 101 (1 : Int32) K (dk_of tX10_ship 58 rfl) (by decide) ?_
      refine r_isub 102 K (dk_of tX10_ship 59 rfl) ?_
      exact r_iret 103 K hQ (dk_of tX10_ship 60 rfl) (Nat.zero_le _) (Nat.zero_le _) (lfi (fun u9 : St => wM γ am u9 ++ (r)) hR)
    · refine r_iconst 61 (0 : Int32) K (dk_of tX10_ship 34 rfl) (by decide) ?_
      exact r_iret 62 K hQ (dk_of tX10_ship 35 rfl) (Nat.zero_le _) (Nat.zero_le _) (lfi (fun u9 : St => wM γ am u9 ++ (r)) hR)
  have b53 : ∀ (y7 : Int32) (y8 : Int32) (μ9 : St), some (x0, μ0) = sp_X10_ship_53  y7 y8 μ9 → V l γ X M (wM γ am μ9 ++ (r)) [some (.ref (am 0)), some (.int y7), some (.int y8)] 0 0 53 [.ref (am 0)] := by
    intro  y7 y8 μ9 hR
    unfold sp_X10_ship_53 at hR
    refine r_iconst 53 (0 : Int32) K (dk_of tX10_ship 30 rfl) (by decide) ?_
    exact b54 y7 y8 (0 : Int32) μ9 hR
  refine r_aload_n 0 0 K (dk_of tX10_ship 0 rfl) rfl rfl ?_
  refine r_iload_n 1 1 K (dk_of tX10_ship 1 rfl) rfl rfl ?_
  obtain ⟨x1, hc, hR⟩ := o1 hR
  refine r_cSi 2 [.int p1] [.ref (am 0)] x1 (wM γ am μ ++ (r)) K (ct_X10_isCell hl hc.symm) cs_X10_76 ⟨rfl, rfl, rfl⟩ (dk_of tX10_ship 2 rfl) rfl rfl rfl rfl ?_
  refine r_iconst 5 (1 : Int32) K (dk_of tX10_ship 3 rfl) (by decide) ?_
  obtain ⟨x2, μ3, hc, hR⟩ := o2 hR
  refine r_cVi 6 0 [.int x1, .int (1 : Int32)] [] x2 (wM γ am μ3 ++ (r)) K (ct_X10_fails hl hc.symm) cs_X10_131 ⟨rfl, rfl, rfl⟩ (dk_of tX10_ship 4 rfl) rfl rfl rfl rfl rfl rfl ?_
  refine r_if_eq 9 14 K (dk_of tX10_ship 5 rfl) (by decide) hR (fun hR => ?_) (fun hR => ?_)
  · refine r_aload_n 14 0 K (dk_of tX10_ship 8 rfl) rfl rfl ?_
    refine r_iload_n 15 2 K (dk_of tX10_ship 9 rfl) rfl rfl ?_
    refine r_iconst 16 (0 : Int32) K (dk_of tX10_ship 10 rfl) (by decide) ?_
    refine r_ldc 17 100000 K (dk_of tX10_ship 11 rfl) w1146 ?_
    obtain ⟨x4, hc, hR⟩ := o1 hR
    refine r_cSi 19 [.int p2, .int (0 : Int32), .int (100000 : Int32)] [.ref (am 0)] x4 (wM γ am μ3 ++ (r)) K (ct_X10_in hl hc.symm) cs_X10_66 ⟨rfl, rfl, rfl⟩ (dk_of tX10_ship 12 rfl) rfl rfl rfl rfl ?_
    refine r_iconst 22 (2 : Int32) K (dk_of tX10_ship 13 rfl) (by decide) ?_
    obtain ⟨x5, μ6, hc, hR⟩ := o2 hR
    refine r_cVi 23 0 [.int x4, .int (2 : Int32)] [] x5 (wM γ am μ6 ++ (r)) K (ct_X10_fails hl hc.symm) cs_X10_131 ⟨rfl, rfl, rfl⟩ (dk_of tX10_ship 14 rfl) rfl rfl rfl rfl rfl rfl ?_
    refine r_if_eq 26 31 K (dk_of tX10_ship 15 rfl) (by decide) hR (fun hR => ?_) (fun hR => ?_)
    · refine r_aload_n 31 0 K (dk_of tX10_ship 18 rfl) rfl rfl ?_
      refine r_aload_n 32 0 K (dk_of tX10_ship 19 rfl) rfl rfl ?_
      refine r_getf (C := RX10) (T := TX10) (N := 29) 33 0 2 K (dk_of tX10_ship 20 rfl) w1030 gwX10 rfl rfl (by decide) rfl ?_
      refine r_iload_n 36 1 K (dk_of tX10_ship 21 rfl) rfl rfl ?_
      refine r_ialdR 37 3 K (dk_of tX10_ship 22 rfl) rfl hR (fun hR => ?_)
      refine r_if_ne 38 53 K (dk_of tX10_ship 23 rfl) (by decide) hR (fun hR => ?_) (fun hR => ?_)
      · refine r_aload_n 41 0 K (dk_of tX10_ship 24 rfl) rfl rfl ?_
        refine r_getf (C := RX10) (T := TX10) (N := 29) 42 0 7 K (dk_of tX10_ship 25 rfl) w1035 gwX10 rfl rfl (by decide) rfl ?_
        refine r_iconst 45 (4 : Int32) K (dk_of tX10_ship 26 rfl) (by decide) ?_
        refine r_ic_ge 46 53 K (dk_of tX10_ship 27 rfl) (by decide) hR (fun hR => ?_) (fun hR => ?_)
        · exact b53 p1 p2 μ6 hR
        · refine r_iconst 49 (1 : Int32) K (dk_of tX10_ship 28 rfl) (by decide) ?_
          refine r_goto 50 54 K (dk_of tX10_ship 29 rfl) (by decide) ?_
          exact b54 p1 p2 (1 : Int32) μ6 hR
      · exact b53 p1 p2 μ6 hR
    · refine r_iconst 29 (0 : Int32) K (dk_of tX10_ship 16 rfl) (by decide) ?_
      exact r_iret 30 K hQ (dk_of tX10_ship 17 rfl) (Nat.zero_le _) (Nat.zero_le _) (lfi (fun u9 : St => wM γ am u9 ++ (r)) hR)
  · refine r_iconst 12 (0 : Int32) K (dk_of tX10_ship 6 rfl) (by decide) ?_
    exact r_iret 13 K hQ (dk_of tX10_ship 7 rfl) (Nat.zero_le _) (Nat.zero_le _) (lfi (fun u9 : St => wM γ am u9 ++ (r)) hR)

def sp_X10_isShip (p1 : Int32) (μ : St) : Option (Int32) := b1 (sp_X10_in p1 (0 : Int32) ((μ 0 7) - (1 : Int32))) (fun (x1 : Int32) => if x1 = 0 ∨ x1 = 1 then some x1 else none)
set_option maxHeartbeats 4000000 in
set_option maxRecDepth 100000 in
theorem ct_X10_isShip {l : Launch} (hl : l.stackTraces = false) {γ : Gd} {am : Nat → Nat} {μ : St} {r : va_W} {p1 : Int32} {x0 : Int32} (hR : some x0 = sp_X10_isShip p1 μ) : Ct l γ yX10_isShip (Cond.code yX10_isShip cX10_isShip 2 (some .boolean)) ({ frames := 1, cells := 0, slots := 0, locals := 22 } : Room) [.ref (am 0), .int p1] (wM γ am μ ++ (r)) (Pr (some (.int x0)) (wM γ am μ ++ (r))) 0 0 := by
  refine Ct_of hl (by decide +kernel) rfl (Nat.le_of_ble_eq_true rfl) (L := [some (.ref (am 0)), some (.int p1)]) rfl ?_
  intro X Q K hQ
  generalize ((wM γ am μ ++ (r), Q) : MX) = M at K hQ ⊢
  unfold sp_X10_isShip at hR
  refine r_iload_n 0 1 K (dk_of tX10_isShip 0 rfl) rfl rfl ?_
  refine r_iconst 1 (0 : Int32) K (dk_of tX10_isShip 1 rfl) (by decide) ?_
  refine r_aload_n 2 0 K (dk_of tX10_isShip 2 rfl) rfl rfl ?_
  refine r_getf (C := RX10) (T := TX10) (N := 29) 3 0 7 K (dk_of tX10_isShip 3 rfl) w1035 gwX10 rfl rfl (by decide) rfl ?_
  refine r_iconst 6 (1 : Int32) K (dk_of tX10_isShip 4 rfl) (by decide) ?_
  refine r_isub 7 K (dk_of tX10_isShip 5 rfl) ?_
  obtain ⟨x1, hc, hR⟩ := o1 hR
  refine r_cSi 8 [.int p1, .int (0 : Int32), .int ((μ 0 7) - (1 : Int32))] [] x1 (wM γ am μ ++ (r)) K (ct_X10_in hl hc.symm) cs_X10_66 ⟨rfl, rfl, rfl⟩ (dk_of tX10_isShip 6 rfl) rfl rfl rfl rfl ?_
  exact r_zretR 11 K hQ (dk_of tX10_isShip 7 rfl) (Nat.zero_le _) (Nat.zero_le _) hR (fun hR => lfi0 hR)

def sp_X10_hole (p1 : Int32) (p2 : Int32) (μ : St) : Option (Int32 × St) := b1 (sp_X10_isShip p1 μ) (fun (x1 : Int32) => b2 (sp_X10_fails x1 (1 : Int32) μ) (fun (x2 : Int32) (μ3 : St) => if x2 = 0 then (b1 (sp_X10_in p2 (0 : Int32) (99 : Int32)) (fun (x4 : Int32) => b2 (sp_X10_fails x4 (2 : Int32) μ3) (fun (x5 : Int32) (μ6 : St) => if x5 = 0 then (if p1 < 0 ∨ 4 ≤ p1.toNatClampNeg then none else (sl ((μ6 7 p1.toNatClampNeg)) (fun x7 : Int32 => if p1 < 0 ∨ 4 ≤ p1.toNatClampNeg then none else (sl (stU μ6 7 p1.toNatClampNeg p2) (fun μ8 : St => some (x7, μ8)))))) else (some ((0 : Int32), μ6))))) else (some ((0 : Int32), μ3))))
set_option maxHeartbeats 4000000 in
set_option maxRecDepth 100000 in
theorem ct_X10_hole {l : Launch} (hl : l.stackTraces = false) {γ : Gd} {am : Nat → Nat} {μ : St} {r : va_W} {p1 : Int32} {p2 : Int32} {x0 : Int32} {μ0 : St} (hR : some (x0, μ0) = sp_X10_hole p1 p2 μ) : Ct l γ yX10_hole (Cond.code yX10_hole cX10_hole 4 (some .int)) ({ frames := 2, cells := 0, slots := 0, locals := 43 } : Room) [.ref (am 0), .int p1, .int p2] (wM γ am μ ++ (r)) (Pr (some (.int x0)) (wM γ am μ0 ++ (r))) 0 0 := by
  refine Ct_of hl (by decide +kernel) rfl (Nat.le_of_ble_eq_true rfl) (L := [some (.ref (am 0)), some (.int p1), some (.int p2), none]) rfl ?_
  intro X Q K hQ
  generalize ((wM γ am μ ++ (r), Q) : MX) = M at K hQ ⊢
  unfold sp_X10_hole at hR
  refine r_aload_n 0 0 K (dk_of tX10_hole 0 rfl) rfl rfl ?_
  refine r_aload_n 1 0 K (dk_of tX10_hole 1 rfl) rfl rfl ?_
  refine r_iload_n 2 1 K (dk_of tX10_hole 2 rfl) rfl rfl ?_
  obtain ⟨x1, hc, hR⟩ := o1 hR
  refine r_cVi 3 0 [.int p1] [.ref (am 0)] x1 (wM γ am μ ++ (r)) K (ct_X10_isShip hl hc.symm) cs_X10_136 ⟨rfl, rfl, rfl⟩ (dk_of tX10_hole 3 rfl) rfl rfl rfl rfl rfl rfl ?_
  refine r_iconst 6 (1 : Int32) K (dk_of tX10_hole 4 rfl) (by decide) ?_
  obtain ⟨x2, μ3, hc, hR⟩ := o2 hR
  refine r_cVi 7 0 [.int x1, .int (1 : Int32)] [] x2 (wM γ am μ3 ++ (r)) K (ct_X10_fails hl hc.symm) cs_X10_131 ⟨rfl, rfl, rfl⟩ (dk_of tX10_hole 5 rfl) rfl rfl rfl rfl rfl rfl ?_
  refine r_if_eq 10 15 K (dk_of tX10_hole 6 rfl) (by decide) hR (fun hR => ?_) (fun hR => ?_)
  · refine r_aload_n 15 0 K (dk_of tX10_hole 9 rfl) rfl rfl ?_
    refine r_iload_n 16 2 K (dk_of tX10_hole 10 rfl) rfl rfl ?_
    refine r_iconst 17 (0 : Int32) K (dk_of tX10_hole 11 rfl) (by decide) ?_
    refine r_bipush 18 (99 : Int32) K (dk_of tX10_hole 12 rfl) (by decide) ?_
    obtain ⟨x4, hc, hR⟩ := o1 hR
    refine r_cSi 20 [.int p2, .int (0 : Int32), .int (99 : Int32)] [.ref (am 0)] x4 (wM γ am μ3 ++ (r)) K (ct_X10_in hl hc.symm) cs_X10_66 ⟨rfl, rfl, rfl⟩ (dk_of tX10_hole 13 rfl) rfl rfl rfl rfl ?_
    refine r_iconst 23 (2 : Int32) K (dk_of tX10_hole 14 rfl) (by decide) ?_
    obtain ⟨x5, μ6, hc, hR⟩ := o2 hR
    refine r_cVi 24 0 [.int x4, .int (2 : Int32)] [] x5 (wM γ am μ6 ++ (r)) K (ct_X10_fails hl hc.symm) cs_X10_131 ⟨rfl, rfl, rfl⟩ (dk_of tX10_hole 15 rfl) rfl rfl rfl rfl rfl rfl ?_
    refine r_if_eq 27 32 K (dk_of tX10_hole 16 rfl) (by decide) hR (fun hR => ?_) (fun hR => ?_)
    · refine r_aload_n 32 0 K (dk_of tX10_hole 19 rfl) rfl rfl ?_
      refine r_getf (C := RX10) (T := TX10) (N := 29) 33 0 9 K (dk_of tX10_hole 20 rfl) w1037 gwX10 rfl rfl (by decide) rfl ?_
      refine r_iload_n 36 1 K (dk_of tX10_hole 21 rfl) rfl rfl ?_
      refine r_ialdR 37 7 K (dk_of tX10_hole 22 rfl) rfl hR (fun hR => ?_)
      refine r_nmI hR (fun x7 hR => ?_)
      refine r_istore_n 38 3 [some (.ref (am 0)), some (.int p1), some (.int p2), some (.int x7)] K (dk_of tX10_hole 23 rfl) rfl rfl rfl (by decide) ?_
      refine r_aload_n 39 0 K (dk_of tX10_hole 24 rfl) rfl rfl ?_
      refine r_getf (C := RX10) (T := TX10) (N := 29) 40 0 9 K (dk_of tX10_hole 25 rfl) w1037 gwX10 rfl rfl (by decide) rfl ?_
      refine r_iload_n 43 1 K (dk_of tX10_hole 26 rfl) rfl rfl ?_
      refine r_iload_n 44 2 K (dk_of tX10_hole 27 rfl) rfl rfl ?_
      refine r_iastR 45 7 K (dk_of tX10_hole 28 rfl) rfl sM_7 hR (fun hR => ?_)
      refine r_nmS (fun μ8 : St => wM γ am μ8 ++ (r)) hR (fun μ8 hR => ?_)
      refine r_iload_n 46 3 K (dk_of tX10_hole 29 rfl) rfl rfl ?_
      exact r_iret 47 K hQ (dk_of tX10_hole 30 rfl) (Nat.zero_le _) (Nat.zero_le _) (lfi (fun u9 : St => wM γ am u9 ++ (r)) hR)
    · refine r_iconst 30 (0 : Int32) K (dk_of tX10_hole 17 rfl) (by decide) ?_
      exact r_iret 31 K hQ (dk_of tX10_hole 18 rfl) (Nat.zero_le _) (Nat.zero_le _) (lfi (fun u9 : St => wM γ am u9 ++ (r)) hR)
  · refine r_iconst 13 (0 : Int32) K (dk_of tX10_hole 7 rfl) (by decide) ?_
    exact r_iret 14 K hQ (dk_of tX10_hole 8 rfl) (Nat.zero_le _) (Nat.zero_le _) (lfi (fun u9 : St => wM γ am u9 ++ (r)) hR)

def sp_X10_pump_98  (y28 : Int32) (y29 : Int32) (y30 : Int32) (y31 : Int32) (μ32 : St) : Option (Int32 × St) := b2 (sp_X10_fails y31 (3 : Int32) μ32) (fun (x33 : Int32) (μ34 : St) => if x33 = 0 then (if ((144 : Int32) + y28) < 0 ∨ 174 ≤ ((144 : Int32) + y28).toNatClampNeg then none else (if ((144 : Int32) + y28) < 0 ∨ 174 ≤ ((144 : Int32) + y28).toNatClampNeg then none else (sl (stU μ34 1 ((144 : Int32) + y28).toNatClampNeg ((μ34 1 ((144 : Int32) + y28).toNatClampNeg) - y30)) (fun μ35 : St => if ((144 : Int32) + y29) < 0 ∨ 174 ≤ ((144 : Int32) + y29).toNatClampNeg then none else (if ((144 : Int32) + y29) < 0 ∨ 174 ≤ ((144 : Int32) + y29).toNatClampNeg then none else (sl (stU μ35 1 ((144 : Int32) + y29).toNatClampNeg ((μ35 1 ((144 : Int32) + y29).toNatClampNeg) + y30)) (fun μ36 : St => if ((144 : Int32) + y29) < 0 ∨ 174 ≤ ((144 : Int32) + y29).toNatClampNeg then none else (some ((μ36 1 ((144 : Int32) + y29).toNatClampNeg), μ36))))))))) else (some ((0 : Int32), μ34)))
def sp_X10_pump_97  (y24 : Int32) (y25 : Int32) (y26 : Int32) (μ27 : St) : Option (Int32 × St) := sp_X10_pump_98 y24 y25 y26 (0 : Int32) μ27
def sp_X10_pump_52  (y17 : Int32) (y18 : Int32) (y19 : Int32) (y20 : Int32) (μ21 : St) : Option (Int32 × St) := b2 (sp_X10_fails y20 (2 : Int32) μ21) (fun (x22 : Int32) (μ23 : St) => if x22 = 0 then (if ((144 : Int32) + y17) < 0 ∨ 174 ≤ ((144 : Int32) + y17).toNatClampNeg then none else (if (μ23 1 ((144 : Int32) + y17).toNatClampNeg) < y19 then (sp_X10_pump_97 y17 y18 y19 μ23) else (if ((144 : Int32) + y18) < 0 ∨ 174 ≤ ((144 : Int32) + y18).toNatClampNeg then none else (if (100000 : Int32) < ((μ23 1 ((144 : Int32) + y18).toNatClampNeg) + y19) then (sp_X10_pump_97 y17 y18 y19 μ23) else (sp_X10_pump_98 y17 y18 y19 (1 : Int32) μ23))))) else (some ((0 : Int32), μ23)))
def sp_X10_pump_51  (y13 : Int32) (y14 : Int32) (y15 : Int32) (μ16 : St) : Option (Int32 × St) := sp_X10_pump_52 y13 y14 y15 (0 : Int32) μ16
def sp_X10_pump_22  (y6 : Int32) (y7 : Int32) (y8 : Int32) (y9 : Int32) (μ10 : St) : Option (Int32 × St) := b2 (sp_X10_fails y9 (1 : Int32) μ10) (fun (x11 : Int32) (μ12 : St) => if x11 = 0 then (if y6 = y7 then (sp_X10_pump_51 y6 y7 y8 μ12) else (b1 (sp_X10_in y8 (1 : Int32) (100000 : Int32)) (fun (x37 : Int32) => if x37 = 0 then (sp_X10_pump_51 y6 y7 y8 μ12) else (sp_X10_pump_52 y6 y7 y8 (1 : Int32) μ12)))) else (some ((0 : Int32), μ12)))
def sp_X10_pump_21  (y2 : Int32) (y3 : Int32) (y4 : Int32) (μ5 : St) : Option (Int32 × St) := sp_X10_pump_22 y2 y3 y4 (0 : Int32) μ5
def sp_X10_pump (p1 : Int32) (p2 : Int32) (p3 : Int32) (μ : St) : Option (Int32 × St) := b1 (sp_X10_isShip p1 μ) (fun (x1 : Int32) => if x1 = 0 then (sp_X10_pump_21 p1 p2 p3 μ) else (b1 (sp_X10_isShip p2 μ) (fun (x38 : Int32) => if x38 = 0 then (sp_X10_pump_21 p1 p2 p3 μ) else (sp_X10_pump_22 p1 p2 p3 (1 : Int32) μ))))
set_option maxHeartbeats 4000000 in
set_option maxRecDepth 100000 in
theorem ct_X10_pump {l : Launch} (hl : l.stackTraces = false) {γ : Gd} {am : Nat → Nat} {μ : St} {r : va_W} {p1 : Int32} {p2 : Int32} {p3 : Int32} {x0 : Int32} {μ0 : St} (hR : some (x0, μ0) = sp_X10_pump p1 p2 p3 μ) : Ct l γ yX10_pump (Cond.code yX10_pump cX10_pump 4 (some .int)) ({ frames := 2, cells := 0, slots := 0, locals := 43 } : Room) [.ref (am 0), .int p1, .int p2, .int p3] (wM γ am μ ++ (r)) (Pr (some (.int x0)) (wM γ am μ0 ++ (r))) 0 0 := by
  refine Ct_of hl (by decide +kernel) rfl (Nat.le_of_ble_eq_true rfl) (L := [some (.ref (am 0)), some (.int p1), some (.int p2), some (.int p3)]) rfl ?_
  intro X Q K hQ
  generalize ((wM γ am μ ++ (r), Q) : MX) = M at K hQ ⊢
  unfold sp_X10_pump at hR
  have b98 : ∀ (y28 : Int32) (y29 : Int32) (y30 : Int32) (y31 : Int32) (μ32 : St), some (x0, μ0) = sp_X10_pump_98  y28 y29 y30 y31 μ32 → V l γ X M (wM γ am μ32 ++ (r)) [some (.ref (am 0)), some (.int y28), some (.int y29), some (.int y30)] 0 0 98 [.int y31, .ref (am 0)] := by
    intro  y28 y29 y30 y31 μ32 hR
    unfold sp_X10_pump_98 at hR
    refine r_iconst 98 (3 : Int32) K (dk_of tX10_pump 56 rfl) (by decide) ?_
    obtain ⟨x33, μ34, hc, hR⟩ := o2 hR
    refine r_cVi 99 0 [.int y31, .int (3 : Int32)] [] x33 (wM γ am μ34 ++ (r)) K (ct_X10_fails hl hc.symm) cs_X10_131 ⟨rfl, rfl, rfl⟩ (dk_of tX10_pump 57 rfl) rfl rfl rfl rfl rfl rfl ?_
    refine r_if_eq 102 107 K (dk_of tX10_pump 58 rfl) (by decide) hR (fun hR => ?_) (fun hR => ?_)
    · refine r_aload_n 107 0 K (dk_of tX10_pump 61 rfl) rfl rfl ?_
      refine r_getf (C := RX10) (T := TX10) (N := 29) 108 0 0 K (dk_of tX10_pump 62 rfl) w1028 gwX10 rfl rfl (by decide) rfl ?_
      refine r_sipush 111 (144 : Int32) K (dk_of tX10_pump 63 rfl) (by decide) ?_
      refine r_iload_n 114 1 K (dk_of tX10_pump 64 rfl) rfl rfl ?_
      refine r_iadd 115 K (dk_of tX10_pump 65 rfl) ?_
      refine r_dup2 116 K (dk_of tX10_pump 66 rfl) rfl rfl ?_
      refine r_ialdR 117 1 K (dk_of tX10_pump 67 rfl) rfl hR (fun hR => ?_)
      refine r_iload_n 118 3 K (dk_of tX10_pump 68 rfl) rfl rfl ?_
      refine r_isub 119 K (dk_of tX10_pump 69 rfl) ?_
      refine r_iastR 120 1 K (dk_of tX10_pump 70 rfl) rfl sM_1 hR (fun hR => ?_)
      refine r_nmS (fun μ35 : St => wM γ am μ35 ++ (r)) hR (fun μ35 hR => ?_)
      refine r_aload_n 121 0 K (dk_of tX10_pump 71 rfl) rfl rfl ?_
      refine r_getf (C := RX10) (T := TX10) (N := 29) 122 0 0 K (dk_of tX10_pump 72 rfl) w1028 gwX10 rfl rfl (by decide) rfl ?_
      refine r_sipush 125 (144 : Int32) K (dk_of tX10_pump 73 rfl) (by decide) ?_
      refine r_iload_n 128 2 K (dk_of tX10_pump 74 rfl) rfl rfl ?_
      refine r_iadd 129 K (dk_of tX10_pump 75 rfl) ?_
      refine r_dup2 130 K (dk_of tX10_pump 76 rfl) rfl rfl ?_
      refine r_ialdR 131 1 K (dk_of tX10_pump 77 rfl) rfl hR (fun hR => ?_)
      refine r_iload_n 132 3 K (dk_of tX10_pump 78 rfl) rfl rfl ?_
      refine r_iadd 133 K (dk_of tX10_pump 79 rfl) ?_
      refine r_iastR 134 1 K (dk_of tX10_pump 80 rfl) rfl sM_1 hR (fun hR => ?_)
      refine r_nmS (fun μ36 : St => wM γ am μ36 ++ (r)) hR (fun μ36 hR => ?_)
      refine r_aload_n 135 0 K (dk_of tX10_pump 81 rfl) rfl rfl ?_
      refine r_getf (C := RX10) (T := TX10) (N := 29) 136 0 0 K (dk_of tX10_pump 82 rfl) w1028 gwX10 rfl rfl (by decide) rfl ?_
      refine r_sipush 139 (144 : Int32) K (dk_of tX10_pump 83 rfl) (by decide) ?_
      refine r_iload_n 142 2 K (dk_of tX10_pump 84 rfl) rfl rfl ?_
      refine r_iadd 143 K (dk_of tX10_pump 85 rfl) ?_
      refine r_ialdR 144 1 K (dk_of tX10_pump 86 rfl) rfl hR (fun hR => ?_)
      exact r_iret 145 K hQ (dk_of tX10_pump 87 rfl) (Nat.zero_le _) (Nat.zero_le _) (lfi (fun u9 : St => wM γ am u9 ++ (r)) hR)
    · refine r_iconst 105 (0 : Int32) K (dk_of tX10_pump 59 rfl) (by decide) ?_
      exact r_iret 106 K hQ (dk_of tX10_pump 60 rfl) (Nat.zero_le _) (Nat.zero_le _) (lfi (fun u9 : St => wM γ am u9 ++ (r)) hR)
  have b97 : ∀ (y24 : Int32) (y25 : Int32) (y26 : Int32) (μ27 : St), some (x0, μ0) = sp_X10_pump_97  y24 y25 y26 μ27 → V l γ X M (wM γ am μ27 ++ (r)) [some (.ref (am 0)), some (.int y24), some (.int y25), some (.int y26)] 0 0 97 [.ref (am 0)] := by
    intro  y24 y25 y26 μ27 hR
    unfold sp_X10_pump_97 at hR
    refine r_iconst 97 (0 : Int32) K (dk_of tX10_pump 55 rfl) (by decide) ?_
    exact b98 y24 y25 y26 (0 : Int32) μ27 hR
  have b52 : ∀ (y17 : Int32) (y18 : Int32) (y19 : Int32) (y20 : Int32) (μ21 : St), some (x0, μ0) = sp_X10_pump_52  y17 y18 y19 y20 μ21 → V l γ X M (wM γ am μ21 ++ (r)) [some (.ref (am 0)), some (.int y17), some (.int y18), some (.int y19)] 0 0 52 [.int y20, .ref (am 0)] := by
    intro  y17 y18 y19 y20 μ21 hR
    unfold sp_X10_pump_52 at hR
    refine r_iconst 52 (2 : Int32) K (dk_of tX10_pump 29 rfl) (by decide) ?_
    obtain ⟨x22, μ23, hc, hR⟩ := o2 hR
    refine r_cVi 53 0 [.int y20, .int (2 : Int32)] [] x22 (wM γ am μ23 ++ (r)) K (ct_X10_fails hl hc.symm) cs_X10_131 ⟨rfl, rfl, rfl⟩ (dk_of tX10_pump 30 rfl) rfl rfl rfl rfl rfl rfl ?_
    refine r_if_eq 56 61 K (dk_of tX10_pump 31 rfl) (by decide) hR (fun hR => ?_) (fun hR => ?_)
    · refine r_aload_n 61 0 K (dk_of tX10_pump 34 rfl) rfl rfl ?_
      refine r_aload_n 62 0 K (dk_of tX10_pump 35 rfl) rfl rfl ?_
      refine r_getf (C := RX10) (T := TX10) (N := 29) 63 0 0 K (dk_of tX10_pump 36 rfl) w1028 gwX10 rfl rfl (by decide) rfl ?_
      refine r_sipush 66 (144 : Int32) K (dk_of tX10_pump 37 rfl) (by decide) ?_
      refine r_iload_n 69 1 K (dk_of tX10_pump 38 rfl) rfl rfl ?_
      refine r_iadd 70 K (dk_of tX10_pump 39 rfl) ?_
      refine r_ialdR 71 1 K (dk_of tX10_pump 40 rfl) rfl hR (fun hR => ?_)
      refine r_iload_n 72 3 K (dk_of tX10_pump 41 rfl) rfl rfl ?_
      refine r_ic_lt 73 97 K (dk_of tX10_pump 42 rfl) (by decide) hR (fun hR => ?_) (fun hR => ?_)
      · exact b97 y17 y18 y19 μ23 hR
      · refine r_aload_n 76 0 K (dk_of tX10_pump 43 rfl) rfl rfl ?_
        refine r_getf (C := RX10) (T := TX10) (N := 29) 77 0 0 K (dk_of tX10_pump 44 rfl) w1028 gwX10 rfl rfl (by decide) rfl ?_
        refine r_sipush 80 (144 : Int32) K (dk_of tX10_pump 45 rfl) (by decide) ?_
        refine r_iload_n 83 2 K (dk_of tX10_pump 46 rfl) rfl rfl ?_
        refine r_iadd 84 K (dk_of tX10_pump 47 rfl) ?_
        refine r_ialdR 85 1 K (dk_of tX10_pump 48 rfl) rfl hR (fun hR => ?_)
        refine r_iload_n 86 3 K (dk_of tX10_pump 49 rfl) rfl rfl ?_
        refine r_iadd 87 K (dk_of tX10_pump 50 rfl) ?_
        refine r_ldc 88 100000 K (dk_of tX10_pump 51 rfl) w1146 ?_
        refine r_ic_gt 90 97 K (dk_of tX10_pump 52 rfl) (by decide) hR (fun hR => ?_) (fun hR => ?_)
        · exact b97 y17 y18 y19 μ23 hR
        · refine r_iconst 93 (1 : Int32) K (dk_of tX10_pump 53 rfl) (by decide) ?_
          refine r_goto 94 98 K (dk_of tX10_pump 54 rfl) (by decide) ?_
          exact b98 y17 y18 y19 (1 : Int32) μ23 hR
    · refine r_iconst 59 (0 : Int32) K (dk_of tX10_pump 32 rfl) (by decide) ?_
      exact r_iret 60 K hQ (dk_of tX10_pump 33 rfl) (Nat.zero_le _) (Nat.zero_le _) (lfi (fun u9 : St => wM γ am u9 ++ (r)) hR)
  have b51 : ∀ (y13 : Int32) (y14 : Int32) (y15 : Int32) (μ16 : St), some (x0, μ0) = sp_X10_pump_51  y13 y14 y15 μ16 → V l γ X M (wM γ am μ16 ++ (r)) [some (.ref (am 0)), some (.int y13), some (.int y14), some (.int y15)] 0 0 51 [.ref (am 0)] := by
    intro  y13 y14 y15 μ16 hR
    unfold sp_X10_pump_51 at hR
    refine r_iconst 51 (0 : Int32) K (dk_of tX10_pump 28 rfl) (by decide) ?_
    exact b52 y13 y14 y15 (0 : Int32) μ16 hR
  have b22 : ∀ (y6 : Int32) (y7 : Int32) (y8 : Int32) (y9 : Int32) (μ10 : St), some (x0, μ0) = sp_X10_pump_22  y6 y7 y8 y9 μ10 → V l γ X M (wM γ am μ10 ++ (r)) [some (.ref (am 0)), some (.int y6), some (.int y7), some (.int y8)] 0 0 22 [.int y9, .ref (am 0)] := by
    intro  y6 y7 y8 y9 μ10 hR
    unfold sp_X10_pump_22 at hR
    refine r_iconst 22 (1 : Int32) K (dk_of tX10_pump 12 rfl) (by decide) ?_
    obtain ⟨x11, μ12, hc, hR⟩ := o2 hR
    refine r_cVi 23 0 [.int y9, .int (1 : Int32)] [] x11 (wM γ am μ12 ++ (r)) K (ct_X10_fails hl hc.symm) cs_X10_131 ⟨rfl, rfl, rfl⟩ (dk_of tX10_pump 13 rfl) rfl rfl rfl rfl rfl rfl ?_
    refine r_if_eq 26 31 K (dk_of tX10_pump 14 rfl) (by decide) hR (fun hR => ?_) (fun hR => ?_)
    · refine r_aload_n 31 0 K (dk_of tX10_pump 17 rfl) rfl rfl ?_
      refine r_iload_n 32 1 K (dk_of tX10_pump 18 rfl) rfl rfl ?_
      refine r_iload_n 33 2 K (dk_of tX10_pump 19 rfl) rfl rfl ?_
      refine r_ic_eq 34 51 K (dk_of tX10_pump 20 rfl) (by decide) hR (fun hR => ?_) (fun hR => ?_)
      · exact b51 y6 y7 y8 μ12 hR
      · refine r_iload_n 37 3 K (dk_of tX10_pump 21 rfl) rfl rfl ?_
        refine r_iconst 38 (1 : Int32) K (dk_of tX10_pump 22 rfl) (by decide) ?_
        refine r_ldc 39 100000 K (dk_of tX10_pump 23 rfl) w1146 ?_
        obtain ⟨x37, hc, hR⟩ := o1 hR
        refine r_cSi 41 [.int y8, .int (1 : Int32), .int (100000 : Int32)] [.ref (am 0)] x37 (wM γ am μ12 ++ (r)) K (ct_X10_in hl hc.symm) cs_X10_66 ⟨rfl, rfl, rfl⟩ (dk_of tX10_pump 24 rfl) rfl rfl rfl rfl ?_
        refine r_if_eq 44 51 K (dk_of tX10_pump 25 rfl) (by decide) hR (fun hR => ?_) (fun hR => ?_)
        · exact b51 y6 y7 y8 μ12 hR
        · refine r_iconst 47 (1 : Int32) K (dk_of tX10_pump 26 rfl) (by decide) ?_
          refine r_goto 48 52 K (dk_of tX10_pump 27 rfl) (by decide) ?_
          exact b52 y6 y7 y8 (1 : Int32) μ12 hR
    · refine r_iconst 29 (0 : Int32) K (dk_of tX10_pump 15 rfl) (by decide) ?_
      exact r_iret 30 K hQ (dk_of tX10_pump 16 rfl) (Nat.zero_le _) (Nat.zero_le _) (lfi (fun u9 : St => wM γ am u9 ++ (r)) hR)
  have b21 : ∀ (y2 : Int32) (y3 : Int32) (y4 : Int32) (μ5 : St), some (x0, μ0) = sp_X10_pump_21  y2 y3 y4 μ5 → V l γ X M (wM γ am μ5 ++ (r)) [some (.ref (am 0)), some (.int y2), some (.int y3), some (.int y4)] 0 0 21 [.ref (am 0)] := by
    intro  y2 y3 y4 μ5 hR
    unfold sp_X10_pump_21 at hR
    refine r_iconst 21 (0 : Int32) K (dk_of tX10_pump 11 rfl) (by decide) ?_
    exact b22 y2 y3 y4 (0 : Int32) μ5 hR
  refine r_aload_n 0 0 K (dk_of tX10_pump 0 rfl) rfl rfl ?_
  refine r_aload_n 1 0 K (dk_of tX10_pump 1 rfl) rfl rfl ?_
  refine r_iload_n 2 1 K (dk_of tX10_pump 2 rfl) rfl rfl ?_
  obtain ⟨x1, hc, hR⟩ := o1 hR
  refine r_cVi 3 0 [.int p1] [.ref (am 0)] x1 (wM γ am μ ++ (r)) K (ct_X10_isShip hl hc.symm) cs_X10_136 ⟨rfl, rfl, rfl⟩ (dk_of tX10_pump 3 rfl) rfl rfl rfl rfl rfl rfl ?_
  refine r_if_eq 6 21 K (dk_of tX10_pump 4 rfl) (by decide) hR (fun hR => ?_) (fun hR => ?_)
  · exact b21 p1 p2 p3 μ hR
  · refine r_aload_n 9 0 K (dk_of tX10_pump 5 rfl) rfl rfl ?_
    refine r_iload_n 10 2 K (dk_of tX10_pump 6 rfl) rfl rfl ?_
    obtain ⟨x38, hc, hR⟩ := o1 hR
    refine r_cVi 11 0 [.int p2] [.ref (am 0)] x38 (wM γ am μ ++ (r)) K (ct_X10_isShip hl hc.symm) cs_X10_136 ⟨rfl, rfl, rfl⟩ (dk_of tX10_pump 7 rfl) rfl rfl rfl rfl rfl rfl ?_
    refine r_if_eq 14 21 K (dk_of tX10_pump 8 rfl) (by decide) hR (fun hR => ?_) (fun hR => ?_)
    · exact b21 p1 p2 p3 μ hR
    · refine r_iconst 17 (1 : Int32) K (dk_of tX10_pump 9 rfl) (by decide) ?_
      refine r_goto 18 22 K (dk_of tX10_pump 10 rfl) (by decide) ?_
      exact b22 p1 p2 p3 (1 : Int32) μ hR

def sp_X10_shipHas (p1 : Int32) (μ : St) : Option (Int32 × St) := b1 (sp_X10_isShip p1 μ) (fun (x1 : Int32) => b2 (sp_X10_fails x1 (1 : Int32) μ) (fun (x2 : Int32) (μ3 : St) => if x2 = 0 then (if ((144 : Int32) + p1) < 0 ∨ 174 ≤ ((144 : Int32) + p1).toNatClampNeg then none else (some ((μ3 1 ((144 : Int32) + p1).toNatClampNeg), μ3))) else (some ((0 : Int32), μ3))))
set_option maxHeartbeats 4000000 in
set_option maxRecDepth 100000 in
theorem ct_X10_shipHas {l : Launch} (hl : l.stackTraces = false) {γ : Gd} {am : Nat → Nat} {μ : St} {r : va_W} {p1 : Int32} {x0 : Int32} {μ0 : St} (hR : some (x0, μ0) = sp_X10_shipHas p1 μ) : Ct l γ yX10_shipHas (Cond.code yX10_shipHas cX10_shipHas 2 (some .int)) ({ frames := 2, cells := 0, slots := 0, locals := 43 } : Room) [.ref (am 0), .int p1] (wM γ am μ ++ (r)) (Pr (some (.int x0)) (wM γ am μ0 ++ (r))) 0 0 := by
  refine Ct_of hl (by decide +kernel) rfl (Nat.le_of_ble_eq_true rfl) (L := [some (.ref (am 0)), some (.int p1)]) rfl ?_
  intro X Q K hQ
  generalize ((wM γ am μ ++ (r), Q) : MX) = M at K hQ ⊢
  unfold sp_X10_shipHas at hR
  refine r_aload_n 0 0 K (dk_of tX10_shipHas 0 rfl) rfl rfl ?_
  refine r_aload_n 1 0 K (dk_of tX10_shipHas 1 rfl) rfl rfl ?_
  refine r_iload_n 2 1 K (dk_of tX10_shipHas 2 rfl) rfl rfl ?_
  obtain ⟨x1, hc, hR⟩ := o1 hR
  refine r_cVi 3 0 [.int p1] [.ref (am 0)] x1 (wM γ am μ ++ (r)) K (ct_X10_isShip hl hc.symm) cs_X10_136 ⟨rfl, rfl, rfl⟩ (dk_of tX10_shipHas 3 rfl) rfl rfl rfl rfl rfl rfl ?_
  refine r_iconst 6 (1 : Int32) K (dk_of tX10_shipHas 4 rfl) (by decide) ?_
  obtain ⟨x2, μ3, hc, hR⟩ := o2 hR
  refine r_cVi 7 0 [.int x1, .int (1 : Int32)] [] x2 (wM γ am μ3 ++ (r)) K (ct_X10_fails hl hc.symm) cs_X10_131 ⟨rfl, rfl, rfl⟩ (dk_of tX10_shipHas 5 rfl) rfl rfl rfl rfl rfl rfl ?_
  refine r_if_eq 10 15 K (dk_of tX10_shipHas 6 rfl) (by decide) hR (fun hR => ?_) (fun hR => ?_)
  · refine r_aload_n 15 0 K (dk_of tX10_shipHas 9 rfl) rfl rfl ?_
    refine r_getf (C := RX10) (T := TX10) (N := 29) 16 0 0 K (dk_of tX10_shipHas 10 rfl) w1028 gwX10 rfl rfl (by decide) rfl ?_
    refine r_sipush 19 (144 : Int32) K (dk_of tX10_shipHas 11 rfl) (by decide) ?_
    refine r_iload_n 22 1 K (dk_of tX10_shipHas 12 rfl) rfl rfl ?_
    refine r_iadd 23 K (dk_of tX10_shipHas 13 rfl) ?_
    refine r_ialdR 24 1 K (dk_of tX10_shipHas 14 rfl) rfl hR (fun hR => ?_)
    exact r_iret 25 K hQ (dk_of tX10_shipHas 15 rfl) (Nat.zero_le _) (Nat.zero_le _) (lfi (fun u9 : St => wM γ am u9 ++ (r)) hR)
  · refine r_iconst 13 (0 : Int32) K (dk_of tX10_shipHas 7 rfl) (by decide) ?_
    exact r_iret 14 K hQ (dk_of tX10_shipHas 8 rfl) (Nat.zero_le _) (Nat.zero_le _) (lfi (fun u9 : St => wM γ am u9 ++ (r)) hR)

def sp_X10_tide (p1 : Int32)  : Option (Int32) := sl ((p1 - p1 / (12 : Int32) * (12 : Int32))) (fun x1 : Int32 => if (6 : Int32) < x1 then (some ((12 : Int32) - x1)) else (some x1))
set_option maxHeartbeats 4000000 in
set_option maxRecDepth 100000 in
theorem ct_X10_tide {l : Launch} (hl : l.stackTraces = false) {γ : Gd}   {w : va_W} {p1 : Int32} {x0 : Int32} (hR : some x0 = sp_X10_tide p1) : Ct l γ yX10_tide (Cond.code yX10_tide cX10_tide 2 (some .int)) ({ frames := 0, cells := 0, slots := 0, locals := 0 } : Room) [.int p1] (w) (Pr (some (.int x0)) (w)) 0 0 := by
  refine Ct_of hl (by decide +kernel) rfl (Nat.le_of_ble_eq_true rfl) (L := [some (.int p1), none]) rfl ?_
  intro X Q K hQ
  generalize ((w, Q) : MX) = M at K hQ ⊢
  unfold sp_X10_tide at hR
  refine r_iload_n 0 0 K (dk_of tX10_tide 0 rfl) rfl rfl ?_
  refine r_bipush 1 (12 : Int32) K (dk_of tX10_tide 1 rfl) (by decide) ?_
  refine r_irem 3 K (dk_of tX10_tide 2 rfl) (by decide) ?_
  refine r_nmI hR (fun x1 hR => ?_)
  refine r_istore_n 4 1 [some (.int p1), some (.int x1)] K (dk_of tX10_tide 3 rfl) rfl rfl rfl (by decide) ?_
  refine r_iload_n 5 1 K (dk_of tX10_tide 4 rfl) rfl rfl ?_
  refine r_bipush 6 (6 : Int32) K (dk_of tX10_tide 5 rfl) (by decide) ?_
  refine r_ic_gt 8 15 K (dk_of tX10_tide 6 rfl) (by decide) hR (fun hR => ?_) (fun hR => ?_)
  · refine r_bipush 15 (12 : Int32) K (dk_of tX10_tide 9 rfl) (by decide) ?_
    refine r_iload_n 17 1 K (dk_of tX10_tide 10 rfl) rfl rfl ?_
    refine r_isub 18 K (dk_of tX10_tide 11 rfl) ?_
    exact r_iret 19 K hQ (dk_of tX10_tide 12 rfl) (Nat.zero_le _) (Nat.zero_le _) (lfi0 hR)
  · refine r_iload_n 11 1 K (dk_of tX10_tide 7 rfl) rfl rfl ?_
    refine r_goto 12 19 K (dk_of tX10_tide 8 rfl) (by decide) ?_
    exact r_iret 19 K hQ (dk_of tX10_tide 12 rfl) (Nat.zero_le _) (Nat.zero_le _) (lfi0 hR)

def sp_X10_least (p1 : Int32) (p2 : Int32)  : Option (Int32) := if p2 ≤ p1 then (some p2) else (some p1)
set_option maxHeartbeats 4000000 in
set_option maxRecDepth 100000 in
theorem ct_X10_least {l : Launch} (hl : l.stackTraces = false) {γ : Gd}   {w : va_W} {p1 : Int32} {p2 : Int32} {x0 : Int32} (hR : some x0 = sp_X10_least p1 p2) : Ct l γ yX10_least (Cond.code yX10_least cX10_least 2 (some .int)) ({ frames := 0, cells := 0, slots := 0, locals := 0 } : Room) [.int p1, .int p2] (w) (Pr (some (.int x0)) (w)) 0 0 := by
  refine Ct_of hl (by decide +kernel) rfl (Nat.le_of_ble_eq_true rfl) (L := [some (.int p1), some (.int p2)]) rfl ?_
  intro X Q K hQ
  generalize ((w, Q) : MX) = M at K hQ ⊢
  unfold sp_X10_least at hR
  refine r_iload_n 0 0 K (dk_of tX10_least 0 rfl) rfl rfl ?_
  refine r_iload_n 1 1 K (dk_of tX10_least 1 rfl) rfl rfl ?_
  refine r_ic_ge 2 9 K (dk_of tX10_least 2 rfl) (by decide) hR (fun hR => ?_) (fun hR => ?_)
  · refine r_iload_n 9 1 K (dk_of tX10_least 5 rfl) rfl rfl ?_
    exact r_iret 10 K hQ (dk_of tX10_least 6 rfl) (Nat.zero_le _) (Nat.zero_le _) (lfi0 hR)
  · refine r_iload_n 5 0 K (dk_of tX10_least 3 rfl) rfl rfl ?_
    refine r_goto 6 10 K (dk_of tX10_least 4 rfl) (by decide) ?_
    exact r_iret 10 K hQ (dk_of tX10_least 6 rfl) (Nat.zero_le _) (Nat.zero_le _) (lfi0 hR)

def sp_X10_leak (p1 : Int32) (p2 : Int32) (μ : St) : Option (Int32) := if ((144 : Int32) + p1) < 0 ∨ 174 ≤ ((144 : Int32) + p1).toNatClampNeg then none else (b1 (sp_X10_tide p2) (fun (x1 : Int32) => sl ((((μ 1 ((144 : Int32) + p1).toNatClampNeg) / (1000 : Int32)) - x1)) (fun x2 : Int32 => if 0 < x2 then (if ((144 : Int32) + p1) < 0 ∨ 174 ≤ ((144 : Int32) + p1).toNatClampNeg then none else (if p1 < 0 ∨ 4 ≤ p1.toNatClampNeg then none else (b1 (sp_X10_least (μ 1 ((144 : Int32) + p1).toNatClampNeg) ((μ 7 p1.toNatClampNeg) * x2)) (fun (x3 : Int32) => some x3)))) else (some (0 : Int32)))))
set_option maxHeartbeats 4000000 in
set_option maxRecDepth 100000 in
theorem ct_X10_leak {l : Launch} (hl : l.stackTraces = false) {γ : Gd} {am : Nat → Nat} {μ : St} {r : va_W} {p1 : Int32} {p2 : Int32} {x0 : Int32} (hR : some x0 = sp_X10_leak p1 p2 μ) : Ct l γ yX10_leak (Cond.code yX10_leak cX10_leak 4 (some .int)) ({ frames := 1, cells := 0, slots := 0, locals := 21 } : Room) [.ref (am 0), .int p1, .int p2] (wM γ am μ ++ (r)) (Pr (some (.int x0)) (wM γ am μ ++ (r))) 0 0 := by
  refine Ct_of hl (by decide +kernel) rfl (Nat.le_of_ble_eq_true rfl) (L := [some (.ref (am 0)), some (.int p1), some (.int p2), none]) rfl ?_
  intro X Q K hQ
  generalize ((wM γ am μ ++ (r), Q) : MX) = M at K hQ ⊢
  unfold sp_X10_leak at hR
  refine r_aload_n 0 0 K (dk_of tX10_leak 0 rfl) rfl rfl ?_
  refine r_getf (C := RX10) (T := TX10) (N := 29) 1 0 0 K (dk_of tX10_leak 1 rfl) w1028 gwX10 rfl rfl (by decide) rfl ?_
  refine r_sipush 4 (144 : Int32) K (dk_of tX10_leak 2 rfl) (by decide) ?_
  refine r_iload_n 7 1 K (dk_of tX10_leak 3 rfl) rfl rfl ?_
  refine r_iadd 8 K (dk_of tX10_leak 4 rfl) ?_
  refine r_ialdR 9 1 K (dk_of tX10_leak 5 rfl) rfl hR (fun hR => ?_)
  refine r_sipush 10 (1000 : Int32) K (dk_of tX10_leak 6 rfl) (by decide) ?_
  refine r_idiv 13 K (dk_of tX10_leak 7 rfl) (by decide) ?_
  refine r_iload_n 14 2 K (dk_of tX10_leak 8 rfl) rfl rfl ?_
  obtain ⟨x1, hc, hR⟩ := o1 hR
  refine r_cSi 15 [.int p2] [.int ((μ 1 ((144 : Int32) + p1).toNatClampNeg) / (1000 : Int32))] x1 (wM γ am μ ++ (r)) K (ct_X10_tide hl hc.symm) cs_X10_84 ⟨rfl, rfl, rfl⟩ (dk_of tX10_leak 9 rfl) rfl rfl rfl rfl ?_
  refine r_isub 18 K (dk_of tX10_leak 10 rfl) ?_
  refine r_nmI hR (fun x2 hR => ?_)
  refine r_istore_n 19 3 [some (.ref (am 0)), some (.int p1), some (.int p2), some (.int x2)] K (dk_of tX10_leak 11 rfl) rfl rfl rfl (by decide) ?_
  refine r_iload_n 20 3 K (dk_of tX10_leak 12 rfl) rfl rfl ?_
  refine r_if_gt 21 28 K (dk_of tX10_leak 13 rfl) (by decide) hR (fun hR => ?_) (fun hR => ?_)
  · refine r_aload_n 28 0 K (dk_of tX10_leak 16 rfl) rfl rfl ?_
    refine r_getf (C := RX10) (T := TX10) (N := 29) 29 0 0 K (dk_of tX10_leak 17 rfl) w1028 gwX10 rfl rfl (by decide) rfl ?_
    refine r_sipush 32 (144 : Int32) K (dk_of tX10_leak 18 rfl) (by decide) ?_
    refine r_iload_n 35 1 K (dk_of tX10_leak 19 rfl) rfl rfl ?_
    refine r_iadd 36 K (dk_of tX10_leak 20 rfl) ?_
    refine r_ialdR 37 1 K (dk_of tX10_leak 21 rfl) rfl hR (fun hR => ?_)
    refine r_aload_n 38 0 K (dk_of tX10_leak 22 rfl) rfl rfl ?_
    refine r_getf (C := RX10) (T := TX10) (N := 29) 39 0 9 K (dk_of tX10_leak 23 rfl) w1037 gwX10 rfl rfl (by decide) rfl ?_
    refine r_iload_n 42 1 K (dk_of tX10_leak 24 rfl) rfl rfl ?_
    refine r_ialdR 43 7 K (dk_of tX10_leak 25 rfl) rfl hR (fun hR => ?_)
    refine r_iload_n 44 3 K (dk_of tX10_leak 26 rfl) rfl rfl ?_
    refine r_imul 45 K (dk_of tX10_leak 27 rfl) ?_
    obtain ⟨x3, hc, hR⟩ := o1 hR
    refine r_cSi 46 [.int (μ 1 ((144 : Int32) + p1).toNatClampNeg), .int ((μ 7 p1.toNatClampNeg) * x2)] [] x3 (wM γ am μ ++ (r)) K (ct_X10_least hl hc.symm) cs_X10_88 ⟨rfl, rfl, rfl⟩ (dk_of tX10_leak 28 rfl) rfl rfl rfl rfl ?_
    exact r_iret 49 K hQ (dk_of tX10_leak 29 rfl) (Nat.zero_le _) (Nat.zero_le _) (lfi0 hR)
  · refine r_iconst 24 (0 : Int32) K (dk_of tX10_leak 14 rfl) (by decide) ?_
    refine r_goto 25 49 K (dk_of tX10_leak 15 rfl) (by decide) ?_
    exact r_iret 49 K hQ (dk_of tX10_leak 29 rfl) (Nat.zero_le _) (Nat.zero_le _) (lfi0 hR)

def sp_X10_weather (p1 : Int32) (μ : St) : Option (St) := if ((0 : Int32) + p1) < 0 ∨ 174 ≤ ((0 : Int32) + p1).toNatClampNeg then none else (sl (((μ 1 ((0 : Int32) + p1).toNatClampNeg) / (20 : Int32))) (fun x1 : Int32 => if ((0 : Int32) + p1) < 0 ∨ 174 ≤ ((0 : Int32) + p1).toNatClampNeg then none else (if ((0 : Int32) + p1) < 0 ∨ 174 ≤ ((0 : Int32) + p1).toNatClampNeg then none else (sl (stU μ 1 ((0 : Int32) + p1).toNatClampNeg ((μ 1 ((0 : Int32) + p1).toNatClampNeg) - x1)) (fun μ2 : St => sl (stU μ2 1 (171 : Int32).toNatClampNeg ((μ2 1 (171 : Int32).toNatClampNeg) + x1)) (fun μ3 : St => if ((0 : Int32) + p1) < 0 ∨ 174 ≤ ((0 : Int32) + p1).toNatClampNeg then none else (sl (((μ3 1 ((0 : Int32) + p1).toNatClampNeg) / (10 : Int32))) (fun x4 : Int32 => if ((0 : Int32) + p1) < 0 ∨ 174 ≤ ((0 : Int32) + p1).toNatClampNeg then none else (if ((0 : Int32) + p1) < 0 ∨ 174 ≤ ((0 : Int32) + p1).toNatClampNeg then none else (sl (stU μ3 1 ((0 : Int32) + p1).toNatClampNeg ((μ3 1 ((0 : Int32) + p1).toNatClampNeg) - x4)) (fun μ5 : St => if ((24 : Int32) + p1) < 0 ∨ 174 ≤ ((24 : Int32) + p1).toNatClampNeg then none else (if ((24 : Int32) + p1) < 0 ∨ 174 ≤ ((24 : Int32) + p1).toNatClampNeg then none else (sl (stU μ5 1 ((24 : Int32) + p1).toNatClampNeg ((μ5 1 ((24 : Int32) + p1).toNatClampNeg) + x4)) (fun μ6 : St => if ((24 : Int32) + p1) < 0 ∨ 174 ≤ ((24 : Int32) + p1).toNatClampNeg then none else (sl (((μ6 1 ((24 : Int32) + p1).toNatClampNeg) / (50 : Int32))) (fun x7 : Int32 => if ((24 : Int32) + p1) < 0 ∨ 174 ≤ ((24 : Int32) + p1).toNatClampNeg then none else (if ((24 : Int32) + p1) < 0 ∨ 174 ≤ ((24 : Int32) + p1).toNatClampNeg then none else (sl (stU μ6 1 ((24 : Int32) + p1).toNatClampNeg ((μ6 1 ((24 : Int32) + p1).toNatClampNeg) - x7)) (fun μ8 : St => sl (stU μ8 1 (172 : Int32).toNatClampNeg ((μ8 1 (172 : Int32).toNatClampNeg) + x7)) (fun μ9 : St => some μ9))))))))))))))))))))
set_option maxHeartbeats 4000000 in
set_option maxRecDepth 100000 in
theorem ct_X10_weather {l : Launch} (hl : l.stackTraces = false) {γ : Gd} {am : Nat → Nat} {μ : St} {r : va_W} {p1 : Int32} {μ0 : St} (hR : some μ0 = sp_X10_weather p1 μ) : Ct l γ yX10_weather (Cond.code yX10_weather cX10_weather 5 none) ({ frames := 0, cells := 0, slots := 0, locals := 0 } : Room) [.ref (am 0), .int p1] (wM γ am μ ++ (r)) (Pr none (wM γ am μ0 ++ (r))) 0 0 := by
  refine Ct_of hl (by decide +kernel) rfl (Nat.le_of_ble_eq_true rfl) (L := [some (.ref (am 0)), some (.int p1), none, none, none]) rfl ?_
  intro X Q K hQ
  generalize ((wM γ am μ ++ (r), Q) : MX) = M at K hQ ⊢
  unfold sp_X10_weather at hR
  refine r_aload_n 0 0 K (dk_of tX10_weather 0 rfl) rfl rfl ?_
  refine r_getf (C := RX10) (T := TX10) (N := 29) 1 0 0 K (dk_of tX10_weather 1 rfl) w1028 gwX10 rfl rfl (by decide) rfl ?_
  refine r_iconst 4 (0 : Int32) K (dk_of tX10_weather 2 rfl) (by decide) ?_
  refine r_iload_n 5 1 K (dk_of tX10_weather 3 rfl) rfl rfl ?_
  refine r_iadd 6 K (dk_of tX10_weather 4 rfl) ?_
  refine r_ialdR 7 1 K (dk_of tX10_weather 5 rfl) rfl hR (fun hR => ?_)
  refine r_bipush 8 (20 : Int32) K (dk_of tX10_weather 6 rfl) (by decide) ?_
  refine r_idiv 10 K (dk_of tX10_weather 7 rfl) (by decide) ?_
  refine r_nmI hR (fun x1 hR => ?_)
  refine r_istore_n 11 2 [some (.ref (am 0)), some (.int p1), some (.int x1), none, none] K (dk_of tX10_weather 8 rfl) rfl rfl rfl (by decide) ?_
  refine r_aload_n 12 0 K (dk_of tX10_weather 9 rfl) rfl rfl ?_
  refine r_getf (C := RX10) (T := TX10) (N := 29) 13 0 0 K (dk_of tX10_weather 10 rfl) w1028 gwX10 rfl rfl (by decide) rfl ?_
  refine r_iconst 16 (0 : Int32) K (dk_of tX10_weather 11 rfl) (by decide) ?_
  refine r_iload_n 17 1 K (dk_of tX10_weather 12 rfl) rfl rfl ?_
  refine r_iadd 18 K (dk_of tX10_weather 13 rfl) ?_
  refine r_dup2 19 K (dk_of tX10_weather 14 rfl) rfl rfl ?_
  refine r_ialdR 20 1 K (dk_of tX10_weather 15 rfl) rfl hR (fun hR => ?_)
  refine r_iload_n 21 2 K (dk_of tX10_weather 16 rfl) rfl rfl ?_
  refine r_isub 22 K (dk_of tX10_weather 17 rfl) ?_
  refine r_iastR 23 1 K (dk_of tX10_weather 18 rfl) rfl sM_1 hR (fun hR => ?_)
  refine r_nmS (fun μ2 : St => wM γ am μ2 ++ (r)) hR (fun μ2 hR => ?_)
  refine r_aload_n 24 0 K (dk_of tX10_weather 19 rfl) rfl rfl ?_
  refine r_getf (C := RX10) (T := TX10) (N := 29) 25 0 0 K (dk_of tX10_weather 20 rfl) w1028 gwX10 rfl rfl (by decide) rfl ?_
  refine r_sipush 28 (171 : Int32) K (dk_of tX10_weather 21 rfl) (by decide) ?_
  refine r_dup2 31 K (dk_of tX10_weather 22 rfl) rfl rfl ?_
  refine r_iald 32 1 K (dk_of tX10_weather 23 rfl) rfl (vpd (by decide)) ?_
  refine r_iload_n 33 2 K (dk_of tX10_weather 24 rfl) rfl rfl ?_
  refine r_iadd 34 K (dk_of tX10_weather 25 rfl) ?_
  refine r_iast 35 1 K (dk_of tX10_weather 26 rfl) rfl (vpd (by decide)) sM_1 ?_
  refine r_nmS (fun μ3 : St => wM γ am μ3 ++ (r)) hR (fun μ3 hR => ?_)
  refine r_aload_n 36 0 K (dk_of tX10_weather 27 rfl) rfl rfl ?_
  refine r_getf (C := RX10) (T := TX10) (N := 29) 37 0 0 K (dk_of tX10_weather 28 rfl) w1028 gwX10 rfl rfl (by decide) rfl ?_
  refine r_iconst 40 (0 : Int32) K (dk_of tX10_weather 29 rfl) (by decide) ?_
  refine r_iload_n 41 1 K (dk_of tX10_weather 30 rfl) rfl rfl ?_
  refine r_iadd 42 K (dk_of tX10_weather 31 rfl) ?_
  refine r_ialdR 43 1 K (dk_of tX10_weather 32 rfl) rfl hR (fun hR => ?_)
  refine r_bipush 44 (10 : Int32) K (dk_of tX10_weather 33 rfl) (by decide) ?_
  refine r_idiv 46 K (dk_of tX10_weather 34 rfl) (by decide) ?_
  refine r_nmI hR (fun x4 hR => ?_)
  refine r_istore_n 47 3 [some (.ref (am 0)), some (.int p1), some (.int x1), some (.int x4), none] K (dk_of tX10_weather 35 rfl) rfl rfl rfl (by decide) ?_
  refine r_aload_n 48 0 K (dk_of tX10_weather 36 rfl) rfl rfl ?_
  refine r_getf (C := RX10) (T := TX10) (N := 29) 49 0 0 K (dk_of tX10_weather 37 rfl) w1028 gwX10 rfl rfl (by decide) rfl ?_
  refine r_iconst 52 (0 : Int32) K (dk_of tX10_weather 38 rfl) (by decide) ?_
  refine r_iload_n 53 1 K (dk_of tX10_weather 39 rfl) rfl rfl ?_
  refine r_iadd 54 K (dk_of tX10_weather 40 rfl) ?_
  refine r_dup2 55 K (dk_of tX10_weather 41 rfl) rfl rfl ?_
  refine r_ialdR 56 1 K (dk_of tX10_weather 42 rfl) rfl hR (fun hR => ?_)
  refine r_iload_n 57 3 K (dk_of tX10_weather 43 rfl) rfl rfl ?_
  refine r_isub 58 K (dk_of tX10_weather 44 rfl) ?_
  refine r_iastR 59 1 K (dk_of tX10_weather 45 rfl) rfl sM_1 hR (fun hR => ?_)
  refine r_nmS (fun μ5 : St => wM γ am μ5 ++ (r)) hR (fun μ5 hR => ?_)
  refine r_aload_n 60 0 K (dk_of tX10_weather 46 rfl) rfl rfl ?_
  refine r_getf (C := RX10) (T := TX10) (N := 29) 61 0 0 K (dk_of tX10_weather 47 rfl) w1028 gwX10 rfl rfl (by decide) rfl ?_
  refine r_bipush 64 (24 : Int32) K (dk_of tX10_weather 48 rfl) (by decide) ?_
  refine r_iload_n 66 1 K (dk_of tX10_weather 49 rfl) rfl rfl ?_
  refine r_iadd 67 K (dk_of tX10_weather 50 rfl) ?_
  refine r_dup2 68 K (dk_of tX10_weather 51 rfl) rfl rfl ?_
  refine r_ialdR 69 1 K (dk_of tX10_weather 52 rfl) rfl hR (fun hR => ?_)
  refine r_iload_n 70 3 K (dk_of tX10_weather 53 rfl) rfl rfl ?_
  refine r_iadd 71 K (dk_of tX10_weather 54 rfl) ?_
  refine r_iastR 72 1 K (dk_of tX10_weather 55 rfl) rfl sM_1 hR (fun hR => ?_)
  refine r_nmS (fun μ6 : St => wM γ am μ6 ++ (r)) hR (fun μ6 hR => ?_)
  refine r_aload_n 73 0 K (dk_of tX10_weather 56 rfl) rfl rfl ?_
  refine r_getf (C := RX10) (T := TX10) (N := 29) 74 0 0 K (dk_of tX10_weather 57 rfl) w1028 gwX10 rfl rfl (by decide) rfl ?_
  refine r_bipush 77 (24 : Int32) K (dk_of tX10_weather 58 rfl) (by decide) ?_
  refine r_iload_n 79 1 K (dk_of tX10_weather 59 rfl) rfl rfl ?_
  refine r_iadd 80 K (dk_of tX10_weather 60 rfl) ?_
  refine r_ialdR 81 1 K (dk_of tX10_weather 61 rfl) rfl hR (fun hR => ?_)
  refine r_bipush 82 (50 : Int32) K (dk_of tX10_weather 62 rfl) (by decide) ?_
  refine r_idiv 84 K (dk_of tX10_weather 63 rfl) (by decide) ?_
  refine r_nmI hR (fun x7 hR => ?_)
  refine r_istore 85 4 [some (.ref (am 0)), some (.int p1), some (.int x1), some (.int x4), some (.int x7)] K (dk_of tX10_weather 64 rfl) rfl rfl (by decide) ?_
  refine r_aload_n 87 0 K (dk_of tX10_weather 65 rfl) rfl rfl ?_
  refine r_getf (C := RX10) (T := TX10) (N := 29) 88 0 0 K (dk_of tX10_weather 66 rfl) w1028 gwX10 rfl rfl (by decide) rfl ?_
  refine r_bipush 91 (24 : Int32) K (dk_of tX10_weather 67 rfl) (by decide) ?_
  refine r_iload_n 93 1 K (dk_of tX10_weather 68 rfl) rfl rfl ?_
  refine r_iadd 94 K (dk_of tX10_weather 69 rfl) ?_
  refine r_dup2 95 K (dk_of tX10_weather 70 rfl) rfl rfl ?_
  refine r_ialdR 96 1 K (dk_of tX10_weather 71 rfl) rfl hR (fun hR => ?_)
  refine r_iload 97 4 K (dk_of tX10_weather 72 rfl) rfl ?_
  refine r_isub 99 K (dk_of tX10_weather 73 rfl) ?_
  refine r_iastR 100 1 K (dk_of tX10_weather 74 rfl) rfl sM_1 hR (fun hR => ?_)
  refine r_nmS (fun μ8 : St => wM γ am μ8 ++ (r)) hR (fun μ8 hR => ?_)
  refine r_aload_n 101 0 K (dk_of tX10_weather 75 rfl) rfl rfl ?_
  refine r_getf (C := RX10) (T := TX10) (N := 29) 102 0 0 K (dk_of tX10_weather 76 rfl) w1028 gwX10 rfl rfl (by decide) rfl ?_
  refine r_sipush 105 (172 : Int32) K (dk_of tX10_weather 77 rfl) (by decide) ?_
  refine r_dup2 108 K (dk_of tX10_weather 78 rfl) rfl rfl ?_
  refine r_iald 109 1 K (dk_of tX10_weather 79 rfl) rfl (vpd (by decide)) ?_
  refine r_iload 110 4 K (dk_of tX10_weather 80 rfl) rfl ?_
  refine r_iadd 112 K (dk_of tX10_weather 81 rfl) ?_
  refine r_iast 113 1 K (dk_of tX10_weather 82 rfl) rfl (vpd (by decide)) sM_1 ?_
  refine r_nmS (fun μ9 : St => wM γ am μ9 ++ (r)) hR (fun μ9 hR => ?_)
  exact r_vret 114 K hQ (dk_of tX10_weather 83 rfl) (Nat.zero_le _) (Nat.zero_le _) (lfv (fun u9 : St => wM γ am u9 ++ (r)) hR)

def sp_X10_beside_55  (y1 : Int32) (y2 : Int32) : Option (Int32) := sl ((y1 + y2)) (fun x3 : Int32 => b1 (sp_X10_isCell x3) (fun (x4 : Int32) => if x4 = 0 then (some (-1 : Int32)) else (some x3)))
def sp_X10_beside_18  (y5 : Int32) (y6 : Int32) (y7 : Int32) : Option (Int32) := sl ((y6 + y7)) (fun x8 : Int32 => b1 (sp_X10_in x8 (0 : Int32) (5 : Int32)) (fun (x9 : Int32) => if x9 = 0 then (some (-1 : Int32)) else (some ((y5 - (y5 - y5 / (6 : Int32) * (6 : Int32))) + x8))))
def sp_X10_beside (p1 : Int32) (p2 : Int32)  : Option (Int32) := if (2 : Int32) ≤ p2 then (if p2 = (2 : Int32) then (sp_X10_beside_55 p1 (6 : Int32)) else (sp_X10_beside_55 p1 (-6 : Int32))) else (if p2 = 0 then (sp_X10_beside_18 p1 (p1 - p1 / (6 : Int32) * (6 : Int32)) (1 : Int32)) else (sp_X10_beside_18 p1 (p1 - p1 / (6 : Int32) * (6 : Int32)) (-1 : Int32)))
set_option maxHeartbeats 4000000 in
set_option maxRecDepth 100000 in
theorem ct_X10_beside {l : Launch} (hl : l.stackTraces = false) {γ : Gd}   {w : va_W} {p1 : Int32} {p2 : Int32} {x0 : Int32} (hR : some x0 = sp_X10_beside p1 p2) : Ct l γ yX10_beside (Cond.code yX10_beside cX10_beside 3 (some .int)) ({ frames := 2, cells := 0, slots := 0, locals := 42 } : Room) [.int p1, .int p2] (w) (Pr (some (.int x0)) (w)) 0 0 := by
  refine Ct_of hl (by decide +kernel) rfl (Nat.le_of_ble_eq_true rfl) (L := [some (.int p1), some (.int p2), none]) rfl ?_
  intro X Q K hQ
  generalize ((w, Q) : MX) = M at K hQ ⊢
  unfold sp_X10_beside at hR
  have b55 : ∀ (y1 : Int32) (y2 : Int32), some x0 = sp_X10_beside_55  y1 y2 → V l γ X M (w) [none, none, none] 0 0 55 [.int y2, .int y1] := by
    intro  y1 y2 hR
    unfold sp_X10_beside_55 at hR
    refine r_iadd 55 K (dk_of tX10_beside 35 rfl) ?_
    refine r_nmI hR (fun x3 hR => ?_)
    refine r_istore_n 56 2 [none, none, some (.int x3)] K (dk_of tX10_beside 36 rfl) rfl rfl rfl (by decide) ?_
    refine r_iload_n 57 2 K (dk_of tX10_beside 37 rfl) rfl rfl ?_
    obtain ⟨x4, hc, hR⟩ := o1 hR
    refine r_cSi 58 [.int x3] [] x4 (w) K (ct_X10_isCell hl hc.symm) cs_X10_76 ⟨rfl, rfl, rfl⟩ (dk_of tX10_beside 38 rfl) rfl rfl rfl rfl ?_
    refine r_if_eq 61 68 K (dk_of tX10_beside 39 rfl) (by decide) hR (fun hR => ?_) (fun hR => ?_)
    · refine r_iconst 68 (-1) K (dk_of tX10_beside 42 rfl) (by decide) ?_
      exact r_iret 69 K hQ (dk_of tX10_beside 43 rfl) (Nat.zero_le _) (Nat.zero_le _) (lfi0 hR)
    · refine r_iload_n 64 2 K (dk_of tX10_beside 40 rfl) rfl rfl ?_
      refine r_goto 65 69 K (dk_of tX10_beside 41 rfl) (by decide) ?_
      exact r_iret 69 K hQ (dk_of tX10_beside 43 rfl) (Nat.zero_le _) (Nat.zero_le _) (lfi0 hR)
  have b18 : ∀ (y5 : Int32) (y6 : Int32) (y7 : Int32), some x0 = sp_X10_beside_18  y5 y6 y7 → V l γ X M (w) [some (.int y5), none, none] 0 0 18 [.int y7, .int y6] := by
    intro  y5 y6 y7 hR
    unfold sp_X10_beside_18 at hR
    refine r_iadd 18 K (dk_of tX10_beside 11 rfl) ?_
    refine r_nmI hR (fun x8 hR => ?_)
    refine r_istore_n 19 2 [some (.int y5), none, some (.int x8)] K (dk_of tX10_beside 12 rfl) rfl rfl rfl (by decide) ?_
    refine r_iload_n 20 2 K (dk_of tX10_beside 13 rfl) rfl rfl ?_
    refine r_iconst 21 (0 : Int32) K (dk_of tX10_beside 14 rfl) (by decide) ?_
    refine r_iconst 22 (5 : Int32) K (dk_of tX10_beside 15 rfl) (by decide) ?_
    obtain ⟨x9, hc, hR⟩ := o1 hR
    refine r_cSi 23 [.int x8, .int (0 : Int32), .int (5 : Int32)] [] x9 (w) K (ct_X10_in hl hc.symm) cs_X10_66 ⟨rfl, rfl, rfl⟩ (dk_of tX10_beside 16 rfl) rfl rfl rfl rfl ?_
    refine r_if_eq 26 40 K (dk_of tX10_beside 17 rfl) (by decide) hR (fun hR => ?_) (fun hR => ?_)
    · refine r_iconst 40 (-1) K (dk_of tX10_beside 26 rfl) (by decide) ?_
      exact r_iret 41 K hQ (dk_of tX10_beside 27 rfl) (Nat.zero_le _) (Nat.zero_le _) (lfi0 hR)
    · refine r_iload_n 29 0 K (dk_of tX10_beside 18 rfl) rfl rfl ?_
      refine r_iload_n 30 0 K (dk_of tX10_beside 19 rfl) rfl rfl ?_
      refine r_bipush 31 (6 : Int32) K (dk_of tX10_beside 20 rfl) (by decide) ?_
      refine r_irem 33 K (dk_of tX10_beside 21 rfl) (by decide) ?_
      refine r_isub 34 K (dk_of tX10_beside 22 rfl) ?_
      refine r_iload_n 35 2 K (dk_of tX10_beside 23 rfl) rfl rfl ?_
      refine r_iadd 36 K (dk_of tX10_beside 24 rfl) ?_
      refine r_goto 37 41 K (dk_of tX10_beside 25 rfl) (by decide) ?_
      exact r_iret 41 K hQ (dk_of tX10_beside 27 rfl) (Nat.zero_le _) (Nat.zero_le _) (lfi0 hR)
  refine r_iload_n 0 1 K (dk_of tX10_beside 0 rfl) rfl rfl ?_
  refine r_iconst 1 (2 : Int32) K (dk_of tX10_beside 1 rfl) (by decide) ?_
  refine r_ic_ge 2 42 K (dk_of tX10_beside 2 rfl) (by decide) hR (fun hR => ?_) (fun hR => ?_)
  · refine r_iload_n 42 0 K (dk_of tX10_beside 28 rfl) rfl rfl ?_
    refine r_iload_n 43 1 K (dk_of tX10_beside 29 rfl) rfl rfl ?_
    refine r_iconst 44 (2 : Int32) K (dk_of tX10_beside 30 rfl) (by decide) ?_
    refine r_ic_ne 45 53 K (dk_of tX10_beside 31 rfl) (by decide) hR (fun hR => ?_) (fun hR => ?_)
    · refine r_bipush 48 (6 : Int32) K (dk_of tX10_beside 32 rfl) (by decide) ?_
      refine r_goto 50 55 K (dk_of tX10_beside 33 rfl) (by decide) ?_
      exact r_msk [false, false, true] [none, none, none] rfl (b55 p1 (6 : Int32) hR)
    · refine r_bipush 53 (-6) K (dk_of tX10_beside 34 rfl) (by decide) ?_
      exact r_msk [false, false, true] [none, none, none] rfl (b55 p1 (-6 : Int32) hR)
  · refine r_iload_n 5 0 K (dk_of tX10_beside 3 rfl) rfl rfl ?_
    refine r_bipush 6 (6 : Int32) K (dk_of tX10_beside 4 rfl) (by decide) ?_
    refine r_irem 8 K (dk_of tX10_beside 5 rfl) (by decide) ?_
    refine r_iload_n 9 1 K (dk_of tX10_beside 6 rfl) rfl rfl ?_
    refine r_if_ne 10 17 K (dk_of tX10_beside 7 rfl) (by decide) hR (fun hR => ?_) (fun hR => ?_)
    · refine r_iconst 13 (1 : Int32) K (dk_of tX10_beside 8 rfl) (by decide) ?_
      refine r_goto 14 18 K (dk_of tX10_beside 9 rfl) (by decide) ?_
      exact r_msk [true, false, true] [some (.int p1), none, none] rfl (b18 p1 (p1 - p1 / (6 : Int32) * (6 : Int32)) (1 : Int32) hR)
    · refine r_iconst 17 (-1) K (dk_of tX10_beside 10 rfl) (by decide) ?_
      exact r_msk [true, false, true] [some (.int p1), none, none] rfl (b18 p1 (p1 - p1 / (6 : Int32) * (6 : Int32)) (-1 : Int32) hR)

def sp_X10_holds (p1 : Int32) (μ : St) : Option (Int32) := if p1 < 0 ∨ 24 ≤ p1.toNatClampNeg then none else (if (μ 3 p1.toNatClampNeg) = (1 : Int32) then (some (200 : Int32)) else (if p1 < 0 ∨ 24 ≤ p1.toNatClampNeg then none else (if (μ 3 p1.toNatClampNeg) = (2 : Int32) then (some (500 : Int32)) else (some (1000 : Int32)))))
set_option maxHeartbeats 4000000 in
set_option maxRecDepth 100000 in
theorem ct_X10_holds {l : Launch} (hl : l.stackTraces = false) {γ : Gd} {am : Nat → Nat} {μ : St} {r : va_W} {p1 : Int32} {x0 : Int32} (hR : some x0 = sp_X10_holds p1 μ) : Ct l γ yX10_holds (Cond.code yX10_holds cX10_holds 2 (some .int)) ({ frames := 0, cells := 0, slots := 0, locals := 0 } : Room) [.ref (am 0), .int p1] (wM γ am μ ++ (r)) (Pr (some (.int x0)) (wM γ am μ ++ (r))) 0 0 := by
  refine Ct_of hl (by decide +kernel) rfl (Nat.le_of_ble_eq_true rfl) (L := [some (.ref (am 0)), some (.int p1)]) rfl ?_
  intro X Q K hQ
  generalize ((wM γ am μ ++ (r), Q) : MX) = M at K hQ ⊢
  unfold sp_X10_holds at hR
  refine r_aload_n 0 0 K (dk_of tX10_holds 0 rfl) rfl rfl ?_
  refine r_getf (C := RX10) (T := TX10) (N := 29) 1 0 2 K (dk_of tX10_holds 1 rfl) w1030 gwX10 rfl rfl (by decide) rfl ?_
  refine r_iload_n 4 1 K (dk_of tX10_holds 2 rfl) rfl rfl ?_
  refine r_ialdR 5 3 K (dk_of tX10_holds 3 rfl) rfl hR (fun hR => ?_)
  refine r_iconst 6 (1 : Int32) K (dk_of tX10_holds 4 rfl) (by decide) ?_
  refine r_ic_ne 7 16 K (dk_of tX10_holds 5 rfl) (by decide) hR (fun hR => ?_) (fun hR => ?_)
  · refine r_sipush 10 (200 : Int32) K (dk_of tX10_holds 6 rfl) (by decide) ?_
    refine r_goto 13 35 K (dk_of tX10_holds 7 rfl) (by decide) ?_
    exact r_iret 35 K hQ (dk_of tX10_holds 17 rfl) (Nat.zero_le _) (Nat.zero_le _) (lfi0 hR)
  · refine r_aload_n 16 0 K (dk_of tX10_holds 8 rfl) rfl rfl ?_
    refine r_getf (C := RX10) (T := TX10) (N := 29) 17 0 2 K (dk_of tX10_holds 9 rfl) w1030 gwX10 rfl rfl (by decide) rfl ?_
    refine r_iload_n 20 1 K (dk_of tX10_holds 10 rfl) rfl rfl ?_
    refine r_ialdR 21 3 K (dk_of tX10_holds 11 rfl) rfl hR (fun hR => ?_)
    refine r_iconst 22 (2 : Int32) K (dk_of tX10_holds 12 rfl) (by decide) ?_
    refine r_ic_ne 23 32 K (dk_of tX10_holds 13 rfl) (by decide) hR (fun hR => ?_) (fun hR => ?_)
    · refine r_sipush 26 (500 : Int32) K (dk_of tX10_holds 14 rfl) (by decide) ?_
      refine r_goto 29 35 K (dk_of tX10_holds 15 rfl) (by decide) ?_
      exact r_iret 35 K hQ (dk_of tX10_holds 17 rfl) (Nat.zero_le _) (Nat.zero_le _) (lfi0 hR)
    · refine r_sipush 32 (1000 : Int32) K (dk_of tX10_holds 16 rfl) (by decide) ?_
      exact r_iret 35 K hQ (dk_of tX10_holds 17 rfl) (Nat.zero_le _) (Nat.zero_le _) (lfi0 hR)

def sp_X10_borderOf_24  (y6 : Int32) (y7 : Int32) (y8 : Int32) : Option (Int32) := if y8 = 0 then (some (((4 : Int32) * y6) + y7)) else (b1 (sp_X10_beside y6 y7) (fun (x9 : Int32) => some ((((4 : Int32) * x9) + y7) - (1 : Int32))))
def sp_X10_borderOf_23  (y4 : Int32) (y5 : Int32) : Option (Int32) := sp_X10_borderOf_24 y4 y5 (0 : Int32)
def sp_X10_borderOf_10  (y1 : Int32) (y2 : Int32) : Option (Int32) := b1 (sp_X10_beside y1 y2) (fun (x3 : Int32) => if x3 = (-1 : Int32) then (sp_X10_borderOf_23 y1 y2) else (sp_X10_borderOf_24 y1 y2 (1 : Int32)))
def sp_X10_borderOf (p1 : Int32) (p2 : Int32)  : Option (Int32) := if p2 = (1 : Int32) then (sp_X10_borderOf_10 p1 p2) else (if p2 ≤ (2 : Int32) then (sp_X10_borderOf_23 p1 p2) else (sp_X10_borderOf_10 p1 p2))
set_option maxHeartbeats 4000000 in
set_option maxRecDepth 100000 in
theorem ct_X10_borderOf {l : Launch} (hl : l.stackTraces = false) {γ : Gd}   {w : va_W} {p1 : Int32} {p2 : Int32} {x0 : Int32} (hR : some x0 = sp_X10_borderOf p1 p2) : Ct l γ yX10_borderOf (Cond.code yX10_borderOf cX10_borderOf 3 (some .int)) ({ frames := 3, cells := 0, slots := 0, locals := 64 } : Room) [.int p1, .int p2] (w) (Pr (some (.int x0)) (w)) 0 0 := by
  refine Ct_of hl (by decide +kernel) rfl (Nat.le_of_ble_eq_true rfl) (L := [some (.int p1), some (.int p2), none]) rfl ?_
  intro X Q K hQ
  generalize ((w, Q) : MX) = M at K hQ ⊢
  unfold sp_X10_borderOf at hR
  have b24 : ∀ (y6 : Int32) (y7 : Int32) (y8 : Int32), some x0 = sp_X10_borderOf_24  y6 y7 y8 → V l γ X M (w) [some (.int y6), some (.int y7), none] 0 0 24 [.int y8] := by
    intro  y6 y7 y8 hR
    unfold sp_X10_borderOf_24 at hR
    refine r_istore_n 24 2 [some (.int y6), some (.int y7), some (.int y8)] K (dk_of tX10_borderOf 14 rfl) rfl rfl rfl (by decide) ?_
    refine r_iload_n 25 2 K (dk_of tX10_borderOf 15 rfl) rfl rfl ?_
    refine r_if_eq 26 43 K (dk_of tX10_borderOf 16 rfl) (by decide) hR (fun hR => ?_) (fun hR => ?_)
    · refine r_iconst 43 (4 : Int32) K (dk_of tX10_borderOf 27 rfl) (by decide) ?_
      refine r_iload_n 44 0 K (dk_of tX10_borderOf 28 rfl) rfl rfl ?_
      refine r_imul 45 K (dk_of tX10_borderOf 29 rfl) ?_
      refine r_iload_n 46 1 K (dk_of tX10_borderOf 30 rfl) rfl rfl ?_
      refine r_iadd 47 K (dk_of tX10_borderOf 31 rfl) ?_
      exact r_iret 48 K hQ (dk_of tX10_borderOf 32 rfl) (Nat.zero_le _) (Nat.zero_le _) (lfi0 hR)
    · refine r_iconst 29 (4 : Int32) K (dk_of tX10_borderOf 17 rfl) (by decide) ?_
      refine r_iload_n 30 0 K (dk_of tX10_borderOf 18 rfl) rfl rfl ?_
      refine r_iload_n 31 1 K (dk_of tX10_borderOf 19 rfl) rfl rfl ?_
      obtain ⟨x9, hc, hR⟩ := o1 hR
      refine r_cSi 32 [.int y6, .int y7] [.int (4 : Int32)] x9 (w) K (ct_X10_beside hl hc.symm) cs_X10_80 ⟨rfl, rfl, rfl⟩ (dk_of tX10_borderOf 20 rfl) rfl rfl rfl rfl ?_
      refine r_imul 35 K (dk_of tX10_borderOf 21 rfl) ?_
      refine r_iload_n 36 1 K (dk_of tX10_borderOf 22 rfl) rfl rfl ?_
      refine r_iadd 37 K (dk_of tX10_borderOf 23 rfl) ?_
      refine r_iconst 38 (1 : Int32) K (dk_of tX10_borderOf 24 rfl) (by decide) ?_
      refine r_isub 39 K (dk_of tX10_borderOf 25 rfl) ?_
      refine r_goto 40 48 K (dk_of tX10_borderOf 26 rfl) (by decide) ?_
      exact r_iret 48 K hQ (dk_of tX10_borderOf 32 rfl) (Nat.zero_le _) (Nat.zero_le _) (lfi0 hR)
  have b23 : ∀ (y4 : Int32) (y5 : Int32), some x0 = sp_X10_borderOf_23  y4 y5 → V l γ X M (w) [some (.int y4), some (.int y5), none] 0 0 23 [] := by
    intro  y4 y5 hR
    unfold sp_X10_borderOf_23 at hR
    refine r_iconst 23 (0 : Int32) K (dk_of tX10_borderOf 13 rfl) (by decide) ?_
    exact b24 y4 y5 (0 : Int32) hR
  have b10 : ∀ (y1 : Int32) (y2 : Int32), some x0 = sp_X10_borderOf_10  y1 y2 → V l γ X M (w) [some (.int y1), some (.int y2), none] 0 0 10 [] := by
    intro  y1 y2 hR
    unfold sp_X10_borderOf_10 at hR
    refine r_iload_n 10 0 K (dk_of tX10_borderOf 6 rfl) rfl rfl ?_
    refine r_iload_n 11 1 K (dk_of tX10_borderOf 7 rfl) rfl rfl ?_
    obtain ⟨x3, hc, hR⟩ := o1 hR
    refine r_cSi 12 [.int y1, .int y2] [] x3 (w) K (ct_X10_beside hl hc.symm) cs_X10_80 ⟨rfl, rfl, rfl⟩ (dk_of tX10_borderOf 8 rfl) rfl rfl rfl rfl ?_
    refine r_iconst 15 (-1) K (dk_of tX10_borderOf 9 rfl) (by decide) ?_
    refine r_ic_eq 16 23 K (dk_of tX10_borderOf 10 rfl) (by decide) hR (fun hR => ?_) (fun hR => ?_)
    · exact b23 y1 y2 hR
    · refine r_iconst 19 (1 : Int32) K (dk_of tX10_borderOf 11 rfl) (by decide) ?_
      refine r_goto 20 24 K (dk_of tX10_borderOf 12 rfl) (by decide) ?_
      exact b24 y1 y2 (1 : Int32) hR
  refine r_iload_n 0 1 K (dk_of tX10_borderOf 0 rfl) rfl rfl ?_
  refine r_iconst 1 (1 : Int32) K (dk_of tX10_borderOf 1 rfl) (by decide) ?_
  refine r_ic_eq 2 10 K (dk_of tX10_borderOf 2 rfl) (by decide) hR (fun hR => ?_) (fun hR => ?_)
  · exact b10 p1 p2 hR
  · refine r_iload_n 5 1 K (dk_of tX10_borderOf 3 rfl) rfl rfl ?_
    refine r_iconst 6 (2 : Int32) K (dk_of tX10_borderOf 4 rfl) (by decide) ?_
    refine r_ic_le 7 23 K (dk_of tX10_borderOf 5 rfl) (by decide) hR (fun hR => ?_) (fun hR => ?_)
    · exact b23 p1 p2 hR
    · exact b10 p1 p2 hR

def sp_X10_boomOn_2 (μ : St) (y1 : Int32) : Nat → Int32 → Option (Int32)
  | 0, _ => none
  | n + 1, y2 => if (μ 0 10) ≤ y2 then (some (-1 : Int32)) else (if y2 < 0 ∨ 20 ≤ y2.toNatClampNeg then none else (if (μ 8 y2.toNatClampNeg) = 0 then (if y2 < 0 ∨ 20 ≤ y2.toNatClampNeg then none else (if (μ 10 y2.toNatClampNeg) = y1 then (if ((148 : Int32) + y2) < 0 ∨ 174 ≤ ((148 : Int32) + y2).toNatClampNeg then none else (if (μ 1 ((148 : Int32) + y2).toNatClampNeg) = 0 then (some y2) else (sp_X10_boomOn_2 μ y1 n (y2 + 1)))) else (sp_X10_boomOn_2 μ y1 n (y2 + 1)))) else (sp_X10_boomOn_2 μ y1 n (y2 + 1))))
def sp_X10_boomOn (p1 : Int32) (μ : St) : Option (Int32) := sp_X10_boomOn_2 μ p1 200 (0 : Int32)
set_option maxHeartbeats 4000000 in
set_option maxRecDepth 100000 in
theorem ct_X10_boomOn {l : Launch} (hl : l.stackTraces = false) {γ : Gd} {am : Nat → Nat} {μ : St} {r : va_W} {p1 : Int32} {x0 : Int32} (hR : some x0 = sp_X10_boomOn p1 μ) : Ct l γ yX10_boomOn (Cond.code yX10_boomOn cX10_boomOn 3 (some .int)) ({ frames := 0, cells := 0, slots := 0, locals := 0 } : Room) [.ref (am 0), .int p1] (wM γ am μ ++ (r)) (Pr (some (.int x0)) (wM γ am μ ++ (r))) 0 0 := by
  refine Ct_of hl (by decide +kernel) rfl (Nat.le_of_ble_eq_true rfl) (L := [some (.ref (am 0)), some (.int p1), none]) rfl ?_
  intro X Q K hQ
  generalize ((wM γ am μ ++ (r), Q) : MX) = M at K hQ ⊢
  unfold sp_X10_boomOn at hR
  have b2 : ∀ (y1 : Int32) (n : Nat) (y2 : Int32), some x0 = sp_X10_boomOn_2 μ y1 n y2 → V l γ X M (wM γ am μ ++ (r)) [some (.ref (am 0)), some (.int y1), some (.int y2)] 0 0 2 [] := by
    intro y1 n
    induction n with
    | zero => intro y2 hR; exact nn_ hR
    | succ n ih2 =>
      intro y2 hR
      rw [sp_X10_boomOn_2] at hR
      refine r_iload_n 2 2 K (dk_of tX10_boomOn 2 rfl) rfl rfl ?_
      refine r_aload_n 3 0 K (dk_of tX10_boomOn 3 rfl) rfl rfl ?_
      refine r_getf (C := RX10) (T := TX10) (N := 29) 4 0 10 K (dk_of tX10_boomOn 4 rfl) w1038 gwX10 rfl rfl (by decide) rfl ?_
      refine r_ic_ge 7 50 K (dk_of tX10_boomOn 5 rfl) (by decide) hR (fun hR => ?_) (fun hR => ?_)
      · refine r_iconst 50 (-1) K (dk_of tX10_boomOn 28 rfl) (by decide) ?_
        exact r_iret 51 K hQ (dk_of tX10_boomOn 29 rfl) (Nat.zero_le _) (Nat.zero_le _) (lfi0 hR)
      · refine r_aload_n 10 0 K (dk_of tX10_boomOn 6 rfl) rfl rfl ?_
        refine r_getf (C := RX10) (T := TX10) (N := 29) 11 0 11 K (dk_of tX10_boomOn 7 rfl) w1039 gwX10 rfl rfl (by decide) rfl ?_
        refine r_iload_n 14 2 K (dk_of tX10_boomOn 8 rfl) rfl rfl ?_
        refine r_ialdR 15 8 K (dk_of tX10_boomOn 9 rfl) rfl hR (fun hR => ?_)
        refine r_if_ne 16 44 K (dk_of tX10_boomOn 10 rfl) (by decide) hR (fun hR => ?_) (fun hR => ?_)
        · refine r_aload_n 19 0 K (dk_of tX10_boomOn 11 rfl) rfl rfl ?_
          refine r_getf (C := RX10) (T := TX10) (N := 29) 20 0 13 K (dk_of tX10_boomOn 12 rfl) w1041 gwX10 rfl rfl (by decide) rfl ?_
          refine r_iload_n 23 2 K (dk_of tX10_boomOn 13 rfl) rfl rfl ?_
          refine r_ialdR 24 10 K (dk_of tX10_boomOn 14 rfl) rfl hR (fun hR => ?_)
          refine r_iload_n 25 1 K (dk_of tX10_boomOn 15 rfl) rfl rfl ?_
          refine r_ic_ne 26 44 K (dk_of tX10_boomOn 16 rfl) (by decide) hR (fun hR => ?_) (fun hR => ?_)
          · refine r_aload_n 29 0 K (dk_of tX10_boomOn 17 rfl) rfl rfl ?_
            refine r_getf (C := RX10) (T := TX10) (N := 29) 30 0 0 K (dk_of tX10_boomOn 18 rfl) w1028 gwX10 rfl rfl (by decide) rfl ?_
            refine r_sipush 33 (148 : Int32) K (dk_of tX10_boomOn 19 rfl) (by decide) ?_
            refine r_iload_n 36 2 K (dk_of tX10_boomOn 20 rfl) rfl rfl ?_
            refine r_iadd 37 K (dk_of tX10_boomOn 21 rfl) ?_
            refine r_ialdR 38 1 K (dk_of tX10_boomOn 22 rfl) rfl hR (fun hR => ?_)
            refine r_if_ne 39 44 K (dk_of tX10_boomOn 23 rfl) (by decide) hR (fun hR => ?_) (fun hR => ?_)
            · refine r_iload_n 42 2 K (dk_of tX10_boomOn 24 rfl) rfl rfl ?_
              exact r_iret 43 K hQ (dk_of tX10_boomOn 25 rfl) (Nat.zero_le _) (Nat.zero_le _) (lfi0 hR)
            · refine r_iinc 44 2 (y2 + 1) [some (.ref (am 0)), some (.int y1), some (.int (y2 + 1))] K (dk_of tX10_boomOn 26 rfl) rfl rfl rfl rfl (by decide) ?_
              refine r_goto 47 2 K (dk_of tX10_boomOn 27 rfl) (by decide) ?_
              exact ih2 (y2 + 1) hR
          · refine r_iinc 44 2 (y2 + 1) [some (.ref (am 0)), some (.int y1), some (.int (y2 + 1))] K (dk_of tX10_boomOn 26 rfl) rfl rfl rfl rfl (by decide) ?_
            refine r_goto 47 2 K (dk_of tX10_boomOn 27 rfl) (by decide) ?_
            exact ih2 (y2 + 1) hR
        · refine r_iinc 44 2 (y2 + 1) [some (.ref (am 0)), some (.int y1), some (.int (y2 + 1))] K (dk_of tX10_boomOn 26 rfl) rfl rfl rfl rfl (by decide) ?_
          refine r_goto 47 2 K (dk_of tX10_boomOn 27 rfl) (by decide) ?_
          exact ih2 (y2 + 1) hR
  refine r_iconst 0 (0 : Int32) K (dk_of tX10_boomOn 0 rfl) (by decide) ?_
  refine r_istore_n 1 2 [some (.ref (am 0)), some (.int p1), some (.int (0 : Int32))] K (dk_of tX10_boomOn 1 rfl) rfl rfl rfl (by decide) ?_
  exact b2 p1 200 (0 : Int32) hR

def sp_X10_look_193  (y29 : Int32) (y30 : Int32) (y31 : Int32) (y32 : Int32) (y33 : Int32) (μ34 : St) : Option (St) := if y32 < 0 ∨ 48 ≤ y32.toNatClampNeg then none else (sl (stU μ34 5 y32.toNatClampNeg y33) (fun μ35 : St => if y31 = 0 then (if ((24 : Int32) + y29) < 0 ∨ 48 ≤ ((24 : Int32) + y29).toNatClampNeg then none else (sl (stU μ35 5 ((24 : Int32) + y29).toNatClampNeg y30) (fun μ36 : St => some μ36))) else (if ((24 : Int32) + y29) < 0 ∨ 48 ≤ ((24 : Int32) + y29).toNatClampNeg then none else (sl (stU μ35 5 ((24 : Int32) + y29).toNatClampNeg (0 : Int32)) (fun μ37 : St => some μ37)))))
def sp_X10_look_178  (y24 : Int32) (y25 : Int32) (y26 : Int32) (y27 : Int32) (μ28 : St) : Option (St) := if y27 = 0 then (sp_X10_look_193 y24 y26 y27 y24 y25 μ28) else (sp_X10_look_193 y24 y26 y27 y24 (0 : Int32) μ28)
def sp_X10_look_153  (y18 : Int32) (y19 : Int32) (y20 : Int32) (y21 : Int32) (y22 : Int32) (μ23 : St) : Option (St) := if y21 = (-1 : Int32) then (sp_X10_look_178 y18 y19 y20 y22 μ23) else (if y22 = 0 then (if ((148 : Int32) + y21) < 0 ∨ 174 ≤ ((148 : Int32) + y21).toNatClampNeg then none else (sl (stU μ23 1 ((148 : Int32) + y21).toNatClampNeg (1 : Int32)) (fun μ38 : St => sp_X10_look_178 y18 y19 y20 y22 μ38))) else (sp_X10_look_178 y18 y19 y20 y22 μ23))
def sp_X10_look_152  (y13 : Int32) (y14 : Int32) (y15 : Int32) (y16 : Int32) (μ17 : St) : Option (St) := sp_X10_look_153 y13 y14 y15 y16 (0 : Int32) μ17
def sp_X10_look_117  (y8 : Int32) (y9 : Int32) (y10 : Int32) (y11 : Int32) (μ12 : St) : Option (St) := if y8 < 0 ∨ 24 ≤ y8.toNatClampNeg then none else (if (μ12 3 y8.toNatClampNeg) = 0 then (if y11 = (-1 : Int32) then (sp_X10_look_152 y8 y9 y10 y11 μ12) else (if y11 < 0 ∨ 20 ≤ y11.toNatClampNeg then none else (if (μ12 11 y11.toNatClampNeg) < (μ12 0 6) then (sp_X10_look_152 y8 y9 y10 y11 μ12) else (sp_X10_look_153 y8 y9 y10 y11 (1 : Int32) μ12)))) else (sp_X10_look_153 y8 y9 y10 y11 (1 : Int32) μ12))
def sp_X10_look_94  (y4 : Int32) (y5 : Int32) (y6 : Int32) (μ7 : St) : Option (St) := if (y5 + y6) ≤ 0 then (sp_X10_look_117 y4 y5 y6 (-1 : Int32) μ7) else (b1 (sp_X10_borderOf y4 (μ7 0 5)) (fun (x39 : Int32) => b1 (sp_X10_boomOn x39 μ7) (fun (x40 : Int32) => sp_X10_look_117 y4 y5 y6 x40 μ7)))
def sp_X10_look (p1 : Int32) (μ : St) : Option (St) := b1 (sp_X10_beside p1 (μ 0 5)) (fun (x1 : Int32) => if ((0 : Int32) + p1) < 0 ∨ 174 ≤ ((0 : Int32) + p1).toNatClampNeg then none else (sl ((((μ 1 ((0 : Int32) + p1).toNatClampNeg) * (μ 0 6)) / (10 : Int32))) (fun x2 : Int32 => if ((24 : Int32) + p1) < 0 ∨ 174 ≤ ((24 : Int32) + p1).toNatClampNeg then none else (sl ((((μ 1 ((24 : Int32) + p1).toNatClampNeg) * (μ 0 6)) / (10 : Int32))) (fun x3 : Int32 => if x1 = (-1 : Int32) then (sp_X10_look_94 p1 x2 x3 μ) else (if x1 < 0 ∨ 24 ≤ x1.toNatClampNeg then none else (if (μ 3 x1.toNatClampNeg) = 0 then (sp_X10_look_94 p1 x2 x3 μ) else (b1 (sp_X10_holds x1 μ) (fun (x41 : Int32) => if ((48 : Int32) + x1) < 0 ∨ 174 ≤ ((48 : Int32) + x1).toNatClampNeg then none else (sl ((x41 - (μ 1 ((48 : Int32) + x1).toNatClampNeg))) (fun x42 : Int32 => b1 (sp_X10_least x2 x42) (fun (x43 : Int32) => b1 (sp_X10_least x3 (x42 - x43)) (fun (x44 : Int32) => sp_X10_look_94 p1 x43 x44 μ)))))))))))))
set_option maxHeartbeats 4000000 in
set_option maxRecDepth 100000 in
theorem ct_X10_look {l : Launch} (hl : l.stackTraces = false) {γ : Gd} {am : Nat → Nat} {μ : St} {r : va_W} {p1 : Int32} {μ0 : St} (hR : some μ0 = sp_X10_look p1 μ) : Ct l γ yX10_look (Cond.code yX10_look cX10_look 7 none) ({ frames := 4, cells := 0, slots := 0, locals := 86 } : Room) [.ref (am 0), .int p1] (wM γ am μ ++ (r)) (Pr none (wM γ am μ0 ++ (r))) 0 0 := by
  refine Ct_of hl (by decide +kernel) rfl (Nat.le_of_ble_eq_true rfl) (L := [some (.ref (am 0)), some (.int p1), none, none, none, none, none]) rfl ?_
  intro X Q K hQ
  generalize ((wM γ am μ ++ (r), Q) : MX) = M at K hQ ⊢
  unfold sp_X10_look at hR
  have b193 : ∀ (y29 : Int32) (y30 : Int32) (y31 : Int32) (y32 : Int32) (y33 : Int32) (μ34 : St), some μ0 = sp_X10_look_193  y29 y30 y31 y32 y33 μ34 → V l γ X M (wM γ am μ34 ++ (r)) [some (.ref (am 0)), some (.int y29), none, none, some (.int y30), none, some (.int y31)] 0 0 193 [.int y33, .int y32, .ref (am 5)] := by
    intro  y29 y30 y31 y32 y33 μ34 hR
    unfold sp_X10_look_193 at hR
    refine r_iastR 193 5 K (dk_of tX10_look_1 10 rfl) rfl sM_5 hR (fun hR => ?_)
    refine r_nmS (fun μ35 : St => wM γ am μ35 ++ (r)) hR (fun μ35 hR => ?_)
    refine r_aload_n 194 0 K (dk_of tX10_look_1 11 rfl) rfl rfl ?_
    refine r_getf (C := RX10) (T := TX10) (N := 29) 195 0 4 K (dk_of tX10_look_1 12 rfl) w1032 gwX10 rfl rfl (by decide) rfl ?_
    refine r_bipush 198 (24 : Int32) K (dk_of tX10_look_1 13 rfl) (by decide) ?_
    refine r_iload_n 200 1 K (dk_of tX10_look_1 14 rfl) rfl rfl ?_
    refine r_iadd 201 K (dk_of tX10_look_1 15 rfl) ?_
    refine r_iload 202 6 K (dk_of tX10_look_1 16 rfl) rfl ?_
    refine r_if_eq 204 211 K (dk_of tX10_look_1 17 rfl) (by decide) hR (fun hR => ?_) (fun hR => ?_)
    · refine r_iload 211 4 K (dk_of tX10_look_1 20 rfl) rfl ?_
      refine r_iastR 213 5 K (dk_of tX10_look_1 21 rfl) rfl sM_5 hR (fun hR => ?_)
      refine r_nmS (fun μ36 : St => wM γ am μ36 ++ (r)) hR (fun μ36 hR => ?_)
      exact r_vret 214 K hQ (dk_of tX10_look_1 22 rfl) (Nat.zero_le _) (Nat.zero_le _) (lfv (fun u9 : St => wM γ am u9 ++ (r)) hR)
    · refine r_iconst 207 (0 : Int32) K (dk_of tX10_look_1 18 rfl) (by decide) ?_
      refine r_goto 208 213 K (dk_of tX10_look_1 19 rfl) (by decide) ?_
      refine r_iastR 213 5 K (dk_of tX10_look_1 21 rfl) rfl sM_5 hR (fun hR => ?_)
      refine r_nmS (fun μ37 : St => wM γ am μ37 ++ (r)) hR (fun μ37 hR => ?_)
      exact r_vret 214 K hQ (dk_of tX10_look_1 22 rfl) (Nat.zero_le _) (Nat.zero_le _) (lfv (fun u9 : St => wM γ am u9 ++ (r)) hR)
  have b178 : ∀ (y24 : Int32) (y25 : Int32) (y26 : Int32) (y27 : Int32) (μ28 : St), some μ0 = sp_X10_look_178  y24 y25 y26 y27 μ28 → V l γ X M (wM γ am μ28 ++ (r)) [some (.ref (am 0)), some (.int y24), none, some (.int y25), some (.int y26), none, some (.int y27)] 0 0 178 [] := by
    intro  y24 y25 y26 y27 μ28 hR
    unfold sp_X10_look_178 at hR
    refine r_aload_n 178 0 K (dk_of tX10_look_1 2 rfl) rfl rfl ?_
    refine r_getf (C := RX10) (T := TX10) (N := 29) 179 0 4 K (dk_of tX10_look_1 3 rfl) w1032 gwX10 rfl rfl (by decide) rfl ?_
    refine r_iload_n 182 1 K (dk_of tX10_look_1 4 rfl) rfl rfl ?_
    refine r_iload 183 6 K (dk_of tX10_look_1 5 rfl) rfl ?_
    refine r_if_eq 185 192 K (dk_of tX10_look_1 6 rfl) (by decide) hR (fun hR => ?_) (fun hR => ?_)
    · refine r_iload_n 192 3 K (dk_of tX10_look_1 9 rfl) rfl rfl ?_
      exact r_msk [true, true, true, false, true, true, true] [some (.ref (am 0)), some (.int y24), none, none, some (.int y26), none, some (.int y27)] rfl (b193 y24 y26 y27 y24 y25 μ28 hR)
    · refine r_iconst 188 (0 : Int32) K (dk_of tX10_look_1 7 rfl) (by decide) ?_
      refine r_goto 189 193 K (dk_of tX10_look_1 8 rfl) (by decide) ?_
      exact r_msk [true, true, true, false, true, true, true] [some (.ref (am 0)), some (.int y24), none, none, some (.int y26), none, some (.int y27)] rfl (b193 y24 y26 y27 y24 (0 : Int32) μ28 hR)
  have b153 : ∀ (y18 : Int32) (y19 : Int32) (y20 : Int32) (y21 : Int32) (y22 : Int32) (μ23 : St), some μ0 = sp_X10_look_153  y18 y19 y20 y21 y22 μ23 → V l γ X M (wM γ am μ23 ++ (r)) [some (.ref (am 0)), some (.int y18), none, some (.int y19), some (.int y20), some (.int y21), none] 0 0 153 [.int y22] := by
    intro  y18 y19 y20 y21 y22 μ23 hR
    unfold sp_X10_look_153 at hR
    refine r_istore 153 6 [some (.ref (am 0)), some (.int y18), none, some (.int y19), some (.int y20), some (.int y21), some (.int y22)] K (dk_of tX10_look_0 89 rfl) rfl rfl (by decide) ?_
    refine r_iload 155 5 K (dk_of tX10_look_0 90 rfl) rfl ?_
    refine r_iconst 157 (-1) K (dk_of tX10_look_0 91 rfl) (by decide) ?_
    refine r_ic_eq 158 178 K (dk_of tX10_look_0 92 rfl) (by decide) hR (fun hR => ?_) (fun hR => ?_)
    · exact r_msk [true, true, true, true, true, false, true] [some (.ref (am 0)), some (.int y18), none, some (.int y19), some (.int y20), none, some (.int y22)] rfl (b178 y18 y19 y20 y22 μ23 hR)
    · refine r_iload 161 6 K (dk_of tX10_look_0 93 rfl) rfl ?_
      refine r_if_ne 163 178 K (dk_of tX10_look_0 94 rfl) (by decide) hR (fun hR => ?_) (fun hR => ?_)
      · refine r_aload_n 166 0 K (dk_of tX10_look_0 95 rfl) rfl rfl ?_
        refine r_getf (C := RX10) (T := TX10) (N := 29) 167 0 0 K (dk_of tX10_look_0 96 rfl) w1028 gwX10 rfl rfl (by decide) rfl ?_
        refine r_sipush 170 (148 : Int32) K (dk_of tX10_look_0 97 rfl) (by decide) ?_
        refine r_iload 173 5 K (dk_of tX10_look_0 98 rfl) rfl ?_
        refine r_iadd 175 K (dk_of tX10_look_0 99 rfl) ?_
        refine r_iconst 176 (1 : Int32) K (dk_of tX10_look_1 0 rfl) (by decide) ?_
        refine r_iastR 177 1 K (dk_of tX10_look_1 1 rfl) rfl sM_1 hR (fun hR => ?_)
        refine r_nmS (fun μ38 : St => wM γ am μ38 ++ (r)) hR (fun μ38 hR => ?_)
        exact r_msk [true, true, true, true, true, false, true] [some (.ref (am 0)), some (.int y18), none, some (.int y19), some (.int y20), none, some (.int y22)] rfl (b178 y18 y19 y20 y22 μ38 hR)
      · exact r_msk [true, true, true, true, true, false, true] [some (.ref (am 0)), some (.int y18), none, some (.int y19), some (.int y20), none, some (.int y22)] rfl (b178 y18 y19 y20 y22 μ23 hR)
  have b152 : ∀ (y13 : Int32) (y14 : Int32) (y15 : Int32) (y16 : Int32) (μ17 : St), some μ0 = sp_X10_look_152  y13 y14 y15 y16 μ17 → V l γ X M (wM γ am μ17 ++ (r)) [some (.ref (am 0)), some (.int y13), none, some (.int y14), some (.int y15), some (.int y16), none] 0 0 152 [] := by
    intro  y13 y14 y15 y16 μ17 hR
    unfold sp_X10_look_152 at hR
    refine r_iconst 152 (0 : Int32) K (dk_of tX10_look_0 88 rfl) (by decide) ?_
    exact b153 y13 y14 y15 y16 (0 : Int32) μ17 hR
  have b117 : ∀ (y8 : Int32) (y9 : Int32) (y10 : Int32) (y11 : Int32) (μ12 : St), some μ0 = sp_X10_look_117  y8 y9 y10 y11 μ12 → V l γ X M (wM γ am μ12 ++ (r)) [some (.ref (am 0)), some (.int y8), none, some (.int y9), some (.int y10), none, none] 0 0 117 [.int y11] := by
    intro  y8 y9 y10 y11 μ12 hR
    unfold sp_X10_look_117 at hR
    refine r_istore 117 5 [some (.ref (am 0)), some (.int y8), none, some (.int y9), some (.int y10), some (.int y11), none] K (dk_of tX10_look_0 70 rfl) rfl rfl (by decide) ?_
    refine r_aload_n 119 0 K (dk_of tX10_look_0 71 rfl) rfl rfl ?_
    refine r_getf (C := RX10) (T := TX10) (N := 29) 120 0 2 K (dk_of tX10_look_0 72 rfl) w1030 gwX10 rfl rfl (by decide) rfl ?_
    refine r_iload_n 123 1 K (dk_of tX10_look_0 73 rfl) rfl rfl ?_
    refine r_ialdR 124 3 K (dk_of tX10_look_0 74 rfl) rfl hR (fun hR => ?_)
    refine r_if_ne 125 148 K (dk_of tX10_look_0 75 rfl) (by decide) hR (fun hR => ?_) (fun hR => ?_)
    · refine r_iload 128 5 K (dk_of tX10_look_0 76 rfl) rfl ?_
      refine r_iconst 130 (-1) K (dk_of tX10_look_0 77 rfl) (by decide) ?_
      refine r_ic_eq 131 152 K (dk_of tX10_look_0 78 rfl) (by decide) hR (fun hR => ?_) (fun hR => ?_)
      · exact b152 y8 y9 y10 y11 μ12 hR
      · refine r_aload_n 134 0 K (dk_of tX10_look_0 79 rfl) rfl rfl ?_
        refine r_getf (C := RX10) (T := TX10) (N := 29) 135 0 14 K (dk_of tX10_look_0 80 rfl) w1042 gwX10 rfl rfl (by decide) rfl ?_
        refine r_iload 138 5 K (dk_of tX10_look_0 81 rfl) rfl ?_
        refine r_ialdR 140 11 K (dk_of tX10_look_0 82 rfl) rfl hR (fun hR => ?_)
        refine r_aload_n 141 0 K (dk_of tX10_look_0 83 rfl) rfl rfl ?_
        refine r_getf (C := RX10) (T := TX10) (N := 29) 142 0 6 K (dk_of tX10_look_0 84 rfl) w1034 gwX10 rfl rfl (by decide) rfl ?_
        refine r_ic_lt 145 152 K (dk_of tX10_look_0 85 rfl) (by decide) hR (fun hR => ?_) (fun hR => ?_)
        · exact b152 y8 y9 y10 y11 μ12 hR
        · refine r_iconst 148 (1 : Int32) K (dk_of tX10_look_0 86 rfl) (by decide) ?_
          refine r_goto 149 153 K (dk_of tX10_look_0 87 rfl) (by decide) ?_
          exact b153 y8 y9 y10 y11 (1 : Int32) μ12 hR
    · refine r_iconst 148 (1 : Int32) K (dk_of tX10_look_0 86 rfl) (by decide) ?_
      refine r_goto 149 153 K (dk_of tX10_look_0 87 rfl) (by decide) ?_
      exact b153 y8 y9 y10 y11 (1 : Int32) μ12 hR
  have b94 : ∀ (y4 : Int32) (y5 : Int32) (y6 : Int32) (μ7 : St), some μ0 = sp_X10_look_94  y4 y5 y6 μ7 → V l γ X M (wM γ am μ7 ++ (r)) [some (.ref (am 0)), some (.int y4), none, some (.int y5), some (.int y6), none, none] 0 0 94 [] := by
    intro  y4 y5 y6 μ7 hR
    unfold sp_X10_look_94 at hR
    refine r_iload_n 94 3 K (dk_of tX10_look_0 58 rfl) rfl rfl ?_
    refine r_iload 95 4 K (dk_of tX10_look_0 59 rfl) rfl ?_
    refine r_iadd 97 K (dk_of tX10_look_0 60 rfl) ?_
    refine r_if_le 98 116 K (dk_of tX10_look_0 61 rfl) (by decide) hR (fun hR => ?_) (fun hR => ?_)
    · refine r_iconst 116 (-1) K (dk_of tX10_look_0 69 rfl) (by decide) ?_
      exact b117 y4 y5 y6 (-1 : Int32) μ7 hR
    · refine r_aload_n 101 0 K (dk_of tX10_look_0 62 rfl) rfl rfl ?_
      refine r_iload_n 102 1 K (dk_of tX10_look_0 63 rfl) rfl rfl ?_
      refine r_aload_n 103 0 K (dk_of tX10_look_0 64 rfl) rfl rfl ?_
      refine r_getf (C := RX10) (T := TX10) (N := 29) 104 0 5 K (dk_of tX10_look_0 65 rfl) w1033 gwX10 rfl rfl (by decide) rfl ?_
      obtain ⟨x39, hc, hR⟩ := o1 hR
      refine r_cSi 107 [.int y4, .int (μ7 0 5)] [.ref (am 0)] x39 (wM γ am μ7 ++ (r)) K (ct_X10_borderOf hl hc.symm) cs_X10_100 ⟨rfl, rfl, rfl⟩ (dk_of tX10_look_0 66 rfl) rfl rfl rfl rfl ?_
      obtain ⟨x40, hc, hR⟩ := o1 hR
      refine r_cVi 110 0 [.int x39] [] x40 (wM γ am μ7 ++ (r)) K (ct_X10_boomOn hl hc.symm) cs_X10_103 ⟨rfl, rfl, rfl⟩ (dk_of tX10_look_0 67 rfl) rfl rfl rfl rfl rfl rfl ?_
      refine r_goto 113 117 K (dk_of tX10_look_0 68 rfl) (by decide) ?_
      exact b117 y4 y5 y6 x40 μ7 hR
  refine r_iload_n 0 1 K (dk_of tX10_look_0 0 rfl) rfl rfl ?_
  refine r_aload_n 1 0 K (dk_of tX10_look_0 1 rfl) rfl rfl ?_
  refine r_getf (C := RX10) (T := TX10) (N := 29) 2 0 5 K (dk_of tX10_look_0 2 rfl) w1033 gwX10 rfl rfl (by decide) rfl ?_
  obtain ⟨x1, hc, hR⟩ := o1 hR
  refine r_cSi 5 [.int p1, .int (μ 0 5)] [] x1 (wM γ am μ ++ (r)) K (ct_X10_beside hl hc.symm) cs_X10_80 ⟨rfl, rfl, rfl⟩ (dk_of tX10_look_0 3 rfl) rfl rfl rfl rfl ?_
  refine r_istore_n 8 2 [some (.ref (am 0)), some (.int p1), some (.int x1), none, none, none, none] K (dk_of tX10_look_0 4 rfl) rfl rfl rfl (by decide) ?_
  refine r_aload_n 9 0 K (dk_of tX10_look_0 5 rfl) rfl rfl ?_
  refine r_getf (C := RX10) (T := TX10) (N := 29) 10 0 0 K (dk_of tX10_look_0 6 rfl) w1028 gwX10 rfl rfl (by decide) rfl ?_
  refine r_iconst 13 (0 : Int32) K (dk_of tX10_look_0 7 rfl) (by decide) ?_
  refine r_iload_n 14 1 K (dk_of tX10_look_0 8 rfl) rfl rfl ?_
  refine r_iadd 15 K (dk_of tX10_look_0 9 rfl) ?_
  refine r_ialdR 16 1 K (dk_of tX10_look_0 10 rfl) rfl hR (fun hR => ?_)
  refine r_aload_n 17 0 K (dk_of tX10_look_0 11 rfl) rfl rfl ?_
  refine r_getf (C := RX10) (T := TX10) (N := 29) 18 0 6 K (dk_of tX10_look_0 12 rfl) w1034 gwX10 rfl rfl (by decide) rfl ?_
  refine r_imul 21 K (dk_of tX10_look_0 13 rfl) ?_
  refine r_bipush 22 (10 : Int32) K (dk_of tX10_look_0 14 rfl) (by decide) ?_
  refine r_idiv 24 K (dk_of tX10_look_0 15 rfl) (by decide) ?_
  refine r_nmI hR (fun x2 hR => ?_)
  refine r_istore_n 25 3 [some (.ref (am 0)), some (.int p1), some (.int x1), some (.int x2), none, none, none] K (dk_of tX10_look_0 16 rfl) rfl rfl rfl (by decide) ?_
  refine r_aload_n 26 0 K (dk_of tX10_look_0 17 rfl) rfl rfl ?_
  refine r_getf (C := RX10) (T := TX10) (N := 29) 27 0 0 K (dk_of tX10_look_0 18 rfl) w1028 gwX10 rfl rfl (by decide) rfl ?_
  refine r_bipush 30 (24 : Int32) K (dk_of tX10_look_0 19 rfl) (by decide) ?_
  refine r_iload_n 32 1 K (dk_of tX10_look_0 20 rfl) rfl rfl ?_
  refine r_iadd 33 K (dk_of tX10_look_0 21 rfl) ?_
  refine r_ialdR 34 1 K (dk_of tX10_look_0 22 rfl) rfl hR (fun hR => ?_)
  refine r_aload_n 35 0 K (dk_of tX10_look_0 23 rfl) rfl rfl ?_
  refine r_getf (C := RX10) (T := TX10) (N := 29) 36 0 6 K (dk_of tX10_look_0 24 rfl) w1034 gwX10 rfl rfl (by decide) rfl ?_
  refine r_imul 39 K (dk_of tX10_look_0 25 rfl) ?_
  refine r_bipush 40 (10 : Int32) K (dk_of tX10_look_0 26 rfl) (by decide) ?_
  refine r_idiv 42 K (dk_of tX10_look_0 27 rfl) (by decide) ?_
  refine r_nmI hR (fun x3 hR => ?_)
  refine r_istore 43 4 [some (.ref (am 0)), some (.int p1), some (.int x1), some (.int x2), some (.int x3), none, none] K (dk_of tX10_look_0 28 rfl) rfl rfl (by decide) ?_
  refine r_iload_n 45 2 K (dk_of tX10_look_0 29 rfl) rfl rfl ?_
  refine r_iconst 46 (-1) K (dk_of tX10_look_0 30 rfl) (by decide) ?_
  refine r_ic_eq 47 94 K (dk_of tX10_look_0 31 rfl) (by decide) hR (fun hR => ?_) (fun hR => ?_)
  · exact r_msk [true, true, false, true, true, true, true] [some (.ref (am 0)), some (.int p1), none, some (.int x2), some (.int x3), none, none] rfl (b94 p1 x2 x3 μ hR)
  · refine r_aload_n 50 0 K (dk_of tX10_look_0 32 rfl) rfl rfl ?_
    refine r_getf (C := RX10) (T := TX10) (N := 29) 51 0 2 K (dk_of tX10_look_0 33 rfl) w1030 gwX10 rfl rfl (by decide) rfl ?_
    refine r_iload_n 54 2 K (dk_of tX10_look_0 34 rfl) rfl rfl ?_
    refine r_ialdR 55 3 K (dk_of tX10_look_0 35 rfl) rfl hR (fun hR => ?_)
    refine r_if_eq 56 94 K (dk_of tX10_look_0 36 rfl) (by decide) hR (fun hR => ?_) (fun hR => ?_)
    · exact r_msk [true, true, false, true, true, true, true] [some (.ref (am 0)), some (.int p1), none, some (.int x2), some (.int x3), none, none] rfl (b94 p1 x2 x3 μ hR)
    · refine r_aload_n 59 0 K (dk_of tX10_look_0 37 rfl) rfl rfl ?_
      refine r_iload_n 60 2 K (dk_of tX10_look_0 38 rfl) rfl rfl ?_
      obtain ⟨x41, hc, hR⟩ := o1 hR
      refine r_cVi 61 0 [.int x1] [] x41 (wM γ am μ ++ (r)) K (ct_X10_holds hl hc.symm) cs_X10_97 ⟨rfl, rfl, rfl⟩ (dk_of tX10_look_0 39 rfl) rfl rfl rfl rfl rfl rfl ?_
      refine r_aload_n 64 0 K (dk_of tX10_look_0 40 rfl) rfl rfl ?_
      refine r_getf (C := RX10) (T := TX10) (N := 29) 65 0 0 K (dk_of tX10_look_0 41 rfl) w1028 gwX10 rfl rfl (by decide) rfl ?_
      refine r_bipush 68 (48 : Int32) K (dk_of tX10_look_0 42 rfl) (by decide) ?_
      refine r_iload_n 70 2 K (dk_of tX10_look_0 43 rfl) rfl rfl ?_
      refine r_iadd 71 K (dk_of tX10_look_0 44 rfl) ?_
      refine r_ialdR 72 1 K (dk_of tX10_look_0 45 rfl) rfl hR (fun hR => ?_)
      refine r_isub 73 K (dk_of tX10_look_0 46 rfl) ?_
      refine r_nmI hR (fun x42 hR => ?_)
      refine r_istore 74 5 [some (.ref (am 0)), some (.int p1), some (.int x1), some (.int x2), some (.int x3), some (.int x42), none] K (dk_of tX10_look_0 47 rfl) rfl rfl (by decide) ?_
      refine r_iload_n 76 3 K (dk_of tX10_look_0 48 rfl) rfl rfl ?_
      refine r_iload 77 5 K (dk_of tX10_look_0 49 rfl) rfl ?_
      obtain ⟨x43, hc, hR⟩ := o1 hR
      refine r_cSi 79 [.int x2, .int x42] [] x43 (wM γ am μ ++ (r)) K (ct_X10_least hl hc.symm) cs_X10_88 ⟨rfl, rfl, rfl⟩ (dk_of tX10_look_0 50 rfl) rfl rfl rfl rfl ?_
      refine r_istore_n 82 3 [some (.ref (am 0)), some (.int p1), some (.int x1), some (.int x43), some (.int x3), some (.int x42), none] K (dk_of tX10_look_0 51 rfl) rfl rfl rfl (by decide) ?_
      refine r_iload 83 4 K (dk_of tX10_look_0 52 rfl) rfl ?_
      refine r_iload 85 5 K (dk_of tX10_look_0 53 rfl) rfl ?_
      refine r_iload_n 87 3 K (dk_of tX10_look_0 54 rfl) rfl rfl ?_
      refine r_isub 88 K (dk_of tX10_look_0 55 rfl) ?_
      obtain ⟨x44, hc, hR⟩ := o1 hR
      refine r_cSi 89 [.int x3, .int (x42 - x43)] [] x44 (wM γ am μ ++ (r)) K (ct_X10_least hl hc.symm) cs_X10_88 ⟨rfl, rfl, rfl⟩ (dk_of tX10_look_0 56 rfl) rfl rfl rfl rfl ?_
      refine r_istore 92 4 [some (.ref (am 0)), some (.int p1), some (.int x1), some (.int x43), some (.int x44), some (.int x42), none] K (dk_of tX10_look_0 57 rfl) rfl rfl (by decide) ?_
      exact r_msk [true, true, false, true, true, false, true] [some (.ref (am 0)), some (.int p1), none, some (.int x43), some (.int x44), none, none] rfl (b94 p1 x43 x44 μ hR)

def sp_X10_drift (p1 : Int32) (μ : St) : Option (St) := b1 (sp_X10_beside p1 (μ 0 5)) (fun (x1 : Int32) => if p1 < 0 ∨ 48 ≤ p1.toNatClampNeg then none else (sl ((μ 5 p1.toNatClampNeg)) (fun x2 : Int32 => if ((24 : Int32) + p1) < 0 ∨ 48 ≤ ((24 : Int32) + p1).toNatClampNeg then none else (sl ((μ 5 ((24 : Int32) + p1).toNatClampNeg)) (fun x3 : Int32 => if ((0 : Int32) + p1) < 0 ∨ 174 ≤ ((0 : Int32) + p1).toNatClampNeg then none else (if ((0 : Int32) + p1) < 0 ∨ 174 ≤ ((0 : Int32) + p1).toNatClampNeg then none else (sl (stU μ 1 ((0 : Int32) + p1).toNatClampNeg ((μ 1 ((0 : Int32) + p1).toNatClampNeg) - x2)) (fun μ4 : St => if ((24 : Int32) + p1) < 0 ∨ 174 ≤ ((24 : Int32) + p1).toNatClampNeg then none else (if ((24 : Int32) + p1) < 0 ∨ 174 ≤ ((24 : Int32) + p1).toNatClampNeg then none else (sl (stU μ4 1 ((24 : Int32) + p1).toNatClampNeg ((μ4 1 ((24 : Int32) + p1).toNatClampNeg) - x3)) (fun μ5 : St => if x1 = (-1 : Int32) then (sl (stU μ5 1 (173 : Int32).toNatClampNeg ((μ5 1 (173 : Int32).toNatClampNeg) + (x2 + x3))) (fun μ6 : St => some μ6)) else (if x1 < 0 ∨ 24 ≤ x1.toNatClampNeg then none else (if (μ5 3 x1.toNatClampNeg) = 0 then (if ((0 : Int32) + x1) < 0 ∨ 174 ≤ ((0 : Int32) + x1).toNatClampNeg then none else (if ((0 : Int32) + x1) < 0 ∨ 174 ≤ ((0 : Int32) + x1).toNatClampNeg then none else (sl (stU μ5 1 ((0 : Int32) + x1).toNatClampNeg ((μ5 1 ((0 : Int32) + x1).toNatClampNeg) + x2)) (fun μ7 : St => if ((24 : Int32) + x1) < 0 ∨ 174 ≤ ((24 : Int32) + x1).toNatClampNeg then none else (if ((24 : Int32) + x1) < 0 ∨ 174 ≤ ((24 : Int32) + x1).toNatClampNeg then none else (sl (stU μ7 1 ((24 : Int32) + x1).toNatClampNeg ((μ7 1 ((24 : Int32) + x1).toNatClampNeg) + x3)) (fun μ8 : St => some μ8))))))) else (if ((48 : Int32) + x1) < 0 ∨ 174 ≤ ((48 : Int32) + x1).toNatClampNeg then none else (if ((48 : Int32) + x1) < 0 ∨ 174 ≤ ((48 : Int32) + x1).toNatClampNeg then none else (sl (stU μ5 1 ((48 : Int32) + x1).toNatClampNeg ((μ5 1 ((48 : Int32) + x1).toNatClampNeg) + (x2 + x3))) (fun μ9 : St => some μ9)))))))))))))))))
set_option maxHeartbeats 4000000 in
set_option maxRecDepth 100000 in
theorem ct_X10_drift {l : Launch} (hl : l.stackTraces = false) {γ : Gd} {am : Nat → Nat} {μ : St} {r : va_W} {p1 : Int32} {μ0 : St} (hR : some μ0 = sp_X10_drift p1 μ) : Ct l γ yX10_drift (Cond.code yX10_drift cX10_drift 5 none) ({ frames := 3, cells := 0, slots := 0, locals := 64 } : Room) [.ref (am 0), .int p1] (wM γ am μ ++ (r)) (Pr none (wM γ am μ0 ++ (r))) 0 0 := by
  refine Ct_of hl (by decide +kernel) rfl (Nat.le_of_ble_eq_true rfl) (L := [some (.ref (am 0)), some (.int p1), none, none, none]) rfl ?_
  intro X Q K hQ
  generalize ((wM γ am μ ++ (r), Q) : MX) = M at K hQ ⊢
  unfold sp_X10_drift at hR
  refine r_iload_n 0 1 K (dk_of tX10_drift 0 rfl) rfl rfl ?_
  refine r_aload_n 1 0 K (dk_of tX10_drift 1 rfl) rfl rfl ?_
  refine r_getf (C := RX10) (T := TX10) (N := 29) 2 0 5 K (dk_of tX10_drift 2 rfl) w1033 gwX10 rfl rfl (by decide) rfl ?_
  obtain ⟨x1, hc, hR⟩ := o1 hR
  refine r_cSi 5 [.int p1, .int (μ 0 5)] [] x1 (wM γ am μ ++ (r)) K (ct_X10_beside hl hc.symm) cs_X10_80 ⟨rfl, rfl, rfl⟩ (dk_of tX10_drift 3 rfl) rfl rfl rfl rfl ?_
  refine r_istore_n 8 2 [some (.ref (am 0)), some (.int p1), some (.int x1), none, none] K (dk_of tX10_drift 4 rfl) rfl rfl rfl (by decide) ?_
  refine r_aload_n 9 0 K (dk_of tX10_drift 5 rfl) rfl rfl ?_
  refine r_getf (C := RX10) (T := TX10) (N := 29) 10 0 4 K (dk_of tX10_drift 6 rfl) w1032 gwX10 rfl rfl (by decide) rfl ?_
  refine r_iload_n 13 1 K (dk_of tX10_drift 7 rfl) rfl rfl ?_
  refine r_ialdR 14 5 K (dk_of tX10_drift 8 rfl) rfl hR (fun hR => ?_)
  refine r_nmI hR (fun x2 hR => ?_)
  refine r_istore_n 15 3 [some (.ref (am 0)), some (.int p1), some (.int x1), some (.int x2), none] K (dk_of tX10_drift 9 rfl) rfl rfl rfl (by decide) ?_
  refine r_aload_n 16 0 K (dk_of tX10_drift 10 rfl) rfl rfl ?_
  refine r_getf (C := RX10) (T := TX10) (N := 29) 17 0 4 K (dk_of tX10_drift 11 rfl) w1032 gwX10 rfl rfl (by decide) rfl ?_
  refine r_bipush 20 (24 : Int32) K (dk_of tX10_drift 12 rfl) (by decide) ?_
  refine r_iload_n 22 1 K (dk_of tX10_drift 13 rfl) rfl rfl ?_
  refine r_iadd 23 K (dk_of tX10_drift 14 rfl) ?_
  refine r_ialdR 24 5 K (dk_of tX10_drift 15 rfl) rfl hR (fun hR => ?_)
  refine r_nmI hR (fun x3 hR => ?_)
  refine r_istore 25 4 [some (.ref (am 0)), some (.int p1), some (.int x1), some (.int x2), some (.int x3)] K (dk_of tX10_drift 16 rfl) rfl rfl (by decide) ?_
  refine r_aload_n 27 0 K (dk_of tX10_drift 17 rfl) rfl rfl ?_
  refine r_getf (C := RX10) (T := TX10) (N := 29) 28 0 0 K (dk_of tX10_drift 18 rfl) w1028 gwX10 rfl rfl (by decide) rfl ?_
  refine r_iconst 31 (0 : Int32) K (dk_of tX10_drift 19 rfl) (by decide) ?_
  refine r_iload_n 32 1 K (dk_of tX10_drift 20 rfl) rfl rfl ?_
  refine r_iadd 33 K (dk_of tX10_drift 21 rfl) ?_
  refine r_dup2 34 K (dk_of tX10_drift 22 rfl) rfl rfl ?_
  refine r_ialdR 35 1 K (dk_of tX10_drift 23 rfl) rfl hR (fun hR => ?_)
  refine r_iload_n 36 3 K (dk_of tX10_drift 24 rfl) rfl rfl ?_
  refine r_isub 37 K (dk_of tX10_drift 25 rfl) ?_
  refine r_iastR 38 1 K (dk_of tX10_drift 26 rfl) rfl sM_1 hR (fun hR => ?_)
  refine r_nmS (fun μ4 : St => wM γ am μ4 ++ (r)) hR (fun μ4 hR => ?_)
  refine r_aload_n 39 0 K (dk_of tX10_drift 27 rfl) rfl rfl ?_
  refine r_getf (C := RX10) (T := TX10) (N := 29) 40 0 0 K (dk_of tX10_drift 28 rfl) w1028 gwX10 rfl rfl (by decide) rfl ?_
  refine r_bipush 43 (24 : Int32) K (dk_of tX10_drift 29 rfl) (by decide) ?_
  refine r_iload_n 45 1 K (dk_of tX10_drift 30 rfl) rfl rfl ?_
  refine r_iadd 46 K (dk_of tX10_drift 31 rfl) ?_
  refine r_dup2 47 K (dk_of tX10_drift 32 rfl) rfl rfl ?_
  refine r_ialdR 48 1 K (dk_of tX10_drift 33 rfl) rfl hR (fun hR => ?_)
  refine r_iload 49 4 K (dk_of tX10_drift 34 rfl) rfl ?_
  refine r_isub 51 K (dk_of tX10_drift 35 rfl) ?_
  refine r_iastR 52 1 K (dk_of tX10_drift 36 rfl) rfl sM_1 hR (fun hR => ?_)
  refine r_nmS (fun μ5 : St => wM γ am μ5 ++ (r)) hR (fun μ5 hR => ?_)
  refine r_iload_n 53 2 K (dk_of tX10_drift 37 rfl) rfl rfl ?_
  refine r_iconst 54 (-1) K (dk_of tX10_drift 38 rfl) (by decide) ?_
  refine r_ic_ne 55 76 K (dk_of tX10_drift 39 rfl) (by decide) hR (fun hR => ?_) (fun hR => ?_)
  · refine r_aload_n 58 0 K (dk_of tX10_drift 40 rfl) rfl rfl ?_
    refine r_getf (C := RX10) (T := TX10) (N := 29) 59 0 0 K (dk_of tX10_drift 41 rfl) w1028 gwX10 rfl rfl (by decide) rfl ?_
    refine r_sipush 62 (173 : Int32) K (dk_of tX10_drift 42 rfl) (by decide) ?_
    refine r_dup2 65 K (dk_of tX10_drift 43 rfl) rfl rfl ?_
    refine r_iald 66 1 K (dk_of tX10_drift 44 rfl) rfl (vpd (by decide)) ?_
    refine r_iload_n 67 3 K (dk_of tX10_drift 45 rfl) rfl rfl ?_
    refine r_iload 68 4 K (dk_of tX10_drift 46 rfl) rfl ?_
    refine r_iadd 70 K (dk_of tX10_drift 47 rfl) ?_
    refine r_iadd 71 K (dk_of tX10_drift 48 rfl) ?_
    refine r_iast 72 1 K (dk_of tX10_drift 49 rfl) rfl (vpd (by decide)) sM_1 ?_
    refine r_nmS (fun μ6 : St => wM γ am μ6 ++ (r)) hR (fun μ6 hR => ?_)
    refine r_goto 73 130 K (dk_of tX10_drift 50 rfl) (by decide) ?_
    exact r_vret 130 K hQ (dk_of tX10_drift 89 rfl) (Nat.zero_le _) (Nat.zero_le _) (lfv (fun u9 : St => wM γ am u9 ++ (r)) hR)
  · refine r_aload_n 76 0 K (dk_of tX10_drift 51 rfl) rfl rfl ?_
    refine r_getf (C := RX10) (T := TX10) (N := 29) 77 0 2 K (dk_of tX10_drift 52 rfl) w1030 gwX10 rfl rfl (by decide) rfl ?_
    refine r_iload_n 80 2 K (dk_of tX10_drift 53 rfl) rfl rfl ?_
    refine r_ialdR 81 3 K (dk_of tX10_drift 54 rfl) rfl hR (fun hR => ?_)
    refine r_if_ne 82 114 K (dk_of tX10_drift 55 rfl) (by decide) hR (fun hR => ?_) (fun hR => ?_)
    · refine r_aload_n 85 0 K (dk_of tX10_drift 56 rfl) rfl rfl ?_
      refine r_getf (C := RX10) (T := TX10) (N := 29) 86 0 0 K (dk_of tX10_drift 57 rfl) w1028 gwX10 rfl rfl (by decide) rfl ?_
      refine r_iconst 89 (0 : Int32) K (dk_of tX10_drift 58 rfl) (by decide) ?_
      refine r_iload_n 90 2 K (dk_of tX10_drift 59 rfl) rfl rfl ?_
      refine r_iadd 91 K (dk_of tX10_drift 60 rfl) ?_
      refine r_dup2 92 K (dk_of tX10_drift 61 rfl) rfl rfl ?_
      refine r_ialdR 93 1 K (dk_of tX10_drift 62 rfl) rfl hR (fun hR => ?_)
      refine r_iload_n 94 3 K (dk_of tX10_drift 63 rfl) rfl rfl ?_
      refine r_iadd 95 K (dk_of tX10_drift 64 rfl) ?_
      refine r_iastR 96 1 K (dk_of tX10_drift 65 rfl) rfl sM_1 hR (fun hR => ?_)
      refine r_nmS (fun μ7 : St => wM γ am μ7 ++ (r)) hR (fun μ7 hR => ?_)
      refine r_aload_n 97 0 K (dk_of tX10_drift 66 rfl) rfl rfl ?_
      refine r_getf (C := RX10) (T := TX10) (N := 29) 98 0 0 K (dk_of tX10_drift 67 rfl) w1028 gwX10 rfl rfl (by decide) rfl ?_
      refine r_bipush 101 (24 : Int32) K (dk_of tX10_drift 68 rfl) (by decide) ?_
      refine r_iload_n 103 2 K (dk_of tX10_drift 69 rfl) rfl rfl ?_
      refine r_iadd 104 K (dk_of tX10_drift 70 rfl) ?_
      refine r_dup2 105 K (dk_of tX10_drift 71 rfl) rfl rfl ?_
      refine r_ialdR 106 1 K (dk_of tX10_drift 72 rfl) rfl hR (fun hR => ?_)
      refine r_iload 107 4 K (dk_of tX10_drift 73 rfl) rfl ?_
      refine r_iadd 109 K (dk_of tX10_drift 74 rfl) ?_
      refine r_iastR 110 1 K (dk_of tX10_drift 75 rfl) rfl sM_1 hR (fun hR => ?_)
      refine r_nmS (fun μ8 : St => wM γ am μ8 ++ (r)) hR (fun μ8 hR => ?_)
      refine r_goto 111 130 K (dk_of tX10_drift 76 rfl) (by decide) ?_
      exact r_vret 130 K hQ (dk_of tX10_drift 89 rfl) (Nat.zero_le _) (Nat.zero_le _) (lfv (fun u9 : St => wM γ am u9 ++ (r)) hR)
    · refine r_aload_n 114 0 K (dk_of tX10_drift 77 rfl) rfl rfl ?_
      refine r_getf (C := RX10) (T := TX10) (N := 29) 115 0 0 K (dk_of tX10_drift 78 rfl) w1028 gwX10 rfl rfl (by decide) rfl ?_
      refine r_bipush 118 (48 : Int32) K (dk_of tX10_drift 79 rfl) (by decide) ?_
      refine r_iload_n 120 2 K (dk_of tX10_drift 80 rfl) rfl rfl ?_
      refine r_iadd 121 K (dk_of tX10_drift 81 rfl) ?_
      refine r_dup2 122 K (dk_of tX10_drift 82 rfl) rfl rfl ?_
      refine r_ialdR 123 1 K (dk_of tX10_drift 83 rfl) rfl hR (fun hR => ?_)
      refine r_iload_n 124 3 K (dk_of tX10_drift 84 rfl) rfl rfl ?_
      refine r_iload 125 4 K (dk_of tX10_drift 85 rfl) rfl ?_
      refine r_iadd 127 K (dk_of tX10_drift 86 rfl) ?_
      refine r_iadd 128 K (dk_of tX10_drift 87 rfl) ?_
      refine r_iastR 129 1 K (dk_of tX10_drift 88 rfl) rfl sM_1 hR (fun hR => ?_)
      refine r_nmS (fun μ9 : St => wM γ am μ9 ++ (r)) hR (fun μ9 hR => ?_)
      exact r_vret 130 K hQ (dk_of tX10_drift 89 rfl) (Nat.zero_le _) (Nat.zero_le _) (lfv (fun u9 : St => wM γ am u9 ++ (r)) hR)

def sp_X10_lowestWater_4 (μ : St) (y1 : Int32) : Nat → Int32 → Int32 → Option (Int32)
  | 0, _, _ => none
  | n + 1, y2, y3 => if (4 : Int32) ≤ y3 then (some y2) else (b1 (sp_X10_beside y1 y3) (fun (x4 : Int32) => if x4 = (-1 : Int32) then (sp_X10_lowestWater_4 μ y1 n y2 (y3 + 1)) else (if x4 < 0 ∨ 24 ≤ x4.toNatClampNeg then none else (if (μ 3 x4.toNatClampNeg) = 0 then (if y2 = (-1 : Int32) then (sp_X10_lowestWater_4 μ y1 n x4 (y3 + 1)) else (if y2 ≤ x4 then (sp_X10_lowestWater_4 μ y1 n y2 (y3 + 1)) else (sp_X10_lowestWater_4 μ y1 n x4 (y3 + 1)))) else (sp_X10_lowestWater_4 μ y1 n y2 (y3 + 1))))))
def sp_X10_lowestWater (p1 : Int32) (μ : St) : Option (Int32) := sp_X10_lowestWater_4 μ p1 200 (-1 : Int32) (0 : Int32)
set_option maxHeartbeats 4000000 in
set_option maxRecDepth 100000 in
theorem ct_X10_lowestWater {l : Launch} (hl : l.stackTraces = false) {γ : Gd} {am : Nat → Nat} {μ : St} {r : va_W} {p1 : Int32} {x0 : Int32} (hR : some x0 = sp_X10_lowestWater p1 μ) : Ct l γ yX10_lowestWater (Cond.code yX10_lowestWater cX10_lowestWater 5 (some .int)) ({ frames := 3, cells := 0, slots := 0, locals := 64 } : Room) [.ref (am 0), .int p1] (wM γ am μ ++ (r)) (Pr (some (.int x0)) (wM γ am μ ++ (r))) 0 0 := by
  refine Ct_of hl (by decide +kernel) rfl (Nat.le_of_ble_eq_true rfl) (L := [some (.ref (am 0)), some (.int p1), none, none, none]) rfl ?_
  intro X Q K hQ
  generalize ((wM γ am μ ++ (r), Q) : MX) = M at K hQ ⊢
  unfold sp_X10_lowestWater at hR
  have b4 : ∀ (y1 : Int32) (n : Nat) (y2 : Int32) (y3 : Int32), some x0 = sp_X10_lowestWater_4 μ y1 n y2 y3 → V l γ X M (wM γ am μ ++ (r)) [some (.ref (am 0)), some (.int y1), some (.int y2), some (.int y3), none] 0 0 4 [] := by
    intro y1 n
    induction n with
    | zero => intro y2 y3 hR; exact nn_ hR
    | succ n ih4 =>
      intro y2 y3 hR
      rw [sp_X10_lowestWater_4] at hR
      refine r_iload_n 4 3 K (dk_of tX10_lowestWater 4 rfl) rfl rfl ?_
      refine r_iconst 5 (4 : Int32) K (dk_of tX10_lowestWater 5 rfl) (by decide) ?_
      refine r_ic_ge 6 52 K (dk_of tX10_lowestWater 6 rfl) (by decide) hR (fun hR => ?_) (fun hR => ?_)
      · refine r_iload_n 52 2 K (dk_of tX10_lowestWater 29 rfl) rfl rfl ?_
        exact r_iret 53 K hQ (dk_of tX10_lowestWater 30 rfl) (Nat.zero_le _) (Nat.zero_le _) (lfi0 hR)
      · refine r_iload_n 9 1 K (dk_of tX10_lowestWater 7 rfl) rfl rfl ?_
        refine r_iload_n 10 3 K (dk_of tX10_lowestWater 8 rfl) rfl rfl ?_
        obtain ⟨x4, hc, hR⟩ := o1 hR
        refine r_cSi 11 [.int y1, .int y3] [] x4 (wM γ am μ ++ (r)) K (ct_X10_beside hl hc.symm) cs_X10_80 ⟨rfl, rfl, rfl⟩ (dk_of tX10_lowestWater 9 rfl) rfl rfl rfl rfl ?_
        refine r_istore 14 4 [some (.ref (am 0)), some (.int y1), some (.int y2), some (.int y3), some (.int x4)] K (dk_of tX10_lowestWater 10 rfl) rfl rfl (by decide) ?_
        refine r_iload 16 4 K (dk_of tX10_lowestWater 11 rfl) rfl ?_
        refine r_iconst 18 (-1) K (dk_of tX10_lowestWater 12 rfl) (by decide) ?_
        refine r_ic_eq 19 46 K (dk_of tX10_lowestWater 13 rfl) (by decide) hR (fun hR => ?_) (fun hR => ?_)
        · refine r_iinc 46 3 (y3 + 1) [some (.ref (am 0)), some (.int y1), some (.int y2), some (.int (y3 + 1)), some (.int x4)] K (dk_of tX10_lowestWater 27 rfl) rfl rfl rfl rfl (by decide) ?_
          refine r_goto 49 4 K (dk_of tX10_lowestWater 28 rfl) (by decide) ?_
          exact r_msk [true, true, true, true, false] [some (.ref (am 0)), some (.int y1), some (.int y2), some (.int (y3 + 1)), none] rfl (ih4 y2 (y3 + 1) hR)
        · refine r_aload_n 22 0 K (dk_of tX10_lowestWater 14 rfl) rfl rfl ?_
          refine r_getf (C := RX10) (T := TX10) (N := 29) 23 0 2 K (dk_of tX10_lowestWater 15 rfl) w1030 gwX10 rfl rfl (by decide) rfl ?_
          refine r_iload 26 4 K (dk_of tX10_lowestWater 16 rfl) rfl ?_
          refine r_ialdR 28 3 K (dk_of tX10_lowestWater 17 rfl) rfl hR (fun hR => ?_)
          refine r_if_ne 29 46 K (dk_of tX10_lowestWater 18 rfl) (by decide) hR (fun hR => ?_) (fun hR => ?_)
          · refine r_iload_n 32 2 K (dk_of tX10_lowestWater 19 rfl) rfl rfl ?_
            refine r_iconst 33 (-1) K (dk_of tX10_lowestWater 20 rfl) (by decide) ?_
            refine r_ic_eq 34 43 K (dk_of tX10_lowestWater 21 rfl) (by decide) hR (fun hR => ?_) (fun hR => ?_)
            · refine r_iload 43 4 K (dk_of tX10_lowestWater 25 rfl) rfl ?_
              refine r_istore_n 45 2 [some (.ref (am 0)), some (.int y1), some (.int x4), some (.int y3), some (.int x4)] K (dk_of tX10_lowestWater 26 rfl) rfl rfl rfl (by decide) ?_
              refine r_iinc 46 3 (y3 + 1) [some (.ref (am 0)), some (.int y1), some (.int x4), some (.int (y3 + 1)), some (.int x4)] K (dk_of tX10_lowestWater 27 rfl) rfl rfl rfl rfl (by decide) ?_
              refine r_goto 49 4 K (dk_of tX10_lowestWater 28 rfl) (by decide) ?_
              exact r_msk [true, true, true, true, false] [some (.ref (am 0)), some (.int y1), some (.int x4), some (.int (y3 + 1)), none] rfl (ih4 x4 (y3 + 1) hR)
            · refine r_iload 37 4 K (dk_of tX10_lowestWater 22 rfl) rfl ?_
              refine r_iload_n 39 2 K (dk_of tX10_lowestWater 23 rfl) rfl rfl ?_
              refine r_ic_ge 40 46 K (dk_of tX10_lowestWater 24 rfl) (by decide) hR (fun hR => ?_) (fun hR => ?_)
              · refine r_iinc 46 3 (y3 + 1) [some (.ref (am 0)), some (.int y1), some (.int y2), some (.int (y3 + 1)), some (.int x4)] K (dk_of tX10_lowestWater 27 rfl) rfl rfl rfl rfl (by decide) ?_
                refine r_goto 49 4 K (dk_of tX10_lowestWater 28 rfl) (by decide) ?_
                exact r_msk [true, true, true, true, false] [some (.ref (am 0)), some (.int y1), some (.int y2), some (.int (y3 + 1)), none] rfl (ih4 y2 (y3 + 1) hR)
              · refine r_iload 43 4 K (dk_of tX10_lowestWater 25 rfl) rfl ?_
                refine r_istore_n 45 2 [some (.ref (am 0)), some (.int y1), some (.int x4), some (.int y3), some (.int x4)] K (dk_of tX10_lowestWater 26 rfl) rfl rfl rfl (by decide) ?_
                refine r_iinc 46 3 (y3 + 1) [some (.ref (am 0)), some (.int y1), some (.int x4), some (.int (y3 + 1)), some (.int x4)] K (dk_of tX10_lowestWater 27 rfl) rfl rfl rfl rfl (by decide) ?_
                refine r_goto 49 4 K (dk_of tX10_lowestWater 28 rfl) (by decide) ?_
                exact r_msk [true, true, true, true, false] [some (.ref (am 0)), some (.int y1), some (.int x4), some (.int (y3 + 1)), none] rfl (ih4 x4 (y3 + 1) hR)
          · refine r_iinc 46 3 (y3 + 1) [some (.ref (am 0)), some (.int y1), some (.int y2), some (.int (y3 + 1)), some (.int x4)] K (dk_of tX10_lowestWater 27 rfl) rfl rfl rfl rfl (by decide) ?_
            refine r_goto 49 4 K (dk_of tX10_lowestWater 28 rfl) (by decide) ?_
            exact r_msk [true, true, true, true, false] [some (.ref (am 0)), some (.int y1), some (.int y2), some (.int (y3 + 1)), none] rfl (ih4 y2 (y3 + 1) hR)
  refine r_iconst 0 (-1) K (dk_of tX10_lowestWater 0 rfl) (by decide) ?_
  refine r_istore_n 1 2 [some (.ref (am 0)), some (.int p1), some (.int (-1 : Int32)), none, none] K (dk_of tX10_lowestWater 1 rfl) rfl rfl rfl (by decide) ?_
  refine r_iconst 2 (0 : Int32) K (dk_of tX10_lowestWater 2 rfl) (by decide) ?_
  refine r_istore_n 3 3 [some (.ref (am 0)), some (.int p1), some (.int (-1 : Int32)), some (.int (0 : Int32)), none] K (dk_of tX10_lowestWater 3 rfl) rfl rfl rfl (by decide) ?_
  exact b4 p1 200 (-1 : Int32) (0 : Int32) hR

def sp_X10_back (p1 : Int32) (p2 : Int32) (μ : St) : Option (Int32) := if p1 < 0 ∨ 24 ≤ p1.toNatClampNeg then none else (if (μ 3 p1.toNatClampNeg) = (1 : Int32) then (some (p2 / (5 : Int32))) else (if p1 < 0 ∨ 24 ≤ p1.toNatClampNeg then none else (if (μ 3 p1.toNatClampNeg) = (2 : Int32) then (some (p2 / (10 : Int32))) else (some (0 : Int32)))))
set_option maxHeartbeats 4000000 in
set_option maxRecDepth 100000 in
theorem ct_X10_back {l : Launch} (hl : l.stackTraces = false) {γ : Gd} {am : Nat → Nat} {μ : St} {r : va_W} {p1 : Int32} {p2 : Int32} {x0 : Int32} (hR : some x0 = sp_X10_back p1 p2 μ) : Ct l γ yX10_back (Cond.code yX10_back cX10_back 3 (some .int)) ({ frames := 0, cells := 0, slots := 0, locals := 0 } : Room) [.ref (am 0), .int p1, .int p2] (wM γ am μ ++ (r)) (Pr (some (.int x0)) (wM γ am μ ++ (r))) 0 0 := by
  refine Ct_of hl (by decide +kernel) rfl (Nat.le_of_ble_eq_true rfl) (L := [some (.ref (am 0)), some (.int p1), some (.int p2)]) rfl ?_
  intro X Q K hQ
  generalize ((wM γ am μ ++ (r), Q) : MX) = M at K hQ ⊢
  unfold sp_X10_back at hR
  refine r_aload_n 0 0 K (dk_of tX10_back 0 rfl) rfl rfl ?_
  refine r_getf (C := RX10) (T := TX10) (N := 29) 1 0 2 K (dk_of tX10_back 1 rfl) w1030 gwX10 rfl rfl (by decide) rfl ?_
  refine r_iload_n 4 1 K (dk_of tX10_back 2 rfl) rfl rfl ?_
  refine r_ialdR 5 3 K (dk_of tX10_back 3 rfl) rfl hR (fun hR => ?_)
  refine r_iconst 6 (1 : Int32) K (dk_of tX10_back 4 rfl) (by decide) ?_
  refine r_ic_ne 7 16 K (dk_of tX10_back 5 rfl) (by decide) hR (fun hR => ?_) (fun hR => ?_)
  · refine r_iload_n 10 2 K (dk_of tX10_back 6 rfl) rfl rfl ?_
    refine r_iconst 11 (5 : Int32) K (dk_of tX10_back 7 rfl) (by decide) ?_
    refine r_idiv 12 K (dk_of tX10_back 8 rfl) (by decide) ?_
    refine r_goto 13 34 K (dk_of tX10_back 9 rfl) (by decide) ?_
    exact r_iret 34 K hQ (dk_of tX10_back 21 rfl) (Nat.zero_le _) (Nat.zero_le _) (lfi0 hR)
  · refine r_aload_n 16 0 K (dk_of tX10_back 10 rfl) rfl rfl ?_
    refine r_getf (C := RX10) (T := TX10) (N := 29) 17 0 2 K (dk_of tX10_back 11 rfl) w1030 gwX10 rfl rfl (by decide) rfl ?_
    refine r_iload_n 20 1 K (dk_of tX10_back 12 rfl) rfl rfl ?_
    refine r_ialdR 21 3 K (dk_of tX10_back 13 rfl) rfl hR (fun hR => ?_)
    refine r_iconst 22 (2 : Int32) K (dk_of tX10_back 14 rfl) (by decide) ?_
    refine r_ic_ne 23 33 K (dk_of tX10_back 15 rfl) (by decide) hR (fun hR => ?_) (fun hR => ?_)
    · refine r_iload_n 26 2 K (dk_of tX10_back 16 rfl) rfl rfl ?_
      refine r_bipush 27 (10 : Int32) K (dk_of tX10_back 17 rfl) (by decide) ?_
      refine r_idiv 29 K (dk_of tX10_back 18 rfl) (by decide) ?_
      refine r_goto 30 34 K (dk_of tX10_back 19 rfl) (by decide) ?_
      exact r_iret 34 K hQ (dk_of tX10_back 21 rfl) (Nat.zero_le _) (Nat.zero_le _) (lfi0 hR)
    · refine r_iconst 33 (0 : Int32) K (dk_of tX10_back 20 rfl) (by decide) ?_
      exact r_iret 34 K hQ (dk_of tX10_back 21 rfl) (Nat.zero_le _) (Nat.zero_le _) (lfi0 hR)

def sp_X10_skim (p1 : Int32) (μ : St) : Option (St) := if p1 < 0 ∨ 20 ≤ p1.toNatClampNeg then none else (sl ((μ 9 p1.toNatClampNeg)) (fun x1 : Int32 => if p1 < 0 ∨ 20 ≤ p1.toNatClampNeg then none else (if ((148 : Int32) + p1) < 0 ∨ 174 ≤ ((148 : Int32) + p1).toNatClampNeg then none else (sl (((μ 12 p1.toNatClampNeg) - (μ 1 ((148 : Int32) + p1).toNatClampNeg))) (fun x2 : Int32 => if p1 < 0 ∨ 20 ≤ p1.toNatClampNeg then none else (if ((0 : Int32) + x1) < 0 ∨ 174 ≤ ((0 : Int32) + x1).toNatClampNeg then none else (b1 (sp_X10_least (μ 11 p1.toNatClampNeg) (μ 1 ((0 : Int32) + x1).toNatClampNeg)) (fun (x3 : Int32) => b1 (sp_X10_least x3 x2) (fun (x4 : Int32) => if p1 < 0 ∨ 20 ≤ p1.toNatClampNeg then none else (if ((24 : Int32) + x1) < 0 ∨ 174 ≤ ((24 : Int32) + x1).toNatClampNeg then none else (b1 (sp_X10_least (((μ 11 p1.toNatClampNeg) - x4) / (2 : Int32)) (μ 1 ((24 : Int32) + x1).toNatClampNeg)) (fun (x5 : Int32) => b1 (sp_X10_least x5 (x2 - x4)) (fun (x6 : Int32) => if ((0 : Int32) + x1) < 0 ∨ 174 ≤ ((0 : Int32) + x1).toNatClampNeg then none else (if ((0 : Int32) + x1) < 0 ∨ 174 ≤ ((0 : Int32) + x1).toNatClampNeg then none else (sl (stU μ 1 ((0 : Int32) + x1).toNatClampNeg ((μ 1 ((0 : Int32) + x1).toNatClampNeg) - x4)) (fun μ7 : St => if ((24 : Int32) + x1) < 0 ∨ 174 ≤ ((24 : Int32) + x1).toNatClampNeg then none else (if ((24 : Int32) + x1) < 0 ∨ 174 ≤ ((24 : Int32) + x1).toNatClampNeg then none else (sl (stU μ7 1 ((24 : Int32) + x1).toNatClampNeg ((μ7 1 ((24 : Int32) + x1).toNatClampNeg) - x6)) (fun μ8 : St => if ((148 : Int32) + p1) < 0 ∨ 174 ≤ ((148 : Int32) + p1).toNatClampNeg then none else (if ((148 : Int32) + p1) < 0 ∨ 174 ≤ ((148 : Int32) + p1).toNatClampNeg then none else (sl (stU μ8 1 ((148 : Int32) + p1).toNatClampNeg ((μ8 1 ((148 : Int32) + p1).toNatClampNeg) + (x4 + x6))) (fun μ9 : St => some μ9))))))))))))))))))))))
set_option maxHeartbeats 4000000 in
set_option maxRecDepth 100000 in
theorem ct_X10_skim {l : Launch} (hl : l.stackTraces = false) {γ : Gd} {am : Nat → Nat} {μ : St} {r : va_W} {p1 : Int32} {μ0 : St} (hR : some μ0 = sp_X10_skim p1 μ) : Ct l γ yX10_skim (Cond.code yX10_skim cX10_skim 6 none) ({ frames := 1, cells := 0, slots := 0, locals := 21 } : Room) [.ref (am 0), .int p1] (wM γ am μ ++ (r)) (Pr none (wM γ am μ0 ++ (r))) 0 0 := by
  refine Ct_of hl (by decide +kernel) rfl (Nat.le_of_ble_eq_true rfl) (L := [some (.ref (am 0)), some (.int p1), none, none, none, none]) rfl ?_
  intro X Q K hQ
  generalize ((wM γ am μ ++ (r), Q) : MX) = M at K hQ ⊢
  unfold sp_X10_skim at hR
  refine r_aload_n 0 0 K (dk_of tX10_skim 0 rfl) rfl rfl ?_
  refine r_getf (C := RX10) (T := TX10) (N := 29) 1 0 12 K (dk_of tX10_skim 1 rfl) w1040 gwX10 rfl rfl (by decide) rfl ?_
  refine r_iload_n 4 1 K (dk_of tX10_skim 2 rfl) rfl rfl ?_
  refine r_ialdR 5 9 K (dk_of tX10_skim 3 rfl) rfl hR (fun hR => ?_)
  refine r_nmI hR (fun x1 hR => ?_)
  refine r_istore_n 6 2 [some (.ref (am 0)), some (.int p1), some (.int x1), none, none, none] K (dk_of tX10_skim 4 rfl) rfl rfl rfl (by decide) ?_
  refine r_aload_n 7 0 K (dk_of tX10_skim 5 rfl) rfl rfl ?_
  refine r_getf (C := RX10) (T := TX10) (N := 29) 8 0 15 K (dk_of tX10_skim 6 rfl) w1043 gwX10 rfl rfl (by decide) rfl ?_
  refine r_iload_n 11 1 K (dk_of tX10_skim 7 rfl) rfl rfl ?_
  refine r_ialdR 12 12 K (dk_of tX10_skim 8 rfl) rfl hR (fun hR => ?_)
  refine r_aload_n 13 0 K (dk_of tX10_skim 9 rfl) rfl rfl ?_
  refine r_getf (C := RX10) (T := TX10) (N := 29) 14 0 0 K (dk_of tX10_skim 10 rfl) w1028 gwX10 rfl rfl (by decide) rfl ?_
  refine r_sipush 17 (148 : Int32) K (dk_of tX10_skim 11 rfl) (by decide) ?_
  refine r_iload_n 20 1 K (dk_of tX10_skim 12 rfl) rfl rfl ?_
  refine r_iadd 21 K (dk_of tX10_skim 13 rfl) ?_
  refine r_ialdR 22 1 K (dk_of tX10_skim 14 rfl) rfl hR (fun hR => ?_)
  refine r_isub 23 K (dk_of tX10_skim 15 rfl) ?_
  refine r_nmI hR (fun x2 hR => ?_)
  refine r_istore_n 24 3 [some (.ref (am 0)), some (.int p1), some (.int x1), some (.int x2), none, none] K (dk_of tX10_skim 16 rfl) rfl rfl rfl (by decide) ?_
  refine r_aload_n 25 0 K (dk_of tX10_skim 17 rfl) rfl rfl ?_
  refine r_getf (C := RX10) (T := TX10) (N := 29) 26 0 14 K (dk_of tX10_skim 18 rfl) w1042 gwX10 rfl rfl (by decide) rfl ?_
  refine r_iload_n 29 1 K (dk_of tX10_skim 19 rfl) rfl rfl ?_
  refine r_ialdR 30 11 K (dk_of tX10_skim 20 rfl) rfl hR (fun hR => ?_)
  refine r_aload_n 31 0 K (dk_of tX10_skim 21 rfl) rfl rfl ?_
  refine r_getf (C := RX10) (T := TX10) (N := 29) 32 0 0 K (dk_of tX10_skim 22 rfl) w1028 gwX10 rfl rfl (by decide) rfl ?_
  refine r_iconst 35 (0 : Int32) K (dk_of tX10_skim 23 rfl) (by decide) ?_
  refine r_iload_n 36 2 K (dk_of tX10_skim 24 rfl) rfl rfl ?_
  refine r_iadd 37 K (dk_of tX10_skim 25 rfl) ?_
  refine r_ialdR 38 1 K (dk_of tX10_skim 26 rfl) rfl hR (fun hR => ?_)
  obtain ⟨x3, hc, hR⟩ := o1 hR
  refine r_cSi 39 [.int (μ 11 p1.toNatClampNeg), .int (μ 1 ((0 : Int32) + x1).toNatClampNeg)] [] x3 (wM γ am μ ++ (r)) K (ct_X10_least hl hc.symm) cs_X10_88 ⟨rfl, rfl, rfl⟩ (dk_of tX10_skim 27 rfl) rfl rfl rfl rfl ?_
  refine r_iload_n 42 3 K (dk_of tX10_skim 28 rfl) rfl rfl ?_
  obtain ⟨x4, hc, hR⟩ := o1 hR
  refine r_cSi 43 [.int x3, .int x2] [] x4 (wM γ am μ ++ (r)) K (ct_X10_least hl hc.symm) cs_X10_88 ⟨rfl, rfl, rfl⟩ (dk_of tX10_skim 29 rfl) rfl rfl rfl rfl ?_
  refine r_istore 46 4 [some (.ref (am 0)), some (.int p1), some (.int x1), some (.int x2), some (.int x4), none] K (dk_of tX10_skim 30 rfl) rfl rfl (by decide) ?_
  refine r_aload_n 48 0 K (dk_of tX10_skim 31 rfl) rfl rfl ?_
  refine r_getf (C := RX10) (T := TX10) (N := 29) 49 0 14 K (dk_of tX10_skim 32 rfl) w1042 gwX10 rfl rfl (by decide) rfl ?_
  refine r_iload_n 52 1 K (dk_of tX10_skim 33 rfl) rfl rfl ?_
  refine r_ialdR 53 11 K (dk_of tX10_skim 34 rfl) rfl hR (fun hR => ?_)
  refine r_iload 54 4 K (dk_of tX10_skim 35 rfl) rfl ?_
  refine r_isub 56 K (dk_of tX10_skim 36 rfl) ?_
  refine r_iconst 57 (2 : Int32) K (dk_of tX10_skim 37 rfl) (by decide) ?_
  refine r_idiv 58 K (dk_of tX10_skim 38 rfl) (by decide) ?_
  refine r_aload_n 59 0 K (dk_of tX10_skim 39 rfl) rfl rfl ?_
  refine r_getf (C := RX10) (T := TX10) (N := 29) 60 0 0 K (dk_of tX10_skim 40 rfl) w1028 gwX10 rfl rfl (by decide) rfl ?_
  refine r_bipush 63 (24 : Int32) K (dk_of tX10_skim 41 rfl) (by decide) ?_
  refine r_iload_n 65 2 K (dk_of tX10_skim 42 rfl) rfl rfl ?_
  refine r_iadd 66 K (dk_of tX10_skim 43 rfl) ?_
  refine r_ialdR 67 1 K (dk_of tX10_skim 44 rfl) rfl hR (fun hR => ?_)
  obtain ⟨x5, hc, hR⟩ := o1 hR
  refine r_cSi 68 [.int (((μ 11 p1.toNatClampNeg) - x4) / (2 : Int32)), .int (μ 1 ((24 : Int32) + x1).toNatClampNeg)] [] x5 (wM γ am μ ++ (r)) K (ct_X10_least hl hc.symm) cs_X10_88 ⟨rfl, rfl, rfl⟩ (dk_of tX10_skim 45 rfl) rfl rfl rfl rfl ?_
  refine r_iload_n 71 3 K (dk_of tX10_skim 46 rfl) rfl rfl ?_
  refine r_iload 72 4 K (dk_of tX10_skim 47 rfl) rfl ?_
  refine r_isub 74 K (dk_of tX10_skim 48 rfl) ?_
  obtain ⟨x6, hc, hR⟩ := o1 hR
  refine r_cSi 75 [.int x5, .int (x2 - x4)] [] x6 (wM γ am μ ++ (r)) K (ct_X10_least hl hc.symm) cs_X10_88 ⟨rfl, rfl, rfl⟩ (dk_of tX10_skim 49 rfl) rfl rfl rfl rfl ?_
  refine r_istore 78 5 [some (.ref (am 0)), some (.int p1), some (.int x1), some (.int x2), some (.int x4), some (.int x6)] K (dk_of tX10_skim 50 rfl) rfl rfl (by decide) ?_
  refine r_aload_n 80 0 K (dk_of tX10_skim 51 rfl) rfl rfl ?_
  refine r_getf (C := RX10) (T := TX10) (N := 29) 81 0 0 K (dk_of tX10_skim 52 rfl) w1028 gwX10 rfl rfl (by decide) rfl ?_
  refine r_iconst 84 (0 : Int32) K (dk_of tX10_skim 53 rfl) (by decide) ?_
  refine r_iload_n 85 2 K (dk_of tX10_skim 54 rfl) rfl rfl ?_
  refine r_iadd 86 K (dk_of tX10_skim 55 rfl) ?_
  refine r_dup2 87 K (dk_of tX10_skim 56 rfl) rfl rfl ?_
  refine r_ialdR 88 1 K (dk_of tX10_skim 57 rfl) rfl hR (fun hR => ?_)
  refine r_iload 89 4 K (dk_of tX10_skim 58 rfl) rfl ?_
  refine r_isub 91 K (dk_of tX10_skim 59 rfl) ?_
  refine r_iastR 92 1 K (dk_of tX10_skim 60 rfl) rfl sM_1 hR (fun hR => ?_)
  refine r_nmS (fun μ7 : St => wM γ am μ7 ++ (r)) hR (fun μ7 hR => ?_)
  refine r_aload_n 93 0 K (dk_of tX10_skim 61 rfl) rfl rfl ?_
  refine r_getf (C := RX10) (T := TX10) (N := 29) 94 0 0 K (dk_of tX10_skim 62 rfl) w1028 gwX10 rfl rfl (by decide) rfl ?_
  refine r_bipush 97 (24 : Int32) K (dk_of tX10_skim 63 rfl) (by decide) ?_
  refine r_iload_n 99 2 K (dk_of tX10_skim 64 rfl) rfl rfl ?_
  refine r_iadd 100 K (dk_of tX10_skim 65 rfl) ?_
  refine r_dup2 101 K (dk_of tX10_skim 66 rfl) rfl rfl ?_
  refine r_ialdR 102 1 K (dk_of tX10_skim 67 rfl) rfl hR (fun hR => ?_)
  refine r_iload 103 5 K (dk_of tX10_skim 68 rfl) rfl ?_
  refine r_isub 105 K (dk_of tX10_skim 69 rfl) ?_
  refine r_iastR 106 1 K (dk_of tX10_skim 70 rfl) rfl sM_1 hR (fun hR => ?_)
  refine r_nmS (fun μ8 : St => wM γ am μ8 ++ (r)) hR (fun μ8 hR => ?_)
  refine r_aload_n 107 0 K (dk_of tX10_skim 71 rfl) rfl rfl ?_
  refine r_getf (C := RX10) (T := TX10) (N := 29) 108 0 0 K (dk_of tX10_skim 72 rfl) w1028 gwX10 rfl rfl (by decide) rfl ?_
  refine r_sipush 111 (148 : Int32) K (dk_of tX10_skim 73 rfl) (by decide) ?_
  refine r_iload_n 114 1 K (dk_of tX10_skim 74 rfl) rfl rfl ?_
  refine r_iadd 115 K (dk_of tX10_skim 75 rfl) ?_
  refine r_dup2 116 K (dk_of tX10_skim 76 rfl) rfl rfl ?_
  refine r_ialdR 117 1 K (dk_of tX10_skim 77 rfl) rfl hR (fun hR => ?_)
  refine r_iload 118 4 K (dk_of tX10_skim 78 rfl) rfl ?_
  refine r_iload 120 5 K (dk_of tX10_skim 79 rfl) rfl ?_
  refine r_iadd 122 K (dk_of tX10_skim 80 rfl) ?_
  refine r_iadd 123 K (dk_of tX10_skim 81 rfl) ?_
  refine r_iastR 124 1 K (dk_of tX10_skim 82 rfl) rfl sM_1 hR (fun hR => ?_)
  refine r_nmS (fun μ9 : St => wM γ am μ9 ++ (r)) hR (fun μ9 hR => ?_)
  exact r_vret 125 K hQ (dk_of tX10_skim 83 rfl) (Nat.zero_le _) (Nat.zero_le _) (lfv (fun u9 : St => wM γ am u9 ++ (r)) hR)

def sp_X10_suffer (p1 : Int32) (μ : St) : Option (St) := if ((48 : Int32) + p1) < 0 ∨ 174 ≤ ((48 : Int32) + p1).toNatClampNeg then none else (sl ((μ 1 ((48 : Int32) + p1).toNatClampNeg)) (fun x1 : Int32 => if ((72 : Int32) + p1) < 0 ∨ 174 ≤ ((72 : Int32) + p1).toNatClampNeg then none else (if ((96 : Int32) + p1) < 0 ∨ 174 ≤ ((96 : Int32) + p1).toNatClampNeg then none else (sl (((μ 1 ((72 : Int32) + p1).toNatClampNeg) - (μ 1 ((96 : Int32) + p1).toNatClampNeg))) (fun x2 : Int32 => if ((96 : Int32) + p1) < 0 ∨ 174 ≤ ((96 : Int32) + p1).toNatClampNeg then none else (b1 (sp_X10_least (x1 / (100 : Int32)) x2) (fun (x3 : Int32) => if ((96 : Int32) + p1) < 0 ∨ 174 ≤ ((96 : Int32) + p1).toNatClampNeg then none else (sl (stU μ 1 ((96 : Int32) + p1).toNatClampNeg ((μ 1 ((96 : Int32) + p1).toNatClampNeg) + x3)) (fun μ4 : St => b1 (sp_X10_holds p1 μ4) (fun (x5 : Int32) => if x1 ≤ (x5 / (20 : Int32)) then (if ((120 : Int32) + p1) < 0 ∨ 174 ≤ ((120 : Int32) + p1).toNatClampNeg then none else (if ((120 : Int32) + p1) < 0 ∨ 174 ≤ ((120 : Int32) + p1).toNatClampNeg then none else (sl (stU μ4 1 ((120 : Int32) + p1).toNatClampNeg (μ4 1 ((120 : Int32) + p1).toNatClampNeg)) (fun μ6 : St => some μ6)))) else (if ((120 : Int32) + p1) < 0 ∨ 174 ≤ ((120 : Int32) + p1).toNatClampNeg then none else (sl (stU μ4 1 ((120 : Int32) + p1).toNatClampNeg (0 : Int32)) (fun μ7 : St => some μ7)))))))))))))
set_option maxHeartbeats 4000000 in
set_option maxRecDepth 100000 in
theorem ct_X10_suffer {l : Launch} (hl : l.stackTraces = false) {γ : Gd} {am : Nat → Nat} {μ : St} {r : va_W} {p1 : Int32} {μ0 : St} (hR : some μ0 = sp_X10_suffer p1 μ) : Ct l γ yX10_suffer (Cond.code yX10_suffer cX10_suffer 4 none) ({ frames := 1, cells := 0, slots := 0, locals := 21 } : Room) [.ref (am 0), .int p1] (wM γ am μ ++ (r)) (Pr none (wM γ am μ0 ++ (r))) 0 0 := by
  refine Ct_of hl (by decide +kernel) rfl (Nat.le_of_ble_eq_true rfl) (L := [some (.ref (am 0)), some (.int p1), none, none]) rfl ?_
  intro X Q K hQ
  generalize ((wM γ am μ ++ (r), Q) : MX) = M at K hQ ⊢
  unfold sp_X10_suffer at hR
  refine r_aload_n 0 0 K (dk_of tX10_suffer 0 rfl) rfl rfl ?_
  refine r_getf (C := RX10) (T := TX10) (N := 29) 1 0 0 K (dk_of tX10_suffer 1 rfl) w1028 gwX10 rfl rfl (by decide) rfl ?_
  refine r_bipush 4 (48 : Int32) K (dk_of tX10_suffer 2 rfl) (by decide) ?_
  refine r_iload_n 6 1 K (dk_of tX10_suffer 3 rfl) rfl rfl ?_
  refine r_iadd 7 K (dk_of tX10_suffer 4 rfl) ?_
  refine r_ialdR 8 1 K (dk_of tX10_suffer 5 rfl) rfl hR (fun hR => ?_)
  refine r_nmI hR (fun x1 hR => ?_)
  refine r_istore_n 9 2 [some (.ref (am 0)), some (.int p1), some (.int x1), none] K (dk_of tX10_suffer 6 rfl) rfl rfl rfl (by decide) ?_
  refine r_aload_n 10 0 K (dk_of tX10_suffer 7 rfl) rfl rfl ?_
  refine r_getf (C := RX10) (T := TX10) (N := 29) 11 0 0 K (dk_of tX10_suffer 8 rfl) w1028 gwX10 rfl rfl (by decide) rfl ?_
  refine r_bipush 14 (72 : Int32) K (dk_of tX10_suffer 9 rfl) (by decide) ?_
  refine r_iload_n 16 1 K (dk_of tX10_suffer 10 rfl) rfl rfl ?_
  refine r_iadd 17 K (dk_of tX10_suffer 11 rfl) ?_
  refine r_ialdR 18 1 K (dk_of tX10_suffer 12 rfl) rfl hR (fun hR => ?_)
  refine r_aload_n 19 0 K (dk_of tX10_suffer 13 rfl) rfl rfl ?_
  refine r_getf (C := RX10) (T := TX10) (N := 29) 20 0 0 K (dk_of tX10_suffer 14 rfl) w1028 gwX10 rfl rfl (by decide) rfl ?_
  refine r_bipush 23 (96 : Int32) K (dk_of tX10_suffer 15 rfl) (by decide) ?_
  refine r_iload_n 25 1 K (dk_of tX10_suffer 16 rfl) rfl rfl ?_
  refine r_iadd 26 K (dk_of tX10_suffer 17 rfl) ?_
  refine r_ialdR 27 1 K (dk_of tX10_suffer 18 rfl) rfl hR (fun hR => ?_)
  refine r_isub 28 K (dk_of tX10_suffer 19 rfl) ?_
  refine r_nmI hR (fun x2 hR => ?_)
  refine r_istore_n 29 3 [some (.ref (am 0)), some (.int p1), some (.int x1), some (.int x2)] K (dk_of tX10_suffer 20 rfl) rfl rfl rfl (by decide) ?_
  refine r_aload_n 30 0 K (dk_of tX10_suffer 21 rfl) rfl rfl ?_
  refine r_getf (C := RX10) (T := TX10) (N := 29) 31 0 0 K (dk_of tX10_suffer 22 rfl) w1028 gwX10 rfl rfl (by decide) rfl ?_
  refine r_bipush 34 (96 : Int32) K (dk_of tX10_suffer 23 rfl) (by decide) ?_
  refine r_iload_n 36 1 K (dk_of tX10_suffer 24 rfl) rfl rfl ?_
  refine r_iadd 37 K (dk_of tX10_suffer 25 rfl) ?_
  refine r_dup2 38 K (dk_of tX10_suffer 26 rfl) rfl rfl ?_
  refine r_ialdR 39 1 K (dk_of tX10_suffer 27 rfl) rfl hR (fun hR => ?_)
  refine r_iload_n 40 2 K (dk_of tX10_suffer 28 rfl) rfl rfl ?_
  refine r_bipush 41 (100 : Int32) K (dk_of tX10_suffer 29 rfl) (by decide) ?_
  refine r_idiv 43 K (dk_of tX10_suffer 30 rfl) (by decide) ?_
  refine r_iload_n 44 3 K (dk_of tX10_suffer 31 rfl) rfl rfl ?_
  obtain ⟨x3, hc, hR⟩ := o1 hR
  refine r_cSi 45 [.int (x1 / (100 : Int32)), .int x2] [.int (μ 1 ((96 : Int32) + p1).toNatClampNeg), .int ((96 : Int32) + p1), .ref (am 1)] x3 (wM γ am μ ++ (r)) K (ct_X10_least hl hc.symm) cs_X10_88 ⟨rfl, rfl, rfl⟩ (dk_of tX10_suffer 32 rfl) rfl rfl rfl rfl ?_
  refine r_iadd 48 K (dk_of tX10_suffer 33 rfl) ?_
  refine r_iastR 49 1 K (dk_of tX10_suffer 34 rfl) rfl sM_1 hR (fun hR => ?_)
  refine r_nmS (fun μ4 : St => wM γ am μ4 ++ (r)) hR (fun μ4 hR => ?_)
  refine r_aload_n 50 0 K (dk_of tX10_suffer 35 rfl) rfl rfl ?_
  refine r_getf (C := RX10) (T := TX10) (N := 29) 51 0 0 K (dk_of tX10_suffer 36 rfl) w1028 gwX10 rfl rfl (by decide) rfl ?_
  refine r_bipush 54 (120 : Int32) K (dk_of tX10_suffer 37 rfl) (by decide) ?_
  refine r_iload_n 56 1 K (dk_of tX10_suffer 38 rfl) rfl rfl ?_
  refine r_iadd 57 K (dk_of tX10_suffer 39 rfl) ?_
  refine r_iload_n 58 2 K (dk_of tX10_suffer 40 rfl) rfl rfl ?_
  refine r_aload_n 59 0 K (dk_of tX10_suffer 41 rfl) rfl rfl ?_
  refine r_iload_n 60 1 K (dk_of tX10_suffer 42 rfl) rfl rfl ?_
  obtain ⟨x5, hc, hR⟩ := o1 hR
  refine r_cVi 61 0 [.int p1] [.int x1, .int ((120 : Int32) + p1), .ref (am 1)] x5 (wM γ am μ4 ++ (r)) K (ct_X10_holds hl hc.symm) cs_X10_97 ⟨rfl, rfl, rfl⟩ (dk_of tX10_suffer 43 rfl) rfl rfl rfl rfl rfl rfl ?_
  refine r_bipush 64 (20 : Int32) K (dk_of tX10_suffer 44 rfl) (by decide) ?_
  refine r_idiv 66 K (dk_of tX10_suffer 45 rfl) (by decide) ?_
  refine r_ic_le 67 74 K (dk_of tX10_suffer 46 rfl) (by decide) hR (fun hR => ?_) (fun hR => ?_)
  · refine r_aload_n 74 0 K (dk_of tX10_suffer 49 rfl) rfl rfl ?_
    refine r_getf (C := RX10) (T := TX10) (N := 29) 75 0 0 K (dk_of tX10_suffer 50 rfl) w1028 gwX10 rfl rfl (by decide) rfl ?_
    refine r_bipush 78 (120 : Int32) K (dk_of tX10_suffer 51 rfl) (by decide) ?_
    refine r_iload_n 80 1 K (dk_of tX10_suffer 52 rfl) rfl rfl ?_
    refine r_iadd 81 K (dk_of tX10_suffer 53 rfl) ?_
    refine r_ialdR 82 1 K (dk_of tX10_suffer 54 rfl) rfl hR (fun hR => ?_)
    refine r_iastR 83 1 K (dk_of tX10_suffer 55 rfl) rfl sM_1 hR (fun hR => ?_)
    refine r_nmS (fun μ6 : St => wM γ am μ6 ++ (r)) hR (fun μ6 hR => ?_)
    exact r_vret 84 K hQ (dk_of tX10_suffer 56 rfl) (Nat.zero_le _) (Nat.zero_le _) (lfv (fun u9 : St => wM γ am u9 ++ (r)) hR)
  · refine r_iconst 70 (0 : Int32) K (dk_of tX10_suffer 47 rfl) (by decide) ?_
    refine r_goto 71 83 K (dk_of tX10_suffer 48 rfl) (by decide) ?_
    refine r_iastR 83 1 K (dk_of tX10_suffer 55 rfl) rfl sM_1 hR (fun hR => ?_)
    refine r_nmS (fun μ7 : St => wM γ am μ7 ++ (r)) hR (fun μ7 hR => ?_)
    exact r_vret 84 K hQ (dk_of tX10_suffer 56 rfl) (Nat.zero_le _) (Nat.zero_le _) (lfv (fun u9 : St => wM γ am u9 ++ (r)) hR)

def sp_X10_hour_309  : Nat → Int32 → St → Option (St)
  | 0, _, _ => none
  | n + 1, y14, μ15 => if (24 : Int32) ≤ y14 then (some μ15) else (if y14 < 0 ∨ 24 ≤ y14.toNatClampNeg then none else (if (μ15 3 y14.toNatClampNeg) = 0 then (sp_X10_hour_309 n (y14 + 1) μ15) else (b1 (sp_X10_suffer y14 μ15) (fun (μ16 : St) => sp_X10_hour_309 n (y14 + 1) μ16))))
def sp_X10_hour_278  : Nat → Int32 → St → Option (St)
  | 0, _, _ => none
  | n + 1, y12, μ13 => if (μ13 0 10) ≤ y12 then (sp_X10_hour_309 200 (0 : Int32) μ13) else (if y12 < 0 ∨ 20 ≤ y12.toNatClampNeg then none else (if (μ13 8 y12.toNatClampNeg) = (1 : Int32) then (b1 (sp_X10_skim y12 μ13) (fun (μ17 : St) => sp_X10_hour_278 n (y12 + 1) μ17)) else (sp_X10_hour_278 n (y12 + 1) μ13)))
def sp_X10_hour_187  : Nat → Int32 → St → Option (St)
  | 0, _, _ => none
  | n + 1, y10, μ11 => if (24 : Int32) ≤ y10 then (sp_X10_hour_278 200 (0 : Int32) μ11) else (b1 (sp_X10_tide (μ11 1 (168 : Int32).toNatClampNeg)) (fun (x18 : Int32) => if x18 = (6 : Int32) then (b1 (sp_X10_lowestWater y10 μ11) (fun (x19 : Int32) => if y10 < 0 ∨ 24 ≤ y10.toNatClampNeg then none else (if (μ11 3 y10.toNatClampNeg) = 0 then (sp_X10_hour_187 n (y10 + 1) μ11) else (if x19 = (-1 : Int32) then (sp_X10_hour_187 n (y10 + 1) μ11) else (if ((48 : Int32) + y10) < 0 ∨ 174 ≤ ((48 : Int32) + y10).toNatClampNeg then none else (b1 (sp_X10_back y10 (μ11 1 ((48 : Int32) + y10).toNatClampNeg) μ11) (fun (x20 : Int32) => if ((48 : Int32) + y10) < 0 ∨ 174 ≤ ((48 : Int32) + y10).toNatClampNeg then none else (if ((48 : Int32) + y10) < 0 ∨ 174 ≤ ((48 : Int32) + y10).toNatClampNeg then none else (sl (stU μ11 1 ((48 : Int32) + y10).toNatClampNeg ((μ11 1 ((48 : Int32) + y10).toNatClampNeg) - x20)) (fun μ21 : St => if ((24 : Int32) + x19) < 0 ∨ 174 ≤ ((24 : Int32) + x19).toNatClampNeg then none else (if ((24 : Int32) + x19) < 0 ∨ 174 ≤ ((24 : Int32) + x19).toNatClampNeg then none else (sl (stU μ21 1 ((24 : Int32) + x19).toNatClampNeg ((μ21 1 ((24 : Int32) + x19).toNatClampNeg) + x20)) (fun μ22 : St => sp_X10_hour_187 n (y10 + 1) μ22))))))))))))) else (sp_X10_hour_278 200 (0 : Int32) μ11)))
def sp_X10_hour_168  : Nat → Int32 → St → Option (St)
  | 0, _, _ => none
  | n + 1, y8, μ9 => if (24 : Int32) ≤ y8 then (sp_X10_hour_187 200 (0 : Int32) μ9) else (b1 (sp_X10_drift y8 μ9) (fun (μ23 : St) => sp_X10_hour_168 n (y8 + 1) μ23))
def sp_X10_hour_149  : Nat → Int32 → St → Option (St)
  | 0, _, _ => none
  | n + 1, y6, μ7 => if (24 : Int32) ≤ y6 then (sp_X10_hour_168 200 (0 : Int32) μ7) else (b1 (sp_X10_look y6 μ7) (fun (μ24 : St) => sp_X10_hour_149 n (y6 + 1) μ24))
def sp_X10_hour_130  : Nat → Int32 → St → Option (St)
  | 0, _, _ => none
  | n + 1, y4, μ5 => if (24 : Int32) ≤ y4 then (sp_X10_hour_149 200 (0 : Int32) μ5) else (b1 (sp_X10_weather y4 μ5) (fun (μ25 : St) => sp_X10_hour_130 n (y4 + 1) μ25))
def sp_X10_hour_14  : Nat → Int32 → St → Option (St)
  | 0, _, _ => none
  | n + 1, y2, μ3 => if (μ3 0 7) ≤ y2 then (sp_X10_hour_130 200 (0 : Int32) μ3) else (b1 (sp_X10_leak y2 (μ3 1 (168 : Int32).toNatClampNeg) μ3) (fun (x26 : Int32) => if ((144 : Int32) + y2) < 0 ∨ 174 ≤ ((144 : Int32) + y2).toNatClampNeg then none else (if ((144 : Int32) + y2) < 0 ∨ 174 ≤ ((144 : Int32) + y2).toNatClampNeg then none else (sl (stU μ3 1 ((144 : Int32) + y2).toNatClampNeg ((μ3 1 ((144 : Int32) + y2).toNatClampNeg) - x26)) (fun μ27 : St => if y2 < 0 ∨ 4 ≤ y2.toNatClampNeg then none else (if ((0 : Int32) + (μ27 6 y2.toNatClampNeg)) < 0 ∨ 174 ≤ ((0 : Int32) + (μ27 6 y2.toNatClampNeg)).toNatClampNeg then none else (if ((0 : Int32) + (μ27 6 y2.toNatClampNeg)) < 0 ∨ 174 ≤ ((0 : Int32) + (μ27 6 y2.toNatClampNeg)).toNatClampNeg then none else (sl (stU μ27 1 ((0 : Int32) + (μ27 6 y2.toNatClampNeg)).toNatClampNeg ((μ27 1 ((0 : Int32) + (μ27 6 y2.toNatClampNeg)).toNatClampNeg) + x26)) (fun μ28 : St => sl (stU μ28 1 (169 : Int32).toNatClampNeg ((μ28 1 (169 : Int32).toNatClampNeg) + x26)) (fun μ29 : St => if x26 ≤ 0 then (sl (stU μ29 1 (170 : Int32).toNatClampNeg (μ29 1 (170 : Int32).toNatClampNeg)) (fun μ30 : St => sp_X10_hour_14 n (y2 + 1) μ30)) else (if (μ29 1 (170 : Int32).toNatClampNeg) = (-1 : Int32) then (sl (stU μ29 1 (170 : Int32).toNatClampNeg (μ29 1 (168 : Int32).toNatClampNeg)) (fun μ31 : St => sp_X10_hour_14 n (y2 + 1) μ31)) else (sl (stU μ29 1 (170 : Int32).toNatClampNeg (μ29 1 (170 : Int32).toNatClampNeg)) (fun μ32 : St => sp_X10_hour_14 n (y2 + 1) μ32)))))))))))))
def sp_X10_hour  (μ : St) : Option (St) := sl (stU μ 1 (168 : Int32).toNatClampNeg ((μ 1 (168 : Int32).toNatClampNeg) + (1 : Int32))) (fun μ1 : St => sp_X10_hour_14 200 (0 : Int32) μ1)
set_option maxHeartbeats 4000000 in
set_option maxRecDepth 100000 in
theorem ct_X10_hour {l : Launch} (hl : l.stackTraces = false) {γ : Gd} {am : Nat → Nat} {μ : St} {r : va_W}  {μ0 : St} (hR : some μ0 = sp_X10_hour μ) : Ct l γ yX10_hour (Cond.code yX10_hour cX10_hour 4 none) ({ frames := 5, cells := 0, slots := 0, locals := 112 } : Room) [.ref (am 0)] (wM γ am μ ++ (r)) (Pr none (wM γ am μ0 ++ (r))) 0 0 := by
  refine Ct_of hl (by decide +kernel) rfl (Nat.le_of_ble_eq_true rfl) (L := [some (.ref (am 0)), none, none, none]) rfl ?_
  intro X Q K hQ
  generalize ((wM γ am μ ++ (r), Q) : MX) = M at K hQ ⊢
  unfold sp_X10_hour at hR
  have b309 : ∀  (n : Nat) (y14 : Int32) (μ15 : St), some μ0 = sp_X10_hour_309  n y14 μ15 → V l γ X M (wM γ am μ15 ++ (r)) [some (.ref (am 0)), some (.int y14), none, none] 0 0 309 [] := by
    intro  n
    induction n with
    | zero => intro y14 μ15 hR; exact nn_ hR
    | succ n ih309 =>
      intro y14 μ15 hR
      rw [sp_X10_hour_309] at hR
      refine r_iload_n 309 1 K (dk_of tX10_hour_1 81 rfl) rfl rfl ?_
      refine r_bipush 310 (24 : Int32) K (dk_of tX10_hour_1 82 rfl) (by decide) ?_
      refine r_ic_ge 312 335 K (dk_of tX10_hour_1 83 rfl) (by decide) hR (fun hR => ?_) (fun hR => ?_)
      · exact r_vret 335 K hQ (dk_of tX10_hour_1 94 rfl) (Nat.zero_le _) (Nat.zero_le _) (lfv (fun u9 : St => wM γ am u9 ++ (r)) hR)
      · refine r_aload_n 315 0 K (dk_of tX10_hour_1 84 rfl) rfl rfl ?_
        refine r_getf (C := RX10) (T := TX10) (N := 29) 316 0 2 K (dk_of tX10_hour_1 85 rfl) w1030 gwX10 rfl rfl (by decide) rfl ?_
        refine r_iload_n 319 1 K (dk_of tX10_hour_1 86 rfl) rfl rfl ?_
        refine r_ialdR 320 3 K (dk_of tX10_hour_1 87 rfl) rfl hR (fun hR => ?_)
        refine r_if_eq 321 329 K (dk_of tX10_hour_1 88 rfl) (by decide) hR (fun hR => ?_) (fun hR => ?_)
        · refine r_iinc 329 1 (y14 + 1) [some (.ref (am 0)), some (.int (y14 + 1)), none, none] K (dk_of tX10_hour_1 92 rfl) rfl rfl rfl rfl (by decide) ?_
          refine r_goto 332 309 K (dk_of tX10_hour_1 93 rfl) (by decide) ?_
          exact ih309 (y14 + 1) μ15 hR
        · refine r_aload_n 324 0 K (dk_of tX10_hour_1 89 rfl) rfl rfl ?_
          refine r_iload_n 325 1 K (dk_of tX10_hour_1 90 rfl) rfl rfl ?_
          obtain ⟨μ16, hc, hR⟩ := o1 hR
          refine r_cVv 326 0 [.int y14] [] (wM γ am μ16 ++ (r)) K (ct_X10_suffer hl hc.symm) cs_X10_128 ⟨rfl, rfl, rfl⟩ (dk_of tX10_hour_1 91 rfl) rfl rfl rfl rfl rfl rfl ?_
          refine r_iinc 329 1 (y14 + 1) [some (.ref (am 0)), some (.int (y14 + 1)), none, none] K (dk_of tX10_hour_1 92 rfl) rfl rfl rfl rfl (by decide) ?_
          refine r_goto 332 309 K (dk_of tX10_hour_1 93 rfl) (by decide) ?_
          exact ih309 (y14 + 1) μ16 hR
  have b278 : ∀  (n : Nat) (y12 : Int32) (μ13 : St), some μ0 = sp_X10_hour_278  n y12 μ13 → V l γ X M (wM γ am μ13 ++ (r)) [some (.ref (am 0)), some (.int y12), none, none] 0 0 278 [] := by
    intro  n
    induction n with
    | zero => intro y12 μ13 hR; exact nn_ hR
    | succ n ih278 =>
      intro y12 μ13 hR
      rw [sp_X10_hour_278] at hR
      refine r_iload_n 278 1 K (dk_of tX10_hour_1 64 rfl) rfl rfl ?_
      refine r_aload_n 279 0 K (dk_of tX10_hour_1 65 rfl) rfl rfl ?_
      refine r_getf (C := RX10) (T := TX10) (N := 29) 280 0 10 K (dk_of tX10_hour_1 66 rfl) w1038 gwX10 rfl rfl (by decide) rfl ?_
      refine r_ic_ge 283 307 K (dk_of tX10_hour_1 67 rfl) (by decide) hR (fun hR => ?_) (fun hR => ?_)
      · refine r_iconst 307 (0 : Int32) K (dk_of tX10_hour_1 79 rfl) (by decide) ?_
        refine r_istore_n 308 1 [some (.ref (am 0)), some (.int (0 : Int32)), none, none] K (dk_of tX10_hour_1 80 rfl) rfl rfl rfl (by decide) ?_
        exact b309 200 (0 : Int32) μ13 hR
      · refine r_aload_n 286 0 K (dk_of tX10_hour_1 68 rfl) rfl rfl ?_
        refine r_getf (C := RX10) (T := TX10) (N := 29) 287 0 11 K (dk_of tX10_hour_1 69 rfl) w1039 gwX10 rfl rfl (by decide) rfl ?_
        refine r_iload_n 290 1 K (dk_of tX10_hour_1 70 rfl) rfl rfl ?_
        refine r_ialdR 291 8 K (dk_of tX10_hour_1 71 rfl) rfl hR (fun hR => ?_)
        refine r_iconst 292 (1 : Int32) K (dk_of tX10_hour_1 72 rfl) (by decide) ?_
        refine r_ic_ne 293 301 K (dk_of tX10_hour_1 73 rfl) (by decide) hR (fun hR => ?_) (fun hR => ?_)
        · refine r_aload_n 296 0 K (dk_of tX10_hour_1 74 rfl) rfl rfl ?_
          refine r_iload_n 297 1 K (dk_of tX10_hour_1 75 rfl) rfl rfl ?_
          obtain ⟨μ17, hc, hR⟩ := o1 hR
          refine r_cVv 298 0 [.int y12] [] (wM γ am μ17 ++ (r)) K (ct_X10_skim hl hc.symm) cs_X10_125 ⟨rfl, rfl, rfl⟩ (dk_of tX10_hour_1 76 rfl) rfl rfl rfl rfl rfl rfl ?_
          refine r_iinc 301 1 (y12 + 1) [some (.ref (am 0)), some (.int (y12 + 1)), none, none] K (dk_of tX10_hour_1 77 rfl) rfl rfl rfl rfl (by decide) ?_
          refine r_goto 304 278 K (dk_of tX10_hour_1 78 rfl) (by decide) ?_
          exact ih278 (y12 + 1) μ17 hR
        · refine r_iinc 301 1 (y12 + 1) [some (.ref (am 0)), some (.int (y12 + 1)), none, none] K (dk_of tX10_hour_1 77 rfl) rfl rfl rfl rfl (by decide) ?_
          refine r_goto 304 278 K (dk_of tX10_hour_1 78 rfl) (by decide) ?_
          exact ih278 (y12 + 1) μ13 hR
  have b187 : ∀  (n : Nat) (y10 : Int32) (μ11 : St), some μ0 = sp_X10_hour_187  n y10 μ11 → V l γ X M (wM γ am μ11 ++ (r)) [some (.ref (am 0)), some (.int y10), none, none] 0 0 187 [] := by
    intro  n
    induction n with
    | zero => intro y10 μ11 hR; exact nn_ hR
    | succ n ih187 =>
      intro y10 μ11 hR
      rw [sp_X10_hour_187] at hR
      refine r_iload_n 187 1 K (dk_of tX10_hour_1 8 rfl) rfl rfl ?_
      refine r_bipush 188 (24 : Int32) K (dk_of tX10_hour_1 9 rfl) (by decide) ?_
      refine r_ic_ge 190 276 K (dk_of tX10_hour_1 10 rfl) (by decide) hR (fun hR => ?_) (fun hR => ?_)
      · refine r_iconst 276 (0 : Int32) K (dk_of tX10_hour_1 62 rfl) (by decide) ?_
        refine r_istore_n 277 1 [some (.ref (am 0)), some (.int (0 : Int32)), none, none] K (dk_of tX10_hour_1 63 rfl) rfl rfl rfl (by decide) ?_
        exact b278 200 (0 : Int32) μ11 hR
      · refine r_aload_n 193 0 K (dk_of tX10_hour_1 11 rfl) rfl rfl ?_
        refine r_getf (C := RX10) (T := TX10) (N := 29) 194 0 0 K (dk_of tX10_hour_1 12 rfl) w1028 gwX10 rfl rfl (by decide) rfl ?_
        refine r_sipush 197 (168 : Int32) K (dk_of tX10_hour_1 13 rfl) (by decide) ?_
        refine r_iald 200 1 K (dk_of tX10_hour_1 14 rfl) rfl (vpd (by decide)) ?_
        obtain ⟨x18, hc, hR⟩ := o1 hR
        refine r_cSi 201 [.int (μ11 1 (168 : Int32).toNatClampNeg)] [] x18 (wM γ am μ11 ++ (r)) K (ct_X10_tide hl hc.symm) cs_X10_84 ⟨rfl, rfl, rfl⟩ (dk_of tX10_hour_1 15 rfl) rfl rfl rfl rfl ?_
        refine r_bipush 204 (6 : Int32) K (dk_of tX10_hour_1 16 rfl) (by decide) ?_
        refine r_ic_ne 206 276 K (dk_of tX10_hour_1 17 rfl) (by decide) hR (fun hR => ?_) (fun hR => ?_)
        · refine r_aload_n 209 0 K (dk_of tX10_hour_1 18 rfl) rfl rfl ?_
          refine r_iload_n 210 1 K (dk_of tX10_hour_1 19 rfl) rfl rfl ?_
          obtain ⟨x19, hc, hR⟩ := o1 hR
          refine r_cVi 211 0 [.int y10] [] x19 (wM γ am μ11 ++ (r)) K (ct_X10_lowestWater hl hc.symm) cs_X10_119 ⟨rfl, rfl, rfl⟩ (dk_of tX10_hour_1 20 rfl) rfl rfl rfl rfl rfl rfl ?_
          refine r_istore_n 214 2 [some (.ref (am 0)), some (.int y10), some (.int x19), none] K (dk_of tX10_hour_1 21 rfl) rfl rfl rfl (by decide) ?_
          refine r_aload_n 215 0 K (dk_of tX10_hour_1 22 rfl) rfl rfl ?_
          refine r_getf (C := RX10) (T := TX10) (N := 29) 216 0 2 K (dk_of tX10_hour_1 23 rfl) w1030 gwX10 rfl rfl (by decide) rfl ?_
          refine r_iload_n 219 1 K (dk_of tX10_hour_1 24 rfl) rfl rfl ?_
          refine r_ialdR 220 3 K (dk_of tX10_hour_1 25 rfl) rfl hR (fun hR => ?_)
          refine r_if_eq 221 270 K (dk_of tX10_hour_1 26 rfl) (by decide) hR (fun hR => ?_) (fun hR => ?_)
          · refine r_iinc 270 1 (y10 + 1) [some (.ref (am 0)), some (.int (y10 + 1)), some (.int x19), none] K (dk_of tX10_hour_1 60 rfl) rfl rfl rfl rfl (by decide) ?_
            refine r_goto 273 187 K (dk_of tX10_hour_1 61 rfl) (by decide) ?_
            exact r_msk [true, true, false, true] [some (.ref (am 0)), some (.int (y10 + 1)), none, none] rfl (ih187 (y10 + 1) μ11 hR)
          · refine r_iload_n 224 2 K (dk_of tX10_hour_1 27 rfl) rfl rfl ?_
            refine r_iconst 225 (-1) K (dk_of tX10_hour_1 28 rfl) (by decide) ?_
            refine r_ic_eq 226 270 K (dk_of tX10_hour_1 29 rfl) (by decide) hR (fun hR => ?_) (fun hR => ?_)
            · refine r_iinc 270 1 (y10 + 1) [some (.ref (am 0)), some (.int (y10 + 1)), some (.int x19), none] K (dk_of tX10_hour_1 60 rfl) rfl rfl rfl rfl (by decide) ?_
              refine r_goto 273 187 K (dk_of tX10_hour_1 61 rfl) (by decide) ?_
              exact r_msk [true, true, false, true] [some (.ref (am 0)), some (.int (y10 + 1)), none, none] rfl (ih187 (y10 + 1) μ11 hR)
            · refine r_aload_n 229 0 K (dk_of tX10_hour_1 30 rfl) rfl rfl ?_
              refine r_iload_n 230 1 K (dk_of tX10_hour_1 31 rfl) rfl rfl ?_
              refine r_aload_n 231 0 K (dk_of tX10_hour_1 32 rfl) rfl rfl ?_
              refine r_getf (C := RX10) (T := TX10) (N := 29) 232 0 0 K (dk_of tX10_hour_1 33 rfl) w1028 gwX10 rfl rfl (by decide) rfl ?_
              refine r_bipush 235 (48 : Int32) K (dk_of tX10_hour_1 34 rfl) (by decide) ?_
              refine r_iload_n 237 1 K (dk_of tX10_hour_1 35 rfl) rfl rfl ?_
              refine r_iadd 238 K (dk_of tX10_hour_1 36 rfl) ?_
              refine r_ialdR 239 1 K (dk_of tX10_hour_1 37 rfl) rfl hR (fun hR => ?_)
              obtain ⟨x20, hc, hR⟩ := o1 hR
              refine r_cVi 240 0 [.int y10, .int (μ11 1 ((48 : Int32) + y10).toNatClampNeg)] [] x20 (wM γ am μ11 ++ (r)) K (ct_X10_back hl hc.symm) cs_X10_122 ⟨rfl, rfl, rfl⟩ (dk_of tX10_hour_1 38 rfl) rfl rfl rfl rfl rfl rfl ?_
              refine r_istore_n 243 3 [some (.ref (am 0)), some (.int y10), some (.int x19), some (.int x20)] K (dk_of tX10_hour_1 39 rfl) rfl rfl rfl (by decide) ?_
              refine r_aload_n 244 0 K (dk_of tX10_hour_1 40 rfl) rfl rfl ?_
              refine r_getf (C := RX10) (T := TX10) (N := 29) 245 0 0 K (dk_of tX10_hour_1 41 rfl) w1028 gwX10 rfl rfl (by decide) rfl ?_
              refine r_bipush 248 (48 : Int32) K (dk_of tX10_hour_1 42 rfl) (by decide) ?_
              refine r_iload_n 250 1 K (dk_of tX10_hour_1 43 rfl) rfl rfl ?_
              refine r_iadd 251 K (dk_of tX10_hour_1 44 rfl) ?_
              refine r_dup2 252 K (dk_of tX10_hour_1 45 rfl) rfl rfl ?_
              refine r_ialdR 253 1 K (dk_of tX10_hour_1 46 rfl) rfl hR (fun hR => ?_)
              refine r_iload_n 254 3 K (dk_of tX10_hour_1 47 rfl) rfl rfl ?_
              refine r_isub 255 K (dk_of tX10_hour_1 48 rfl) ?_
              refine r_iastR 256 1 K (dk_of tX10_hour_1 49 rfl) rfl sM_1 hR (fun hR => ?_)
              refine r_nmS (fun μ21 : St => wM γ am μ21 ++ (r)) hR (fun μ21 hR => ?_)
              refine r_aload_n 257 0 K (dk_of tX10_hour_1 50 rfl) rfl rfl ?_
              refine r_getf (C := RX10) (T := TX10) (N := 29) 258 0 0 K (dk_of tX10_hour_1 51 rfl) w1028 gwX10 rfl rfl (by decide) rfl ?_
              refine r_bipush 261 (24 : Int32) K (dk_of tX10_hour_1 52 rfl) (by decide) ?_
              refine r_iload_n 263 2 K (dk_of tX10_hour_1 53 rfl) rfl rfl ?_
              refine r_iadd 264 K (dk_of tX10_hour_1 54 rfl) ?_
              refine r_dup2 265 K (dk_of tX10_hour_1 55 rfl) rfl rfl ?_
              refine r_ialdR 266 1 K (dk_of tX10_hour_1 56 rfl) rfl hR (fun hR => ?_)
              refine r_iload_n 267 3 K (dk_of tX10_hour_1 57 rfl) rfl rfl ?_
              refine r_iadd 268 K (dk_of tX10_hour_1 58 rfl) ?_
              refine r_iastR 269 1 K (dk_of tX10_hour_1 59 rfl) rfl sM_1 hR (fun hR => ?_)
              refine r_nmS (fun μ22 : St => wM γ am μ22 ++ (r)) hR (fun μ22 hR => ?_)
              refine r_iinc 270 1 (y10 + 1) [some (.ref (am 0)), some (.int (y10 + 1)), some (.int x19), some (.int x20)] K (dk_of tX10_hour_1 60 rfl) rfl rfl rfl rfl (by decide) ?_
              refine r_goto 273 187 K (dk_of tX10_hour_1 61 rfl) (by decide) ?_
              exact r_msk [true, true, false, false] [some (.ref (am 0)), some (.int (y10 + 1)), none, none] rfl (ih187 (y10 + 1) μ22 hR)
        · refine r_iconst 276 (0 : Int32) K (dk_of tX10_hour_1 62 rfl) (by decide) ?_
          refine r_istore_n 277 1 [some (.ref (am 0)), some (.int (0 : Int32)), none, none] K (dk_of tX10_hour_1 63 rfl) rfl rfl rfl (by decide) ?_
          exact b278 200 (0 : Int32) μ11 hR
  have b168 : ∀  (n : Nat) (y8 : Int32) (μ9 : St), some μ0 = sp_X10_hour_168  n y8 μ9 → V l γ X M (wM γ am μ9 ++ (r)) [some (.ref (am 0)), some (.int y8), none, none] 0 0 168 [] := by
    intro  n
    induction n with
    | zero => intro y8 μ9 hR; exact nn_ hR
    | succ n ih168 =>
      intro y8 μ9 hR
      rw [sp_X10_hour_168] at hR
      refine r_iload_n 168 1 K (dk_of tX10_hour_0 98 rfl) rfl rfl ?_
      refine r_bipush 169 (24 : Int32) K (dk_of tX10_hour_0 99 rfl) (by decide) ?_
      refine r_ic_ge 171 185 K (dk_of tX10_hour_1 0 rfl) (by decide) hR (fun hR => ?_) (fun hR => ?_)
      · refine r_iconst 185 (0 : Int32) K (dk_of tX10_hour_1 6 rfl) (by decide) ?_
        refine r_istore_n 186 1 [some (.ref (am 0)), some (.int (0 : Int32)), none, none] K (dk_of tX10_hour_1 7 rfl) rfl rfl rfl (by decide) ?_
        exact b187 200 (0 : Int32) μ9 hR
      · refine r_aload_n 174 0 K (dk_of tX10_hour_1 1 rfl) rfl rfl ?_
        refine r_iload_n 175 1 K (dk_of tX10_hour_1 2 rfl) rfl rfl ?_
        obtain ⟨μ23, hc, hR⟩ := o1 hR
        refine r_cVv 176 0 [.int y8] [] (wM γ am μ23 ++ (r)) K (ct_X10_drift hl hc.symm) cs_X10_116 ⟨rfl, rfl, rfl⟩ (dk_of tX10_hour_1 3 rfl) rfl rfl rfl rfl rfl rfl ?_
        refine r_iinc 179 1 (y8 + 1) [some (.ref (am 0)), some (.int (y8 + 1)), none, none] K (dk_of tX10_hour_1 4 rfl) rfl rfl rfl rfl (by decide) ?_
        refine r_goto 182 168 K (dk_of tX10_hour_1 5 rfl) (by decide) ?_
        exact ih168 (y8 + 1) μ23 hR
  have b149 : ∀  (n : Nat) (y6 : Int32) (μ7 : St), some μ0 = sp_X10_hour_149  n y6 μ7 → V l γ X M (wM γ am μ7 ++ (r)) [some (.ref (am 0)), some (.int y6), none, none] 0 0 149 [] := by
    intro  n
    induction n with
    | zero => intro y6 μ7 hR; exact nn_ hR
    | succ n ih149 =>
      intro y6 μ7 hR
      rw [sp_X10_hour_149] at hR
      refine r_iload_n 149 1 K (dk_of tX10_hour_0 88 rfl) rfl rfl ?_
      refine r_bipush 150 (24 : Int32) K (dk_of tX10_hour_0 89 rfl) (by decide) ?_
      refine r_ic_ge 152 166 K (dk_of tX10_hour_0 90 rfl) (by decide) hR (fun hR => ?_) (fun hR => ?_)
      · refine r_iconst 166 (0 : Int32) K (dk_of tX10_hour_0 96 rfl) (by decide) ?_
        refine r_istore_n 167 1 [some (.ref (am 0)), some (.int (0 : Int32)), none, none] K (dk_of tX10_hour_0 97 rfl) rfl rfl rfl (by decide) ?_
        exact b168 200 (0 : Int32) μ7 hR
      · refine r_aload_n 155 0 K (dk_of tX10_hour_0 91 rfl) rfl rfl ?_
        refine r_iload_n 156 1 K (dk_of tX10_hour_0 92 rfl) rfl rfl ?_
        obtain ⟨μ24, hc, hR⟩ := o1 hR
        refine r_cVv 157 0 [.int y6] [] (wM γ am μ24 ++ (r)) K (ct_X10_look hl hc.symm) cs_X10_113 ⟨rfl, rfl, rfl⟩ (dk_of tX10_hour_0 93 rfl) rfl rfl rfl rfl rfl rfl ?_
        refine r_iinc 160 1 (y6 + 1) [some (.ref (am 0)), some (.int (y6 + 1)), none, none] K (dk_of tX10_hour_0 94 rfl) rfl rfl rfl rfl (by decide) ?_
        refine r_goto 163 149 K (dk_of tX10_hour_0 95 rfl) (by decide) ?_
        exact ih149 (y6 + 1) μ24 hR
  have b130 : ∀  (n : Nat) (y4 : Int32) (μ5 : St), some μ0 = sp_X10_hour_130  n y4 μ5 → V l γ X M (wM γ am μ5 ++ (r)) [some (.ref (am 0)), some (.int y4), none, none] 0 0 130 [] := by
    intro  n
    induction n with
    | zero => intro y4 μ5 hR; exact nn_ hR
    | succ n ih130 =>
      intro y4 μ5 hR
      rw [sp_X10_hour_130] at hR
      refine r_iload_n 130 1 K (dk_of tX10_hour_0 78 rfl) rfl rfl ?_
      refine r_bipush 131 (24 : Int32) K (dk_of tX10_hour_0 79 rfl) (by decide) ?_
      refine r_ic_ge 133 147 K (dk_of tX10_hour_0 80 rfl) (by decide) hR (fun hR => ?_) (fun hR => ?_)
      · refine r_iconst 147 (0 : Int32) K (dk_of tX10_hour_0 86 rfl) (by decide) ?_
        refine r_istore_n 148 1 [some (.ref (am 0)), some (.int (0 : Int32)), none, none] K (dk_of tX10_hour_0 87 rfl) rfl rfl rfl (by decide) ?_
        exact b149 200 (0 : Int32) μ5 hR
      · refine r_aload_n 136 0 K (dk_of tX10_hour_0 81 rfl) rfl rfl ?_
        refine r_iload_n 137 1 K (dk_of tX10_hour_0 82 rfl) rfl rfl ?_
        obtain ⟨μ25, hc, hR⟩ := o1 hR
        refine r_cVv 138 0 [.int y4] [] (wM γ am μ25 ++ (r)) K (ct_X10_weather hl hc.symm) cs_X10_109 ⟨rfl, rfl, rfl⟩ (dk_of tX10_hour_0 83 rfl) rfl rfl rfl rfl rfl rfl ?_
        refine r_iinc 141 1 (y4 + 1) [some (.ref (am 0)), some (.int (y4 + 1)), none, none] K (dk_of tX10_hour_0 84 rfl) rfl rfl rfl rfl (by decide) ?_
        refine r_goto 144 130 K (dk_of tX10_hour_0 85 rfl) (by decide) ?_
        exact ih130 (y4 + 1) μ25 hR
  have b14 : ∀  (n : Nat) (y2 : Int32) (μ3 : St), some μ0 = sp_X10_hour_14  n y2 μ3 → V l γ X M (wM γ am μ3 ++ (r)) [some (.ref (am 0)), some (.int y2), none, none] 0 0 14 [] := by
    intro  n
    induction n with
    | zero => intro y2 μ3 hR; exact nn_ hR
    | succ n ih14 =>
      intro y2 μ3 hR
      rw [sp_X10_hour_14] at hR
      refine r_iload_n 14 1 K (dk_of tX10_hour_0 10 rfl) rfl rfl ?_
      refine r_aload_n 15 0 K (dk_of tX10_hour_0 11 rfl) rfl rfl ?_
      refine r_getf (C := RX10) (T := TX10) (N := 29) 16 0 7 K (dk_of tX10_hour_0 12 rfl) w1035 gwX10 rfl rfl (by decide) rfl ?_
      refine r_ic_ge 19 128 K (dk_of tX10_hour_0 13 rfl) (by decide) hR (fun hR => ?_) (fun hR => ?_)
      · refine r_iconst 128 (0 : Int32) K (dk_of tX10_hour_0 76 rfl) (by decide) ?_
        refine r_istore_n 129 1 [some (.ref (am 0)), some (.int (0 : Int32)), none, none] K (dk_of tX10_hour_0 77 rfl) rfl rfl rfl (by decide) ?_
        exact b130 200 (0 : Int32) μ3 hR
      · refine r_aload_n 22 0 K (dk_of tX10_hour_0 14 rfl) rfl rfl ?_
        refine r_iload_n 23 1 K (dk_of tX10_hour_0 15 rfl) rfl rfl ?_
        refine r_aload_n 24 0 K (dk_of tX10_hour_0 16 rfl) rfl rfl ?_
        refine r_getf (C := RX10) (T := TX10) (N := 29) 25 0 0 K (dk_of tX10_hour_0 17 rfl) w1028 gwX10 rfl rfl (by decide) rfl ?_
        refine r_sipush 28 (168 : Int32) K (dk_of tX10_hour_0 18 rfl) (by decide) ?_
        refine r_iald 31 1 K (dk_of tX10_hour_0 19 rfl) rfl (vpd (by decide)) ?_
        obtain ⟨x26, hc, hR⟩ := o1 hR
        refine r_cVi 32 0 [.int y2, .int (μ3 1 (168 : Int32).toNatClampNeg)] [] x26 (wM γ am μ3 ++ (r)) K (ct_X10_leak hl hc.symm) cs_X10_106 ⟨rfl, rfl, rfl⟩ (dk_of tX10_hour_0 20 rfl) rfl rfl rfl rfl rfl rfl ?_
        refine r_istore_n 35 2 [some (.ref (am 0)), some (.int y2), some (.int x26), none] K (dk_of tX10_hour_0 21 rfl) rfl rfl rfl (by decide) ?_
        refine r_aload_n 36 0 K (dk_of tX10_hour_0 22 rfl) rfl rfl ?_
        refine r_getf (C := RX10) (T := TX10) (N := 29) 37 0 0 K (dk_of tX10_hour_0 23 rfl) w1028 gwX10 rfl rfl (by decide) rfl ?_
        refine r_sipush 40 (144 : Int32) K (dk_of tX10_hour_0 24 rfl) (by decide) ?_
        refine r_iload_n 43 1 K (dk_of tX10_hour_0 25 rfl) rfl rfl ?_
        refine r_iadd 44 K (dk_of tX10_hour_0 26 rfl) ?_
        refine r_dup2 45 K (dk_of tX10_hour_0 27 rfl) rfl rfl ?_
        refine r_ialdR 46 1 K (dk_of tX10_hour_0 28 rfl) rfl hR (fun hR => ?_)
        refine r_iload_n 47 2 K (dk_of tX10_hour_0 29 rfl) rfl rfl ?_
        refine r_isub 48 K (dk_of tX10_hour_0 30 rfl) ?_
        refine r_iastR 49 1 K (dk_of tX10_hour_0 31 rfl) rfl sM_1 hR (fun hR => ?_)
        refine r_nmS (fun μ27 : St => wM γ am μ27 ++ (r)) hR (fun μ27 hR => ?_)
        refine r_aload_n 50 0 K (dk_of tX10_hour_0 32 rfl) rfl rfl ?_
        refine r_getf (C := RX10) (T := TX10) (N := 29) 51 0 0 K (dk_of tX10_hour_0 33 rfl) w1028 gwX10 rfl rfl (by decide) rfl ?_
        refine r_iconst 54 (0 : Int32) K (dk_of tX10_hour_0 34 rfl) (by decide) ?_
        refine r_aload_n 55 0 K (dk_of tX10_hour_0 35 rfl) rfl rfl ?_
        refine r_getf (C := RX10) (T := TX10) (N := 29) 56 0 8 K (dk_of tX10_hour_0 36 rfl) w1036 gwX10 rfl rfl (by decide) rfl ?_
        refine r_iload_n 59 1 K (dk_of tX10_hour_0 37 rfl) rfl rfl ?_
        refine r_ialdR 60 6 K (dk_of tX10_hour_0 38 rfl) rfl hR (fun hR => ?_)
        refine r_iadd 61 K (dk_of tX10_hour_0 39 rfl) ?_
        refine r_dup2 62 K (dk_of tX10_hour_0 40 rfl) rfl rfl ?_
        refine r_ialdR 63 1 K (dk_of tX10_hour_0 41 rfl) rfl hR (fun hR => ?_)
        refine r_iload_n 64 2 K (dk_of tX10_hour_0 42 rfl) rfl rfl ?_
        refine r_iadd 65 K (dk_of tX10_hour_0 43 rfl) ?_
        refine r_iastR 66 1 K (dk_of tX10_hour_0 44 rfl) rfl sM_1 hR (fun hR => ?_)
        refine r_nmS (fun μ28 : St => wM γ am μ28 ++ (r)) hR (fun μ28 hR => ?_)
        refine r_aload_n 67 0 K (dk_of tX10_hour_0 45 rfl) rfl rfl ?_
        refine r_getf (C := RX10) (T := TX10) (N := 29) 68 0 0 K (dk_of tX10_hour_0 46 rfl) w1028 gwX10 rfl rfl (by decide) rfl ?_
        refine r_sipush 71 (169 : Int32) K (dk_of tX10_hour_0 47 rfl) (by decide) ?_
        refine r_dup2 74 K (dk_of tX10_hour_0 48 rfl) rfl rfl ?_
        refine r_iald 75 1 K (dk_of tX10_hour_0 49 rfl) rfl (vpd (by decide)) ?_
        refine r_iload_n 76 2 K (dk_of tX10_hour_0 50 rfl) rfl rfl ?_
        refine r_iadd 77 K (dk_of tX10_hour_0 51 rfl) ?_
        refine r_iast 78 1 K (dk_of tX10_hour_0 52 rfl) rfl (vpd (by decide)) sM_1 ?_
        refine r_nmS (fun μ29 : St => wM γ am μ29 ++ (r)) hR (fun μ29 hR => ?_)
        refine r_aload_n 79 0 K (dk_of tX10_hour_0 53 rfl) rfl rfl ?_
        refine r_getf (C := RX10) (T := TX10) (N := 29) 80 0 0 K (dk_of tX10_hour_0 54 rfl) w1028 gwX10 rfl rfl (by decide) rfl ?_
        refine r_sipush 83 (170 : Int32) K (dk_of tX10_hour_0 55 rfl) (by decide) ?_
        refine r_iload_n 86 2 K (dk_of tX10_hour_0 56 rfl) rfl rfl ?_
        refine r_if_le 87 113 K (dk_of tX10_hour_0 57 rfl) (by decide) hR (fun hR => ?_) (fun hR => ?_)
        · refine r_aload_n 113 0 K (dk_of tX10_hour_0 69 rfl) rfl rfl ?_
          refine r_getf (C := RX10) (T := TX10) (N := 29) 114 0 0 K (dk_of tX10_hour_0 70 rfl) w1028 gwX10 rfl rfl (by decide) rfl ?_
          refine r_sipush 117 (170 : Int32) K (dk_of tX10_hour_0 71 rfl) (by decide) ?_
          refine r_iald 120 1 K (dk_of tX10_hour_0 72 rfl) rfl (vpd (by decide)) ?_
          refine r_iast 121 1 K (dk_of tX10_hour_0 73 rfl) rfl (vpd (by decide)) sM_1 ?_
          refine r_nmS (fun μ30 : St => wM γ am μ30 ++ (r)) hR (fun μ30 hR => ?_)
          refine r_iinc 122 1 (y2 + 1) [some (.ref (am 0)), some (.int (y2 + 1)), some (.int x26), none] K (dk_of tX10_hour_0 74 rfl) rfl rfl rfl rfl (by decide) ?_
          refine r_goto 125 14 K (dk_of tX10_hour_0 75 rfl) (by decide) ?_
          exact r_msk [true, true, false, true] [some (.ref (am 0)), some (.int (y2 + 1)), none, none] rfl (ih14 (y2 + 1) μ30 hR)
        · refine r_aload_n 90 0 K (dk_of tX10_hour_0 58 rfl) rfl rfl ?_
          refine r_getf (C := RX10) (T := TX10) (N := 29) 91 0 0 K (dk_of tX10_hour_0 59 rfl) w1028 gwX10 rfl rfl (by decide) rfl ?_
          refine r_sipush 94 (170 : Int32) K (dk_of tX10_hour_0 60 rfl) (by decide) ?_
          refine r_iald 97 1 K (dk_of tX10_hour_0 61 rfl) rfl (vpd (by decide)) ?_
          refine r_iconst 98 (-1) K (dk_of tX10_hour_0 62 rfl) (by decide) ?_
          refine r_ic_ne 99 113 K (dk_of tX10_hour_0 63 rfl) (by decide) hR (fun hR => ?_) (fun hR => ?_)
          · refine r_aload_n 102 0 K (dk_of tX10_hour_0 64 rfl) rfl rfl ?_
            refine r_getf (C := RX10) (T := TX10) (N := 29) 103 0 0 K (dk_of tX10_hour_0 65 rfl) w1028 gwX10 rfl rfl (by decide) rfl ?_
            refine r_sipush 106 (168 : Int32) K (dk_of tX10_hour_0 66 rfl) (by decide) ?_
            refine r_iald 109 1 K (dk_of tX10_hour_0 67 rfl) rfl (vpd (by decide)) ?_
            refine r_goto 110 121 K (dk_of tX10_hour_0 68 rfl) (by decide) ?_
            refine r_iast 121 1 K (dk_of tX10_hour_0 73 rfl) rfl (vpd (by decide)) sM_1 ?_
            refine r_nmS (fun μ31 : St => wM γ am μ31 ++ (r)) hR (fun μ31 hR => ?_)
            refine r_iinc 122 1 (y2 + 1) [some (.ref (am 0)), some (.int (y2 + 1)), some (.int x26), none] K (dk_of tX10_hour_0 74 rfl) rfl rfl rfl rfl (by decide) ?_
            refine r_goto 125 14 K (dk_of tX10_hour_0 75 rfl) (by decide) ?_
            exact r_msk [true, true, false, true] [some (.ref (am 0)), some (.int (y2 + 1)), none, none] rfl (ih14 (y2 + 1) μ31 hR)
          · refine r_aload_n 113 0 K (dk_of tX10_hour_0 69 rfl) rfl rfl ?_
            refine r_getf (C := RX10) (T := TX10) (N := 29) 114 0 0 K (dk_of tX10_hour_0 70 rfl) w1028 gwX10 rfl rfl (by decide) rfl ?_
            refine r_sipush 117 (170 : Int32) K (dk_of tX10_hour_0 71 rfl) (by decide) ?_
            refine r_iald 120 1 K (dk_of tX10_hour_0 72 rfl) rfl (vpd (by decide)) ?_
            refine r_iast 121 1 K (dk_of tX10_hour_0 73 rfl) rfl (vpd (by decide)) sM_1 ?_
            refine r_nmS (fun μ32 : St => wM γ am μ32 ++ (r)) hR (fun μ32 hR => ?_)
            refine r_iinc 122 1 (y2 + 1) [some (.ref (am 0)), some (.int (y2 + 1)), some (.int x26), none] K (dk_of tX10_hour_0 74 rfl) rfl rfl rfl rfl (by decide) ?_
            refine r_goto 125 14 K (dk_of tX10_hour_0 75 rfl) (by decide) ?_
            exact r_msk [true, true, false, true] [some (.ref (am 0)), some (.int (y2 + 1)), none, none] rfl (ih14 (y2 + 1) μ32 hR)
  refine r_aload_n 0 0 K (dk_of tX10_hour_0 0 rfl) rfl rfl ?_
  refine r_getf (C := RX10) (T := TX10) (N := 29) 1 0 0 K (dk_of tX10_hour_0 1 rfl) w1028 gwX10 rfl rfl (by decide) rfl ?_
  refine r_sipush 4 (168 : Int32) K (dk_of tX10_hour_0 2 rfl) (by decide) ?_
  refine r_dup2 7 K (dk_of tX10_hour_0 3 rfl) rfl rfl ?_
  refine r_iald 8 1 K (dk_of tX10_hour_0 4 rfl) rfl (vpd (by decide)) ?_
  refine r_iconst 9 (1 : Int32) K (dk_of tX10_hour_0 5 rfl) (by decide) ?_
  refine r_iadd 10 K (dk_of tX10_hour_0 6 rfl) ?_
  refine r_iast 11 1 K (dk_of tX10_hour_0 7 rfl) rfl (vpd (by decide)) sM_1 ?_
  refine r_nmS (fun μ1 : St => wM γ am μ1 ++ (r)) hR (fun μ1 hR => ?_)
  refine r_iconst 12 (0 : Int32) K (dk_of tX10_hour_0 8 rfl) (by decide) ?_
  refine r_istore_n 13 1 [some (.ref (am 0)), some (.int (0 : Int32)), none, none] K (dk_of tX10_hour_0 9 rfl) rfl rfl rfl (by decide) ?_
  exact b14 200 (0 : Int32) μ1 hR

def sp_X10_pass_50 (y9 : Int32) : Nat → Int32 → St → Option (Int32 × St)
  | 0, _, _ => none
  | n + 1, y10, μ11 => if y9 ≤ y10 then (some ((μ11 1 (168 : Int32).toNatClampNeg), μ11)) else (b1 (sp_X10_hour μ11) (fun (μ12 : St) => sp_X10_pass_50 y9 n (y10 + 1) μ12))
def sp_X10_pass_39  (y4 : Int32) (y5 : Int32) (μ6 : St) : Option (Int32 × St) := b2 (sp_X10_fails y5 (2 : Int32) μ6) (fun (x7 : Int32) (μ8 : St) => if x7 = 0 then (sp_X10_pass_50 y4 200 (0 : Int32) μ8) else (some ((0 : Int32), μ8)))
def sp_X10_pass (p1 : Int32) (μ : St) : Option (Int32 × St) := b1 (sp_X10_in p1 (1 : Int32) (48 : Int32)) (fun (x1 : Int32) => b2 (sp_X10_fails x1 (1 : Int32) μ) (fun (x2 : Int32) (μ3 : St) => if x2 = 0 then (if (2000 : Int32) < ((μ3 1 (168 : Int32).toNatClampNeg) + p1) then (sp_X10_pass_39 p1 (0 : Int32) μ3) else (sp_X10_pass_39 p1 (1 : Int32) μ3)) else (some ((0 : Int32), μ3))))
set_option maxHeartbeats 4000000 in
set_option maxRecDepth 100000 in
theorem ct_X10_pass {l : Launch} (hl : l.stackTraces = false) {γ : Gd} {am : Nat → Nat} {μ : St} {r : va_W} {p1 : Int32} {x0 : Int32} {μ0 : St} (hR : some (x0, μ0) = sp_X10_pass p1 μ) : Ct l γ yX10_pass (Cond.code yX10_pass cX10_pass 3 (some .int)) ({ frames := 6, cells := 0, slots := 0, locals := 135 } : Room) [.ref (am 0), .int p1] (wM γ am μ ++ (r)) (Pr (some (.int x0)) (wM γ am μ0 ++ (r))) 0 0 := by
  refine Ct_of hl (by decide +kernel) rfl (Nat.le_of_ble_eq_true rfl) (L := [some (.ref (am 0)), some (.int p1), none]) rfl ?_
  intro X Q K hQ
  generalize ((wM γ am μ ++ (r), Q) : MX) = M at K hQ ⊢
  unfold sp_X10_pass at hR
  have b50 : ∀ (y9 : Int32) (n : Nat) (y10 : Int32) (μ11 : St), some (x0, μ0) = sp_X10_pass_50 y9 n y10 μ11 → V l γ X M (wM γ am μ11 ++ (r)) [some (.ref (am 0)), some (.int y9), some (.int y10)] 0 0 50 [] := by
    intro y9 n
    induction n with
    | zero => intro y10 μ11 hR; exact nn_ hR
    | succ n ih50 =>
      intro y10 μ11 hR
      rw [sp_X10_pass_50] at hR
      refine r_iload_n 50 2 K (dk_of tX10_pass 29 rfl) rfl rfl ?_
      refine r_iload_n 51 1 K (dk_of tX10_pass 30 rfl) rfl rfl ?_
      refine r_ic_ge 52 65 K (dk_of tX10_pass 31 rfl) (by decide) hR (fun hR => ?_) (fun hR => ?_)
      · refine r_aload_n 65 0 K (dk_of tX10_pass 36 rfl) rfl rfl ?_
        refine r_getf (C := RX10) (T := TX10) (N := 29) 66 0 0 K (dk_of tX10_pass 37 rfl) w1028 gwX10 rfl rfl (by decide) rfl ?_
        refine r_sipush 69 (168 : Int32) K (dk_of tX10_pass 38 rfl) (by decide) ?_
        refine r_iald 72 1 K (dk_of tX10_pass 39 rfl) rfl (vpd (by decide)) ?_
        exact r_iret 73 K hQ (dk_of tX10_pass 40 rfl) (Nat.zero_le _) (Nat.zero_le _) (lfi (fun u9 : St => wM γ am u9 ++ (r)) hR)
      · refine r_aload_n 55 0 K (dk_of tX10_pass 32 rfl) rfl rfl ?_
        obtain ⟨μ12, hc, hR⟩ := o1 hR
        refine r_cVv 56 0 [] [] (wM γ am μ12 ++ (r)) K (ct_X10_hour hl hc.symm) cs_X10_139 ⟨rfl, rfl, rfl⟩ (dk_of tX10_pass 33 rfl) rfl rfl rfl rfl rfl rfl ?_
        refine r_iinc 59 2 (y10 + 1) [some (.ref (am 0)), some (.int y9), some (.int (y10 + 1))] K (dk_of tX10_pass 34 rfl) rfl rfl rfl rfl (by decide) ?_
        refine r_goto 62 50 K (dk_of tX10_pass 35 rfl) (by decide) ?_
        exact ih50 (y10 + 1) μ12 hR
  have b39 : ∀ (y4 : Int32) (y5 : Int32) (μ6 : St), some (x0, μ0) = sp_X10_pass_39  y4 y5 μ6 → V l γ X M (wM γ am μ6 ++ (r)) [some (.ref (am 0)), some (.int y4), none] 0 0 39 [.int y5, .ref (am 0)] := by
    intro  y4 y5 μ6 hR
    unfold sp_X10_pass_39 at hR
    refine r_iconst 39 (2 : Int32) K (dk_of tX10_pass 22 rfl) (by decide) ?_
    obtain ⟨x7, μ8, hc, hR⟩ := o2 hR
    refine r_cVi 40 0 [.int y5, .int (2 : Int32)] [] x7 (wM γ am μ8 ++ (r)) K (ct_X10_fails hl hc.symm) cs_X10_131 ⟨rfl, rfl, rfl⟩ (dk_of tX10_pass 23 rfl) rfl rfl rfl rfl rfl rfl ?_
    refine r_if_eq 43 48 K (dk_of tX10_pass 24 rfl) (by decide) hR (fun hR => ?_) (fun hR => ?_)
    · refine r_iconst 48 (0 : Int32) K (dk_of tX10_pass 27 rfl) (by decide) ?_
      refine r_istore_n 49 2 [some (.ref (am 0)), some (.int y4), some (.int (0 : Int32))] K (dk_of tX10_pass 28 rfl) rfl rfl rfl (by decide) ?_
      exact b50 y4 200 (0 : Int32) μ8 hR
    · refine r_iconst 46 (0 : Int32) K (dk_of tX10_pass 25 rfl) (by decide) ?_
      exact r_iret 47 K hQ (dk_of tX10_pass 26 rfl) (Nat.zero_le _) (Nat.zero_le _) (lfi (fun u9 : St => wM γ am u9 ++ (r)) hR)
  refine r_aload_n 0 0 K (dk_of tX10_pass 0 rfl) rfl rfl ?_
  refine r_iload_n 1 1 K (dk_of tX10_pass 1 rfl) rfl rfl ?_
  refine r_iconst 2 (1 : Int32) K (dk_of tX10_pass 2 rfl) (by decide) ?_
  refine r_bipush 3 (48 : Int32) K (dk_of tX10_pass 3 rfl) (by decide) ?_
  obtain ⟨x1, hc, hR⟩ := o1 hR
  refine r_cSi 5 [.int p1, .int (1 : Int32), .int (48 : Int32)] [.ref (am 0)] x1 (wM γ am μ ++ (r)) K (ct_X10_in hl hc.symm) cs_X10_66 ⟨rfl, rfl, rfl⟩ (dk_of tX10_pass 4 rfl) rfl rfl rfl rfl ?_
  refine r_iconst 8 (1 : Int32) K (dk_of tX10_pass 5 rfl) (by decide) ?_
  obtain ⟨x2, μ3, hc, hR⟩ := o2 hR
  refine r_cVi 9 0 [.int x1, .int (1 : Int32)] [] x2 (wM γ am μ3 ++ (r)) K (ct_X10_fails hl hc.symm) cs_X10_131 ⟨rfl, rfl, rfl⟩ (dk_of tX10_pass 6 rfl) rfl rfl rfl rfl rfl rfl ?_
  refine r_if_eq 12 17 K (dk_of tX10_pass 7 rfl) (by decide) hR (fun hR => ?_) (fun hR => ?_)
  · refine r_aload_n 17 0 K (dk_of tX10_pass 10 rfl) rfl rfl ?_
    refine r_aload_n 18 0 K (dk_of tX10_pass 11 rfl) rfl rfl ?_
    refine r_getf (C := RX10) (T := TX10) (N := 29) 19 0 0 K (dk_of tX10_pass 12 rfl) w1028 gwX10 rfl rfl (by decide) rfl ?_
    refine r_sipush 22 (168 : Int32) K (dk_of tX10_pass 13 rfl) (by decide) ?_
    refine r_iald 25 1 K (dk_of tX10_pass 14 rfl) rfl (vpd (by decide)) ?_
    refine r_iload_n 26 1 K (dk_of tX10_pass 15 rfl) rfl rfl ?_
    refine r_iadd 27 K (dk_of tX10_pass 16 rfl) ?_
    refine r_sipush 28 (2000 : Int32) K (dk_of tX10_pass 17 rfl) (by decide) ?_
    refine r_ic_gt 31 38 K (dk_of tX10_pass 18 rfl) (by decide) hR (fun hR => ?_) (fun hR => ?_)
    · refine r_iconst 38 (0 : Int32) K (dk_of tX10_pass 21 rfl) (by decide) ?_
      exact b39 p1 (0 : Int32) μ3 hR
    · refine r_iconst 34 (1 : Int32) K (dk_of tX10_pass 19 rfl) (by decide) ?_
      refine r_goto 35 39 K (dk_of tX10_pass 20 rfl) (by decide) ?_
      exact b39 p1 (1 : Int32) μ3 hR
  · refine r_iconst 15 (0 : Int32) K (dk_of tX10_pass 8 rfl) (by decide) ?_
    exact r_iret 16 K hQ (dk_of tX10_pass 9 rfl) (Nat.zero_le _) (Nat.zero_le _) (lfi (fun u9 : St => wM γ am u9 ++ (r)) hR)

def sp_X10_signatures (p1 : Int32) (μ : St) : Option (Int32) := if ((120 : Int32) + p1) < 0 ∨ 174 ≤ ((120 : Int32) + p1).toNatClampNeg then none else (sl ((μ 1 ((120 : Int32) + p1).toNatClampNeg)) (fun x1 : Int32 => some (((x1 &&& (1 : Int32)) + ((x1 >>> ((1 : Int32) &&& 31)) &&& (1 : Int32))) + (x1 >>> ((2 : Int32) &&& 31)))))
set_option maxHeartbeats 4000000 in
set_option maxRecDepth 100000 in
theorem ct_X10_signatures {l : Launch} (hl : l.stackTraces = false) {γ : Gd} {am : Nat → Nat} {μ : St} {r : va_W} {p1 : Int32} {x0 : Int32} (hR : some x0 = sp_X10_signatures p1 μ) : Ct l γ yX10_signatures (Cond.code yX10_signatures cX10_signatures 3 (some .int)) ({ frames := 0, cells := 0, slots := 0, locals := 0 } : Room) [.ref (am 0), .int p1] (wM γ am μ ++ (r)) (Pr (some (.int x0)) (wM γ am μ ++ (r))) 0 0 := by
  refine Ct_of hl (by decide +kernel) rfl (Nat.le_of_ble_eq_true rfl) (L := [some (.ref (am 0)), some (.int p1), none]) rfl ?_
  intro X Q K hQ
  generalize ((wM γ am μ ++ (r), Q) : MX) = M at K hQ ⊢
  unfold sp_X10_signatures at hR
  refine r_aload_n 0 0 K (dk_of tX10_signatures 0 rfl) rfl rfl ?_
  refine r_getf (C := RX10) (T := TX10) (N := 29) 1 0 0 K (dk_of tX10_signatures 1 rfl) w1028 gwX10 rfl rfl (by decide) rfl ?_
  refine r_bipush 4 (120 : Int32) K (dk_of tX10_signatures 2 rfl) (by decide) ?_
  refine r_iload_n 6 1 K (dk_of tX10_signatures 3 rfl) rfl rfl ?_
  refine r_iadd 7 K (dk_of tX10_signatures 4 rfl) ?_
  refine r_ialdR 8 1 K (dk_of tX10_signatures 5 rfl) rfl hR (fun hR => ?_)
  refine r_nmI hR (fun x1 hR => ?_)
  refine r_istore_n 9 2 [some (.ref (am 0)), some (.int p1), some (.int x1)] K (dk_of tX10_signatures 6 rfl) rfl rfl rfl (by decide) ?_
  refine r_iload_n 10 2 K (dk_of tX10_signatures 7 rfl) rfl rfl ?_
  refine r_iconst 11 (1 : Int32) K (dk_of tX10_signatures 8 rfl) (by decide) ?_
  refine r_iand 12 K (dk_of tX10_signatures 9 rfl) ?_
  refine r_iload_n 13 2 K (dk_of tX10_signatures 10 rfl) rfl rfl ?_
  refine r_iconst 14 (1 : Int32) K (dk_of tX10_signatures 11 rfl) (by decide) ?_
  refine r_ishr 15 K (dk_of tX10_signatures 12 rfl) ?_
  refine r_iconst 16 (1 : Int32) K (dk_of tX10_signatures 13 rfl) (by decide) ?_
  refine r_iand 17 K (dk_of tX10_signatures 14 rfl) ?_
  refine r_iadd 18 K (dk_of tX10_signatures 15 rfl) ?_
  refine r_iload_n 19 2 K (dk_of tX10_signatures 16 rfl) rfl rfl ?_
  refine r_iconst 20 (2 : Int32) K (dk_of tX10_signatures 17 rfl) (by decide) ?_
  refine r_ishr 21 K (dk_of tX10_signatures 18 rfl) ?_
  refine r_iadd 22 K (dk_of tX10_signatures 19 rfl) ?_
  exact r_iret 23 K hQ (dk_of tX10_signatures 20 rfl) (Nat.zero_le _) (Nat.zero_le _) (lfi0 hR)

def sp_X10_at_137  (y8 : Int32) (y9 : Int32) (μ10 : St) : Option (Int32 × St) := if (y9 + y8) < 0 ∨ 174 ≤ (y9 + y8).toNatClampNeg then none else (some ((μ10 1 (y9 + y8).toNatClampNeg), μ10))
def sp_X10_at (p1 : Int32) (p2 : Int32) (μ : St) : Option (Int32 × St) := b1 (sp_X10_isCell p1) (fun (x1 : Int32) => b2 (sp_X10_fails x1 (1 : Int32) μ) (fun (x2 : Int32) (μ3 : St) => if x2 = 0 then (b1 (sp_X10_in p2 (0 : Int32) (8 : Int32)) (fun (x4 : Int32) => b2 (sp_X10_fails x4 (2 : Int32) μ3) (fun (x5 : Int32) (μ6 : St) => if x5 = 0 then (if (3 : Int32) ≤ p2 then (if (5 : Int32) ≤ p2 then (if p2 = (8 : Int32) then (b1 (sp_X10_signatures p1 μ6) (fun (x7 : Int32) => if x7 ≤ (1 : Int32) then (some ((0 : Int32), μ6)) else (some ((1 : Int32), μ6)))) else (if p2 = (5 : Int32) then (sp_X10_at_137 p1 (72 : Int32) μ6) else (if p2 = (6 : Int32) then (sp_X10_at_137 p1 (96 : Int32) μ6) else (sp_X10_at_137 p1 (120 : Int32) μ6)))) else (if p2 = (3 : Int32) then (if p1 < 0 ∨ 24 ≤ p1.toNatClampNeg then none else (some ((μ6 3 p1.toNatClampNeg), μ6))) else (if p1 < 0 ∨ 24 ≤ p1.toNatClampNeg then none else (if (μ6 3 p1.toNatClampNeg) = 0 then (if p1 < 0 ∨ 24 ≤ p1.toNatClampNeg then none else (some ((μ6 4 p1.toNatClampNeg), μ6))) else (some ((0 : Int32), μ6)))))) else (if (((24 : Int32) * p2) + p1) < 0 ∨ 174 ≤ (((24 : Int32) * p2) + p1).toNatClampNeg then none else (some ((μ6 1 (((24 : Int32) * p2) + p1).toNatClampNeg), μ6)))) else (some ((0 : Int32), μ6))))) else (some ((0 : Int32), μ3))))
set_option maxHeartbeats 4000000 in
set_option maxRecDepth 100000 in
theorem ct_X10_at {l : Launch} (hl : l.stackTraces = false) {γ : Gd} {am : Nat → Nat} {μ : St} {r : va_W} {p1 : Int32} {p2 : Int32} {x0 : Int32} {μ0 : St} (hR : some (x0, μ0) = sp_X10_at p1 p2 μ) : Ct l γ yX10_at (Cond.code yX10_at cX10_at 3 (some .int)) ({ frames := 2, cells := 0, slots := 0, locals := 42 } : Room) [.ref (am 0), .int p1, .int p2] (wM γ am μ ++ (r)) (Pr (some (.int x0)) (wM γ am μ0 ++ (r))) 0 0 := by
  refine Ct_of hl (by decide +kernel) rfl (Nat.le_of_ble_eq_true rfl) (L := [some (.ref (am 0)), some (.int p1), some (.int p2)]) rfl ?_
  intro X Q K hQ
  generalize ((wM γ am μ ++ (r), Q) : MX) = M at K hQ ⊢
  unfold sp_X10_at at hR
  have b137 : ∀ (y8 : Int32) (y9 : Int32) (μ10 : St), some (x0, μ0) = sp_X10_at_137  y8 y9 μ10 → V l γ X M (wM γ am μ10 ++ (r)) [none, some (.int y8), none] 0 0 137 [.int y9, .ref (am 1)] := by
    intro  y8 y9 μ10 hR
    unfold sp_X10_at_137 at hR
    refine r_iload_n 137 1 K (dk_of tX10_at 78 rfl) rfl rfl ?_
    refine r_iadd 138 K (dk_of tX10_at 79 rfl) ?_
    refine r_ialdR 139 1 K (dk_of tX10_at 80 rfl) rfl hR (fun hR => ?_)
    exact r_iret 140 K hQ (dk_of tX10_at 81 rfl) (Nat.zero_le _) (Nat.zero_le _) (lfi (fun u9 : St => wM γ am u9 ++ (r)) hR)
  refine r_aload_n 0 0 K (dk_of tX10_at 0 rfl) rfl rfl ?_
  refine r_iload_n 1 1 K (dk_of tX10_at 1 rfl) rfl rfl ?_
  obtain ⟨x1, hc, hR⟩ := o1 hR
  refine r_cSi 2 [.int p1] [.ref (am 0)] x1 (wM γ am μ ++ (r)) K (ct_X10_isCell hl hc.symm) cs_X10_76 ⟨rfl, rfl, rfl⟩ (dk_of tX10_at 2 rfl) rfl rfl rfl rfl ?_
  refine r_iconst 5 (1 : Int32) K (dk_of tX10_at 3 rfl) (by decide) ?_
  obtain ⟨x2, μ3, hc, hR⟩ := o2 hR
  refine r_cVi 6 0 [.int x1, .int (1 : Int32)] [] x2 (wM γ am μ3 ++ (r)) K (ct_X10_fails hl hc.symm) cs_X10_131 ⟨rfl, rfl, rfl⟩ (dk_of tX10_at 4 rfl) rfl rfl rfl rfl rfl rfl ?_
  refine r_if_eq 9 14 K (dk_of tX10_at 5 rfl) (by decide) hR (fun hR => ?_) (fun hR => ?_)
  · refine r_aload_n 14 0 K (dk_of tX10_at 8 rfl) rfl rfl ?_
    refine r_iload_n 15 2 K (dk_of tX10_at 9 rfl) rfl rfl ?_
    refine r_iconst 16 (0 : Int32) K (dk_of tX10_at 10 rfl) (by decide) ?_
    refine r_bipush 17 (8 : Int32) K (dk_of tX10_at 11 rfl) (by decide) ?_
    obtain ⟨x4, hc, hR⟩ := o1 hR
    refine r_cSi 19 [.int p2, .int (0 : Int32), .int (8 : Int32)] [.ref (am 0)] x4 (wM γ am μ3 ++ (r)) K (ct_X10_in hl hc.symm) cs_X10_66 ⟨rfl, rfl, rfl⟩ (dk_of tX10_at 12 rfl) rfl rfl rfl rfl ?_
    refine r_iconst 22 (2 : Int32) K (dk_of tX10_at 13 rfl) (by decide) ?_
    obtain ⟨x5, μ6, hc, hR⟩ := o2 hR
    refine r_cVi 23 0 [.int x4, .int (2 : Int32)] [] x5 (wM γ am μ6 ++ (r)) K (ct_X10_fails hl hc.symm) cs_X10_131 ⟨rfl, rfl, rfl⟩ (dk_of tX10_at 14 rfl) rfl rfl rfl rfl rfl rfl ?_
    refine r_if_eq 26 31 K (dk_of tX10_at 15 rfl) (by decide) hR (fun hR => ?_) (fun hR => ?_)
    · refine r_iload_n 31 2 K (dk_of tX10_at 18 rfl) rfl rfl ?_
      refine r_iconst 32 (3 : Int32) K (dk_of tX10_at 19 rfl) (by decide) ?_
      refine r_ic_ge 33 48 K (dk_of tX10_at 20 rfl) (by decide) hR (fun hR => ?_) (fun hR => ?_)
      · refine r_iload_n 48 2 K (dk_of tX10_at 30 rfl) rfl rfl ?_
        refine r_iconst 49 (5 : Int32) K (dk_of tX10_at 31 rfl) (by decide) ?_
        refine r_ic_ge 50 87 K (dk_of tX10_at 32 rfl) (by decide) hR (fun hR => ?_) (fun hR => ?_)
        · refine r_iload_n 87 2 K (dk_of tX10_at 53 rfl) rfl rfl ?_
          refine r_bipush 88 (8 : Int32) K (dk_of tX10_at 54 rfl) (by decide) ?_
          refine r_ic_ne 90 110 K (dk_of tX10_at 55 rfl) (by decide) hR (fun hR => ?_) (fun hR => ?_)
          · refine r_aload_n 93 0 K (dk_of tX10_at 56 rfl) rfl rfl ?_
            refine r_iload_n 94 1 K (dk_of tX10_at 57 rfl) rfl rfl ?_
            obtain ⟨x7, hc, hR⟩ := o1 hR
            refine r_cVi 95 0 [.int p1] [] x7 (wM γ am μ6 ++ (r)) K (ct_X10_signatures hl hc.symm) cs_X10_142 ⟨rfl, rfl, rfl⟩ (dk_of tX10_at 58 rfl) rfl rfl rfl rfl rfl rfl ?_
            refine r_iconst 98 (1 : Int32) K (dk_of tX10_at 59 rfl) (by decide) ?_
            refine r_ic_le 99 106 K (dk_of tX10_at 60 rfl) (by decide) hR (fun hR => ?_) (fun hR => ?_)
            · refine r_iconst 106 (0 : Int32) K (dk_of tX10_at 63 rfl) (by decide) ?_
              refine r_goto 107 140 K (dk_of tX10_at 64 rfl) (by decide) ?_
              exact r_iret 140 K hQ (dk_of tX10_at 81 rfl) (Nat.zero_le _) (Nat.zero_le _) (lfi (fun u9 : St => wM γ am u9 ++ (r)) hR)
            · refine r_iconst 102 (1 : Int32) K (dk_of tX10_at 61 rfl) (by decide) ?_
              refine r_goto 103 140 K (dk_of tX10_at 62 rfl) (by decide) ?_
              exact r_iret 140 K hQ (dk_of tX10_at 81 rfl) (Nat.zero_le _) (Nat.zero_le _) (lfi (fun u9 : St => wM γ am u9 ++ (r)) hR)
          · refine r_aload_n 110 0 K (dk_of tX10_at 65 rfl) rfl rfl ?_
            refine r_getf (C := RX10) (T := TX10) (N := 29) 111 0 0 K (dk_of tX10_at 66 rfl) w1028 gwX10 rfl rfl (by decide) rfl ?_
            refine r_iload_n 114 2 K (dk_of tX10_at 67 rfl) rfl rfl ?_
            refine r_iconst 115 (5 : Int32) K (dk_of tX10_at 68 rfl) (by decide) ?_
            refine r_ic_ne 116 124 K (dk_of tX10_at 69 rfl) (by decide) hR (fun hR => ?_) (fun hR => ?_)
            · refine r_bipush 119 (72 : Int32) K (dk_of tX10_at 70 rfl) (by decide) ?_
              refine r_goto 121 137 K (dk_of tX10_at 71 rfl) (by decide) ?_
              exact r_msk [false, true, false] [none, some (.int p1), none] rfl (b137 p1 (72 : Int32) μ6 hR)
            · refine r_iload_n 124 2 K (dk_of tX10_at 72 rfl) rfl rfl ?_
              refine r_bipush 125 (6 : Int32) K (dk_of tX10_at 73 rfl) (by decide) ?_
              refine r_ic_ne 127 135 K (dk_of tX10_at 74 rfl) (by decide) hR (fun hR => ?_) (fun hR => ?_)
              · refine r_bipush 130 (96 : Int32) K (dk_of tX10_at 75 rfl) (by decide) ?_
                refine r_goto 132 137 K (dk_of tX10_at 76 rfl) (by decide) ?_
                exact r_msk [false, true, false] [none, some (.int p1), none] rfl (b137 p1 (96 : Int32) μ6 hR)
              · refine r_bipush 135 (120 : Int32) K (dk_of tX10_at 77 rfl) (by decide) ?_
                exact r_msk [false, true, false] [none, some (.int p1), none] rfl (b137 p1 (120 : Int32) μ6 hR)
        · refine r_iload_n 53 2 K (dk_of tX10_at 33 rfl) rfl rfl ?_
          refine r_iconst 54 (3 : Int32) K (dk_of tX10_at 34 rfl) (by decide) ?_
          refine r_ic_ne 55 67 K (dk_of tX10_at 35 rfl) (by decide) hR (fun hR => ?_) (fun hR => ?_)
          · refine r_aload_n 58 0 K (dk_of tX10_at 36 rfl) rfl rfl ?_
            refine r_getf (C := RX10) (T := TX10) (N := 29) 59 0 2 K (dk_of tX10_at 37 rfl) w1030 gwX10 rfl rfl (by decide) rfl ?_
            refine r_iload_n 62 1 K (dk_of tX10_at 38 rfl) rfl rfl ?_
            refine r_ialdR 63 3 K (dk_of tX10_at 39 rfl) rfl hR (fun hR => ?_)
            refine r_goto 64 86 K (dk_of tX10_at 40 rfl) (by decide) ?_
            exact r_iret 86 K hQ (dk_of tX10_at 52 rfl) (Nat.zero_le _) (Nat.zero_le _) (lfi (fun u9 : St => wM γ am u9 ++ (r)) hR)
          · refine r_aload_n 67 0 K (dk_of tX10_at 41 rfl) rfl rfl ?_
            refine r_getf (C := RX10) (T := TX10) (N := 29) 68 0 2 K (dk_of tX10_at 42 rfl) w1030 gwX10 rfl rfl (by decide) rfl ?_
            refine r_iload_n 71 1 K (dk_of tX10_at 43 rfl) rfl rfl ?_
            refine r_ialdR 72 3 K (dk_of tX10_at 44 rfl) rfl hR (fun hR => ?_)
            refine r_if_ne 73 85 K (dk_of tX10_at 45 rfl) (by decide) hR (fun hR => ?_) (fun hR => ?_)
            · refine r_aload_n 76 0 K (dk_of tX10_at 46 rfl) rfl rfl ?_
              refine r_getf (C := RX10) (T := TX10) (N := 29) 77 0 3 K (dk_of tX10_at 47 rfl) w1031 gwX10 rfl rfl (by decide) rfl ?_
              refine r_iload_n 80 1 K (dk_of tX10_at 48 rfl) rfl rfl ?_
              refine r_ialdR 81 4 K (dk_of tX10_at 49 rfl) rfl hR (fun hR => ?_)
              refine r_goto 82 86 K (dk_of tX10_at 50 rfl) (by decide) ?_
              exact r_iret 86 K hQ (dk_of tX10_at 52 rfl) (Nat.zero_le _) (Nat.zero_le _) (lfi (fun u9 : St => wM γ am u9 ++ (r)) hR)
            · refine r_iconst 85 (0 : Int32) K (dk_of tX10_at 51 rfl) (by decide) ?_
              exact r_iret 86 K hQ (dk_of tX10_at 52 rfl) (Nat.zero_le _) (Nat.zero_le _) (lfi (fun u9 : St => wM γ am u9 ++ (r)) hR)
      · refine r_aload_n 36 0 K (dk_of tX10_at 21 rfl) rfl rfl ?_
        refine r_getf (C := RX10) (T := TX10) (N := 29) 37 0 0 K (dk_of tX10_at 22 rfl) w1028 gwX10 rfl rfl (by decide) rfl ?_
        refine r_bipush 40 (24 : Int32) K (dk_of tX10_at 23 rfl) (by decide) ?_
        refine r_iload_n 42 2 K (dk_of tX10_at 24 rfl) rfl rfl ?_
        refine r_imul 43 K (dk_of tX10_at 25 rfl) ?_
        refine r_iload_n 44 1 K (dk_of tX10_at 26 rfl) rfl rfl ?_
        refine r_iadd 45 K (dk_of tX10_at 27 rfl) ?_
        refine r_ialdR 46 1 K (dk_of tX10_at 28 rfl) rfl hR (fun hR => ?_)
        exact r_iret 47 K hQ (dk_of tX10_at 29 rfl) (Nat.zero_le _) (Nat.zero_le _) (lfi (fun u9 : St => wM γ am u9 ++ (r)) hR)
    · refine r_iconst 29 (0 : Int32) K (dk_of tX10_at 16 rfl) (by decide) ?_
      exact r_iret 30 K hQ (dk_of tX10_at 17 rfl) (Nat.zero_le _) (Nat.zero_le _) (lfi (fun u9 : St => wM γ am u9 ++ (r)) hR)
  · refine r_iconst 12 (0 : Int32) K (dk_of tX10_at 6 rfl) (by decide) ?_
    exact r_iret 13 K hQ (dk_of tX10_at 7 rfl) (Nat.zero_le _) (Nat.zero_le _) (lfi (fun u9 : St => wM γ am u9 ++ (r)) hR)

def sp_X10_mean (p1 : Int32) (p2 : Int32) (p3 : Int32) (p4 : Int32) (μ : St) : Option (Int32 × St) := if (μ 0 10) < 0 ∨ 20 ≤ (μ 0 10).toNatClampNeg then none else (sl (stU μ 8 (μ 0 10).toNatClampNeg p1) (fun μ1 : St => if (μ1 0 10) < 0 ∨ 20 ≤ (μ1 0 10).toNatClampNeg then none else (sl (stU μ1 9 (μ1 0 10).toNatClampNeg p2) (fun μ2 : St => if (μ2 0 10) < 0 ∨ 20 ≤ (μ2 0 10).toNatClampNeg then none else (sl (stU μ2 11 (μ2 0 10).toNatClampNeg p3) (fun μ3 : St => if (μ3 0 10) < 0 ∨ 20 ≤ (μ3 0 10).toNatClampNeg then none else (sl (stU μ3 12 (μ3 0 10).toNatClampNeg p4) (fun μ4 : St => if (μ4 0 10) < 0 ∨ 20 ≤ (μ4 0 10).toNatClampNeg then none else (sl (stU μ4 14 (μ4 0 10).toNatClampNeg (-1 : Int32)) (fun μ5 : St => sl (stU μ5 0 10 ((μ5 0 10) + (1 : Int32))) (fun μ6 : St => some (((μ6 0 10) - (1 : Int32)), μ6))))))))))))
set_option maxHeartbeats 4000000 in
set_option maxRecDepth 100000 in
theorem ct_X10_mean {l : Launch} (hl : l.stackTraces = false) {γ : Gd} {am : Nat → Nat} {μ : St} {r : va_W} {p1 : Int32} {p2 : Int32} {p3 : Int32} {p4 : Int32} {x0 : Int32} {μ0 : St} (hR : some (x0, μ0) = sp_X10_mean p1 p2 p3 p4 μ) : Ct l γ yX10_mean (Cond.code yX10_mean cX10_mean 5 (some .int)) ({ frames := 0, cells := 0, slots := 0, locals := 0 } : Room) [.ref (am 0), .int p1, .int p2, .int p3, .int p4] (wM γ am μ ++ (r)) (Pr (some (.int x0)) (wM γ am μ0 ++ (r))) 0 0 := by
  refine Ct_of hl (by decide +kernel) rfl (Nat.le_of_ble_eq_true rfl) (L := [some (.ref (am 0)), some (.int p1), some (.int p2), some (.int p3), some (.int p4)]) rfl ?_
  intro X Q K hQ
  generalize ((wM γ am μ ++ (r), Q) : MX) = M at K hQ ⊢
  unfold sp_X10_mean at hR
  refine r_aload_n 0 0 K (dk_of tX10_mean 0 rfl) rfl rfl ?_
  refine r_getf (C := RX10) (T := TX10) (N := 29) 1 0 11 K (dk_of tX10_mean 1 rfl) w1039 gwX10 rfl rfl (by decide) rfl ?_
  refine r_aload_n 4 0 K (dk_of tX10_mean 2 rfl) rfl rfl ?_
  refine r_getf (C := RX10) (T := TX10) (N := 29) 5 0 10 K (dk_of tX10_mean 3 rfl) w1038 gwX10 rfl rfl (by decide) rfl ?_
  refine r_iload_n 8 1 K (dk_of tX10_mean 4 rfl) rfl rfl ?_
  refine r_iastR 9 8 K (dk_of tX10_mean 5 rfl) rfl sM_8 hR (fun hR => ?_)
  refine r_nmS (fun μ1 : St => wM γ am μ1 ++ (r)) hR (fun μ1 hR => ?_)
  refine r_aload_n 10 0 K (dk_of tX10_mean 6 rfl) rfl rfl ?_
  refine r_getf (C := RX10) (T := TX10) (N := 29) 11 0 12 K (dk_of tX10_mean 7 rfl) w1040 gwX10 rfl rfl (by decide) rfl ?_
  refine r_aload_n 14 0 K (dk_of tX10_mean 8 rfl) rfl rfl ?_
  refine r_getf (C := RX10) (T := TX10) (N := 29) 15 0 10 K (dk_of tX10_mean 9 rfl) w1038 gwX10 rfl rfl (by decide) rfl ?_
  refine r_iload_n 18 2 K (dk_of tX10_mean 10 rfl) rfl rfl ?_
  refine r_iastR 19 9 K (dk_of tX10_mean 11 rfl) rfl sM_9 hR (fun hR => ?_)
  refine r_nmS (fun μ2 : St => wM γ am μ2 ++ (r)) hR (fun μ2 hR => ?_)
  refine r_aload_n 20 0 K (dk_of tX10_mean 12 rfl) rfl rfl ?_
  refine r_getf (C := RX10) (T := TX10) (N := 29) 21 0 14 K (dk_of tX10_mean 13 rfl) w1042 gwX10 rfl rfl (by decide) rfl ?_
  refine r_aload_n 24 0 K (dk_of tX10_mean 14 rfl) rfl rfl ?_
  refine r_getf (C := RX10) (T := TX10) (N := 29) 25 0 10 K (dk_of tX10_mean 15 rfl) w1038 gwX10 rfl rfl (by decide) rfl ?_
  refine r_iload_n 28 3 K (dk_of tX10_mean 16 rfl) rfl rfl ?_
  refine r_iastR 29 11 K (dk_of tX10_mean 17 rfl) rfl sM_11 hR (fun hR => ?_)
  refine r_nmS (fun μ3 : St => wM γ am μ3 ++ (r)) hR (fun μ3 hR => ?_)
  refine r_aload_n 30 0 K (dk_of tX10_mean 18 rfl) rfl rfl ?_
  refine r_getf (C := RX10) (T := TX10) (N := 29) 31 0 15 K (dk_of tX10_mean 19 rfl) w1043 gwX10 rfl rfl (by decide) rfl ?_
  refine r_aload_n 34 0 K (dk_of tX10_mean 20 rfl) rfl rfl ?_
  refine r_getf (C := RX10) (T := TX10) (N := 29) 35 0 10 K (dk_of tX10_mean 21 rfl) w1038 gwX10 rfl rfl (by decide) rfl ?_
  refine r_iload 38 4 K (dk_of tX10_mean 22 rfl) rfl ?_
  refine r_iastR 40 12 K (dk_of tX10_mean 23 rfl) rfl sM_12 hR (fun hR => ?_)
  refine r_nmS (fun μ4 : St => wM γ am μ4 ++ (r)) hR (fun μ4 hR => ?_)
  refine r_aload_n 41 0 K (dk_of tX10_mean 24 rfl) rfl rfl ?_
  refine r_getf (C := RX10) (T := TX10) (N := 29) 42 0 17 K (dk_of tX10_mean 25 rfl) w1045 gwX10 rfl rfl (by decide) rfl ?_
  refine r_aload_n 45 0 K (dk_of tX10_mean 26 rfl) rfl rfl ?_
  refine r_getf (C := RX10) (T := TX10) (N := 29) 46 0 10 K (dk_of tX10_mean 27 rfl) w1038 gwX10 rfl rfl (by decide) rfl ?_
  refine r_iconst 49 (-1) K (dk_of tX10_mean 28 rfl) (by decide) ?_
  refine r_iastR 50 14 K (dk_of tX10_mean 29 rfl) rfl sM_14 hR (fun hR => ?_)
  refine r_nmS (fun μ5 : St => wM γ am μ5 ++ (r)) hR (fun μ5 hR => ?_)
  refine r_aload_n 51 0 K (dk_of tX10_mean 30 rfl) rfl rfl ?_
  refine r_dup 52 K (dk_of tX10_mean 31 rfl) rfl ?_
  refine r_getf (C := RX10) (T := TX10) (N := 29) 53 0 10 K (dk_of tX10_mean 32 rfl) w1038 gwX10 rfl rfl (by decide) rfl ?_
  refine r_iconst 56 (1 : Int32) K (dk_of tX10_mean 33 rfl) (by decide) ?_
  refine r_iadd 57 K (dk_of tX10_mean 34 rfl) ?_
  refine r_putf (C := RX10) (T := TX10) (N := 29) 58 0 10 K (dk_of tX10_mean 35 rfl) w1038 gwX10 tyX10_ok nmX10 rfl rfl (by decide) rfl rfl rfl rfl (Nat.le_of_ble_eq_true rfl) sM_0_10 ?_
  refine r_nmS (fun μ6 : St => wM γ am μ6 ++ (r)) hR (fun μ6 hR => ?_)
  refine r_aload_n 61 0 K (dk_of tX10_mean 36 rfl) rfl rfl ?_
  refine r_getf (C := RX10) (T := TX10) (N := 29) 62 0 10 K (dk_of tX10_mean 37 rfl) w1038 gwX10 rfl rfl (by decide) rfl ?_
  refine r_iconst 65 (1 : Int32) K (dk_of tX10_mean 38 rfl) (by decide) ?_
  refine r_isub 66 K (dk_of tX10_mean 39 rfl) ?_
  exact r_iret 67 K hQ (dk_of tX10_mean 40 rfl) (Nat.zero_le _) (Nat.zero_le _) (lfi (fun u9 : St => wM γ am u9 ++ (r)) hR)

def sp_X10_boom_80  (y22 : Int32) (y23 : Int32) (y24 : Int32) (y25 : Int32) (μ26 : St) : Option (Int32 × St) := b2 (sp_X10_fails y25 (3 : Int32) μ26) (fun (x27 : Int32) (μ28 : St) => if x27 = 0 then (if (μ28 0 10) < 0 ∨ 20 ≤ (μ28 0 10).toNatClampNeg then none else (sl (stU μ28 10 (μ28 0 10).toNatClampNeg y24) (fun μ29 : St => b2 (sp_X10_mean (0 : Int32) y22 y23 (0 : Int32) μ29) (fun (x30 : Int32) (μ31 : St) => some (x30, μ31))))) else (some ((0 : Int32), μ28)))
def sp_X10_boom_79  (y18 : Int32) (y19 : Int32) (y20 : Int32) (μ21 : St) : Option (Int32 × St) := sp_X10_boom_80 y18 y19 y20 (0 : Int32) μ21
def sp_X10_boom_39  (y9 : Int32) (y10 : Int32) (y11 : Int32) (y12 : Int32) (μ13 : St) : Option (Int32 × St) := b2 (sp_X10_fails y12 (2 : Int32) μ13) (fun (x14 : Int32) (μ15 : St) => if x14 = 0 then (b1 (sp_X10_borderOf y9 y10) (fun (x16 : Int32) => b1 (sp_X10_boomOn x16 μ15) (fun (x17 : Int32) => if x17 = (-1 : Int32) then (if (20 : Int32) ≤ (μ15 0 10) then (sp_X10_boom_79 y9 y11 x16 μ15) else (sp_X10_boom_80 y9 y11 x16 (1 : Int32) μ15)) else (sp_X10_boom_79 y9 y11 x16 μ15)))) else (some ((0 : Int32), μ15)))
def sp_X10_boom_38  (y5 : Int32) (y6 : Int32) (y7 : Int32) (μ8 : St) : Option (Int32 × St) := sp_X10_boom_39 y5 y6 y7 (0 : Int32) μ8
def sp_X10_boom (p1 : Int32) (p2 : Int32) (p3 : Int32) (μ : St) : Option (Int32 × St) := b1 (sp_X10_isCell p1) (fun (x1 : Int32) => b2 (sp_X10_fails x1 (1 : Int32) μ) (fun (x2 : Int32) (μ3 : St) => if x2 = 0 then (b1 (sp_X10_in p2 (0 : Int32) (3 : Int32)) (fun (x4 : Int32) => if x4 = 0 then (sp_X10_boom_38 p1 p2 p3 μ3) else (b1 (sp_X10_in p3 (1 : Int32) (9 : Int32)) (fun (x32 : Int32) => if x32 = 0 then (sp_X10_boom_38 p1 p2 p3 μ3) else (sp_X10_boom_39 p1 p2 p3 (1 : Int32) μ3))))) else (some ((0 : Int32), μ3))))
set_option maxHeartbeats 4000000 in
set_option maxRecDepth 100000 in
theorem ct_X10_boom {l : Launch} (hl : l.stackTraces = false) {γ : Gd} {am : Nat → Nat} {μ : St} {r : va_W} {p1 : Int32} {p2 : Int32} {p3 : Int32} {x0 : Int32} {μ0 : St} (hR : some (x0, μ0) = sp_X10_boom p1 p2 p3 μ) : Ct l γ yX10_boom (Cond.code yX10_boom cX10_boom 5 (some .int)) ({ frames := 4, cells := 0, slots := 0, locals := 86 } : Room) [.ref (am 0), .int p1, .int p2, .int p3] (wM γ am μ ++ (r)) (Pr (some (.int x0)) (wM γ am μ0 ++ (r))) 0 0 := by
  refine Ct_of hl (by decide +kernel) rfl (Nat.le_of_ble_eq_true rfl) (L := [some (.ref (am 0)), some (.int p1), some (.int p2), some (.int p3), none]) rfl ?_
  intro X Q K hQ
  generalize ((wM γ am μ ++ (r), Q) : MX) = M at K hQ ⊢
  unfold sp_X10_boom at hR
  have b80 : ∀ (y22 : Int32) (y23 : Int32) (y24 : Int32) (y25 : Int32) (μ26 : St), some (x0, μ0) = sp_X10_boom_80  y22 y23 y24 y25 μ26 → V l γ X M (wM γ am μ26 ++ (r)) [some (.ref (am 0)), some (.int y22), none, some (.int y23), some (.int y24)] 0 0 80 [.int y25, .ref (am 0)] := by
    intro  y22 y23 y24 y25 μ26 hR
    unfold sp_X10_boom_80 at hR
    refine r_iconst 80 (3 : Int32) K (dk_of tX10_boom 44 rfl) (by decide) ?_
    obtain ⟨x27, μ28, hc, hR⟩ := o2 hR
    refine r_cVi 81 0 [.int y25, .int (3 : Int32)] [] x27 (wM γ am μ28 ++ (r)) K (ct_X10_fails hl hc.symm) cs_X10_131 ⟨rfl, rfl, rfl⟩ (dk_of tX10_boom 45 rfl) rfl rfl rfl rfl rfl rfl ?_
    refine r_if_eq 84 89 K (dk_of tX10_boom 46 rfl) (by decide) hR (fun hR => ?_) (fun hR => ?_)
    · refine r_aload_n 89 0 K (dk_of tX10_boom 49 rfl) rfl rfl ?_
      refine r_getf (C := RX10) (T := TX10) (N := 29) 90 0 13 K (dk_of tX10_boom 50 rfl) w1041 gwX10 rfl rfl (by decide) rfl ?_
      refine r_aload_n 93 0 K (dk_of tX10_boom 51 rfl) rfl rfl ?_
      refine r_getf (C := RX10) (T := TX10) (N := 29) 94 0 10 K (dk_of tX10_boom 52 rfl) w1038 gwX10 rfl rfl (by decide) rfl ?_
      refine r_iload 97 4 K (dk_of tX10_boom 53 rfl) rfl ?_
      refine r_iastR 99 10 K (dk_of tX10_boom 54 rfl) rfl sM_10 hR (fun hR => ?_)
      refine r_nmS (fun μ29 : St => wM γ am μ29 ++ (r)) hR (fun μ29 hR => ?_)
      refine r_aload_n 100 0 K (dk_of tX10_boom 55 rfl) rfl rfl ?_
      refine r_iconst 101 (0 : Int32) K (dk_of tX10_boom 56 rfl) (by decide) ?_
      refine r_iload_n 102 1 K (dk_of tX10_boom 57 rfl) rfl rfl ?_
      refine r_iload_n 103 3 K (dk_of tX10_boom 58 rfl) rfl rfl ?_
      refine r_iconst 104 (0 : Int32) K (dk_of tX10_boom 59 rfl) (by decide) ?_
      obtain ⟨x30, μ31, hc, hR⟩ := o2 hR
      refine r_cVi 105 0 [.int (0 : Int32), .int y22, .int y23, .int (0 : Int32)] [] x30 (wM γ am μ31 ++ (r)) K (ct_X10_mean hl hc.symm) cs_X10_145 ⟨rfl, rfl, rfl⟩ (dk_of tX10_boom 60 rfl) rfl rfl rfl rfl rfl rfl ?_
      exact r_iret 108 K hQ (dk_of tX10_boom 61 rfl) (Nat.zero_le _) (Nat.zero_le _) (lfi (fun u9 : St => wM γ am u9 ++ (r)) hR)
    · refine r_iconst 87 (0 : Int32) K (dk_of tX10_boom 47 rfl) (by decide) ?_
      exact r_iret 88 K hQ (dk_of tX10_boom 48 rfl) (Nat.zero_le _) (Nat.zero_le _) (lfi (fun u9 : St => wM γ am u9 ++ (r)) hR)
  have b79 : ∀ (y18 : Int32) (y19 : Int32) (y20 : Int32) (μ21 : St), some (x0, μ0) = sp_X10_boom_79  y18 y19 y20 μ21 → V l γ X M (wM γ am μ21 ++ (r)) [some (.ref (am 0)), some (.int y18), none, some (.int y19), some (.int y20)] 0 0 79 [.ref (am 0)] := by
    intro  y18 y19 y20 μ21 hR
    unfold sp_X10_boom_79 at hR
    refine r_iconst 79 (0 : Int32) K (dk_of tX10_boom 43 rfl) (by decide) ?_
    exact b80 y18 y19 y20 (0 : Int32) μ21 hR
  have b39 : ∀ (y9 : Int32) (y10 : Int32) (y11 : Int32) (y12 : Int32) (μ13 : St), some (x0, μ0) = sp_X10_boom_39  y9 y10 y11 y12 μ13 → V l γ X M (wM γ am μ13 ++ (r)) [some (.ref (am 0)), some (.int y9), some (.int y10), some (.int y11), none] 0 0 39 [.int y12, .ref (am 0)] := by
    intro  y9 y10 y11 y12 μ13 hR
    unfold sp_X10_boom_39 at hR
    refine r_iconst 39 (2 : Int32) K (dk_of tX10_boom 22 rfl) (by decide) ?_
    obtain ⟨x14, μ15, hc, hR⟩ := o2 hR
    refine r_cVi 40 0 [.int y12, .int (2 : Int32)] [] x14 (wM γ am μ15 ++ (r)) K (ct_X10_fails hl hc.symm) cs_X10_131 ⟨rfl, rfl, rfl⟩ (dk_of tX10_boom 23 rfl) rfl rfl rfl rfl rfl rfl ?_
    refine r_if_eq 43 48 K (dk_of tX10_boom 24 rfl) (by decide) hR (fun hR => ?_) (fun hR => ?_)
    · refine r_iload_n 48 1 K (dk_of tX10_boom 27 rfl) rfl rfl ?_
      refine r_iload_n 49 2 K (dk_of tX10_boom 28 rfl) rfl rfl ?_
      obtain ⟨x16, hc, hR⟩ := o1 hR
      refine r_cSi 50 [.int y9, .int y10] [] x16 (wM γ am μ15 ++ (r)) K (ct_X10_borderOf hl hc.symm) cs_X10_100 ⟨rfl, rfl, rfl⟩ (dk_of tX10_boom 29 rfl) rfl rfl rfl rfl ?_
      refine r_istore 53 4 [some (.ref (am 0)), some (.int y9), some (.int y10), some (.int y11), some (.int x16)] K (dk_of tX10_boom 30 rfl) rfl rfl (by decide) ?_
      refine r_aload_n 55 0 K (dk_of tX10_boom 31 rfl) rfl rfl ?_
      refine r_aload_n 56 0 K (dk_of tX10_boom 32 rfl) rfl rfl ?_
      refine r_iload 57 4 K (dk_of tX10_boom 33 rfl) rfl ?_
      obtain ⟨x17, hc, hR⟩ := o1 hR
      refine r_cVi 59 0 [.int x16] [.ref (am 0)] x17 (wM γ am μ15 ++ (r)) K (ct_X10_boomOn hl hc.symm) cs_X10_103 ⟨rfl, rfl, rfl⟩ (dk_of tX10_boom 34 rfl) rfl rfl rfl rfl rfl rfl ?_
      refine r_iconst 62 (-1) K (dk_of tX10_boom 35 rfl) (by decide) ?_
      refine r_ic_ne 63 79 K (dk_of tX10_boom 36 rfl) (by decide) hR (fun hR => ?_) (fun hR => ?_)
      · refine r_aload_n 66 0 K (dk_of tX10_boom 37 rfl) rfl rfl ?_
        refine r_getf (C := RX10) (T := TX10) (N := 29) 67 0 10 K (dk_of tX10_boom 38 rfl) w1038 gwX10 rfl rfl (by decide) rfl ?_
        refine r_bipush 70 (20 : Int32) K (dk_of tX10_boom 39 rfl) (by decide) ?_
        refine r_ic_ge 72 79 K (dk_of tX10_boom 40 rfl) (by decide) hR (fun hR => ?_) (fun hR => ?_)
        · exact r_msk [true, true, false, true, true] [some (.ref (am 0)), some (.int y9), none, some (.int y11), some (.int x16)] rfl (b79 y9 y11 x16 μ15 hR)
        · refine r_iconst 75 (1 : Int32) K (dk_of tX10_boom 41 rfl) (by decide) ?_
          refine r_goto 76 80 K (dk_of tX10_boom 42 rfl) (by decide) ?_
          exact r_msk [true, true, false, true, true] [some (.ref (am 0)), some (.int y9), none, some (.int y11), some (.int x16)] rfl (b80 y9 y11 x16 (1 : Int32) μ15 hR)
      · exact r_msk [true, true, false, true, true] [some (.ref (am 0)), some (.int y9), none, some (.int y11), some (.int x16)] rfl (b79 y9 y11 x16 μ15 hR)
    · refine r_iconst 46 (0 : Int32) K (dk_of tX10_boom 25 rfl) (by decide) ?_
      exact r_iret 47 K hQ (dk_of tX10_boom 26 rfl) (Nat.zero_le _) (Nat.zero_le _) (lfi (fun u9 : St => wM γ am u9 ++ (r)) hR)
  have b38 : ∀ (y5 : Int32) (y6 : Int32) (y7 : Int32) (μ8 : St), some (x0, μ0) = sp_X10_boom_38  y5 y6 y7 μ8 → V l γ X M (wM γ am μ8 ++ (r)) [some (.ref (am 0)), some (.int y5), some (.int y6), some (.int y7), none] 0 0 38 [.ref (am 0)] := by
    intro  y5 y6 y7 μ8 hR
    unfold sp_X10_boom_38 at hR
    refine r_iconst 38 (0 : Int32) K (dk_of tX10_boom 21 rfl) (by decide) ?_
    exact b39 y5 y6 y7 (0 : Int32) μ8 hR
  refine r_aload_n 0 0 K (dk_of tX10_boom 0 rfl) rfl rfl ?_
  refine r_iload_n 1 1 K (dk_of tX10_boom 1 rfl) rfl rfl ?_
  obtain ⟨x1, hc, hR⟩ := o1 hR
  refine r_cSi 2 [.int p1] [.ref (am 0)] x1 (wM γ am μ ++ (r)) K (ct_X10_isCell hl hc.symm) cs_X10_76 ⟨rfl, rfl, rfl⟩ (dk_of tX10_boom 2 rfl) rfl rfl rfl rfl ?_
  refine r_iconst 5 (1 : Int32) K (dk_of tX10_boom 3 rfl) (by decide) ?_
  obtain ⟨x2, μ3, hc, hR⟩ := o2 hR
  refine r_cVi 6 0 [.int x1, .int (1 : Int32)] [] x2 (wM γ am μ3 ++ (r)) K (ct_X10_fails hl hc.symm) cs_X10_131 ⟨rfl, rfl, rfl⟩ (dk_of tX10_boom 4 rfl) rfl rfl rfl rfl rfl rfl ?_
  refine r_if_eq 9 14 K (dk_of tX10_boom 5 rfl) (by decide) hR (fun hR => ?_) (fun hR => ?_)
  · refine r_aload_n 14 0 K (dk_of tX10_boom 8 rfl) rfl rfl ?_
    refine r_iload_n 15 2 K (dk_of tX10_boom 9 rfl) rfl rfl ?_
    refine r_iconst 16 (0 : Int32) K (dk_of tX10_boom 10 rfl) (by decide) ?_
    refine r_iconst 17 (3 : Int32) K (dk_of tX10_boom 11 rfl) (by decide) ?_
    obtain ⟨x4, hc, hR⟩ := o1 hR
    refine r_cSi 18 [.int p2, .int (0 : Int32), .int (3 : Int32)] [.ref (am 0)] x4 (wM γ am μ3 ++ (r)) K (ct_X10_in hl hc.symm) cs_X10_66 ⟨rfl, rfl, rfl⟩ (dk_of tX10_boom 12 rfl) rfl rfl rfl rfl ?_
    refine r_if_eq 21 38 K (dk_of tX10_boom 13 rfl) (by decide) hR (fun hR => ?_) (fun hR => ?_)
    · exact b38 p1 p2 p3 μ3 hR
    · refine r_iload_n 24 3 K (dk_of tX10_boom 14 rfl) rfl rfl ?_
      refine r_iconst 25 (1 : Int32) K (dk_of tX10_boom 15 rfl) (by decide) ?_
      refine r_bipush 26 (9 : Int32) K (dk_of tX10_boom 16 rfl) (by decide) ?_
      obtain ⟨x32, hc, hR⟩ := o1 hR
      refine r_cSi 28 [.int p3, .int (1 : Int32), .int (9 : Int32)] [.ref (am 0)] x32 (wM γ am μ3 ++ (r)) K (ct_X10_in hl hc.symm) cs_X10_66 ⟨rfl, rfl, rfl⟩ (dk_of tX10_boom 17 rfl) rfl rfl rfl rfl ?_
      refine r_if_eq 31 38 K (dk_of tX10_boom 18 rfl) (by decide) hR (fun hR => ?_) (fun hR => ?_)
      · exact b38 p1 p2 p3 μ3 hR
      · refine r_iconst 34 (1 : Int32) K (dk_of tX10_boom 19 rfl) (by decide) ?_
        refine r_goto 35 39 K (dk_of tX10_boom 20 rfl) (by decide) ?_
        exact b39 p1 p2 p3 (1 : Int32) μ3 hR
  · refine r_iconst 12 (0 : Int32) K (dk_of tX10_boom 6 rfl) (by decide) ?_
    exact r_iret 13 K hQ (dk_of tX10_boom 7 rfl) (Nat.zero_le _) (Nat.zero_le _) (lfi (fun u9 : St => wM γ am u9 ++ (r)) hR)

def sp_X10_skimmer_75  (y20 : Int32) (y21 : Int32) (y22 : Int32) (y23 : Int32) (μ24 : St) : Option (Int32 × St) := b2 (sp_X10_fails y23 (3 : Int32) μ24) (fun (x25 : Int32) (μ26 : St) => if x25 = 0 then (b2 (sp_X10_mean (1 : Int32) y20 y21 y22 μ26) (fun (x27 : Int32) (μ28 : St) => some (x27, μ28))) else (some ((0 : Int32), μ26)))
def sp_X10_skimmer_74  (y16 : Int32) (y17 : Int32) (y18 : Int32) (μ19 : St) : Option (Int32 × St) := sp_X10_skimmer_75 y16 y17 y18 (0 : Int32) μ19
def sp_X10_skimmer_42  (y9 : Int32) (y10 : Int32) (y11 : Int32) (y12 : Int32) (μ13 : St) : Option (Int32 × St) := b2 (sp_X10_fails y12 (2 : Int32) μ13) (fun (x14 : Int32) (μ15 : St) => if x14 = 0 then (if y9 < 0 ∨ 24 ≤ y9.toNatClampNeg then none else (if (μ15 3 y9.toNatClampNeg) = 0 then (if (20 : Int32) ≤ (μ15 0 10) then (sp_X10_skimmer_74 y9 y10 y11 μ15) else (sp_X10_skimmer_75 y9 y10 y11 (1 : Int32) μ15)) else (sp_X10_skimmer_74 y9 y10 y11 μ15))) else (some ((0 : Int32), μ15)))
def sp_X10_skimmer_41  (y5 : Int32) (y6 : Int32) (y7 : Int32) (μ8 : St) : Option (Int32 × St) := sp_X10_skimmer_42 y5 y6 y7 (0 : Int32) μ8
def sp_X10_skimmer (p1 : Int32) (p2 : Int32) (p3 : Int32) (μ : St) : Option (Int32 × St) := b1 (sp_X10_isCell p1) (fun (x1 : Int32) => b2 (sp_X10_fails x1 (1 : Int32) μ) (fun (x2 : Int32) (μ3 : St) => if x2 = 0 then (b1 (sp_X10_in p2 (1 : Int32) (500 : Int32)) (fun (x4 : Int32) => if x4 = 0 then (sp_X10_skimmer_41 p1 p2 p3 μ3) else (b1 (sp_X10_in p3 (1 : Int32) (5000 : Int32)) (fun (x29 : Int32) => if x29 = 0 then (sp_X10_skimmer_41 p1 p2 p3 μ3) else (sp_X10_skimmer_42 p1 p2 p3 (1 : Int32) μ3))))) else (some ((0 : Int32), μ3))))
set_option maxHeartbeats 4000000 in
set_option maxRecDepth 100000 in
theorem ct_X10_skimmer {l : Launch} (hl : l.stackTraces = false) {γ : Gd} {am : Nat → Nat} {μ : St} {r : va_W} {p1 : Int32} {p2 : Int32} {p3 : Int32} {x0 : Int32} {μ0 : St} (hR : some (x0, μ0) = sp_X10_skimmer p1 p2 p3 μ) : Ct l γ yX10_skimmer (Cond.code yX10_skimmer cX10_skimmer 4 (some .int)) ({ frames := 2, cells := 0, slots := 0, locals := 42 } : Room) [.ref (am 0), .int p1, .int p2, .int p3] (wM γ am μ ++ (r)) (Pr (some (.int x0)) (wM γ am μ0 ++ (r))) 0 0 := by
  refine Ct_of hl (by decide +kernel) rfl (Nat.le_of_ble_eq_true rfl) (L := [some (.ref (am 0)), some (.int p1), some (.int p2), some (.int p3)]) rfl ?_
  intro X Q K hQ
  generalize ((wM γ am μ ++ (r), Q) : MX) = M at K hQ ⊢
  unfold sp_X10_skimmer at hR
  have b75 : ∀ (y20 : Int32) (y21 : Int32) (y22 : Int32) (y23 : Int32) (μ24 : St), some (x0, μ0) = sp_X10_skimmer_75  y20 y21 y22 y23 μ24 → V l γ X M (wM γ am μ24 ++ (r)) [some (.ref (am 0)), some (.int y20), some (.int y21), some (.int y22)] 0 0 75 [.int y23, .ref (am 0)] := by
    intro  y20 y21 y22 y23 μ24 hR
    unfold sp_X10_skimmer_75 at hR
    refine r_iconst 75 (3 : Int32) K (dk_of tX10_skimmer 40 rfl) (by decide) ?_
    obtain ⟨x25, μ26, hc, hR⟩ := o2 hR
    refine r_cVi 76 0 [.int y23, .int (3 : Int32)] [] x25 (wM γ am μ26 ++ (r)) K (ct_X10_fails hl hc.symm) cs_X10_131 ⟨rfl, rfl, rfl⟩ (dk_of tX10_skimmer 41 rfl) rfl rfl rfl rfl rfl rfl ?_
    refine r_if_eq 79 84 K (dk_of tX10_skimmer 42 rfl) (by decide) hR (fun hR => ?_) (fun hR => ?_)
    · refine r_aload_n 84 0 K (dk_of tX10_skimmer 45 rfl) rfl rfl ?_
      refine r_iconst 85 (1 : Int32) K (dk_of tX10_skimmer 46 rfl) (by decide) ?_
      refine r_iload_n 86 1 K (dk_of tX10_skimmer 47 rfl) rfl rfl ?_
      refine r_iload_n 87 2 K (dk_of tX10_skimmer 48 rfl) rfl rfl ?_
      refine r_iload_n 88 3 K (dk_of tX10_skimmer 49 rfl) rfl rfl ?_
      obtain ⟨x27, μ28, hc, hR⟩ := o2 hR
      refine r_cVi 89 0 [.int (1 : Int32), .int y20, .int y21, .int y22] [] x27 (wM γ am μ28 ++ (r)) K (ct_X10_mean hl hc.symm) cs_X10_145 ⟨rfl, rfl, rfl⟩ (dk_of tX10_skimmer 50 rfl) rfl rfl rfl rfl rfl rfl ?_
      exact r_iret 92 K hQ (dk_of tX10_skimmer 51 rfl) (Nat.zero_le _) (Nat.zero_le _) (lfi (fun u9 : St => wM γ am u9 ++ (r)) hR)
    · refine r_iconst 82 (0 : Int32) K (dk_of tX10_skimmer 43 rfl) (by decide) ?_
      exact r_iret 83 K hQ (dk_of tX10_skimmer 44 rfl) (Nat.zero_le _) (Nat.zero_le _) (lfi (fun u9 : St => wM γ am u9 ++ (r)) hR)
  have b74 : ∀ (y16 : Int32) (y17 : Int32) (y18 : Int32) (μ19 : St), some (x0, μ0) = sp_X10_skimmer_74  y16 y17 y18 μ19 → V l γ X M (wM γ am μ19 ++ (r)) [some (.ref (am 0)), some (.int y16), some (.int y17), some (.int y18)] 0 0 74 [.ref (am 0)] := by
    intro  y16 y17 y18 μ19 hR
    unfold sp_X10_skimmer_74 at hR
    refine r_iconst 74 (0 : Int32) K (dk_of tX10_skimmer 39 rfl) (by decide) ?_
    exact b75 y16 y17 y18 (0 : Int32) μ19 hR
  have b42 : ∀ (y9 : Int32) (y10 : Int32) (y11 : Int32) (y12 : Int32) (μ13 : St), some (x0, μ0) = sp_X10_skimmer_42  y9 y10 y11 y12 μ13 → V l γ X M (wM γ am μ13 ++ (r)) [some (.ref (am 0)), some (.int y9), some (.int y10), some (.int y11)] 0 0 42 [.int y12, .ref (am 0)] := by
    intro  y9 y10 y11 y12 μ13 hR
    unfold sp_X10_skimmer_42 at hR
    refine r_iconst 42 (2 : Int32) K (dk_of tX10_skimmer 22 rfl) (by decide) ?_
    obtain ⟨x14, μ15, hc, hR⟩ := o2 hR
    refine r_cVi 43 0 [.int y12, .int (2 : Int32)] [] x14 (wM γ am μ15 ++ (r)) K (ct_X10_fails hl hc.symm) cs_X10_131 ⟨rfl, rfl, rfl⟩ (dk_of tX10_skimmer 23 rfl) rfl rfl rfl rfl rfl rfl ?_
    refine r_if_eq 46 51 K (dk_of tX10_skimmer 24 rfl) (by decide) hR (fun hR => ?_) (fun hR => ?_)
    · refine r_aload_n 51 0 K (dk_of tX10_skimmer 27 rfl) rfl rfl ?_
      refine r_aload_n 52 0 K (dk_of tX10_skimmer 28 rfl) rfl rfl ?_
      refine r_getf (C := RX10) (T := TX10) (N := 29) 53 0 2 K (dk_of tX10_skimmer 29 rfl) w1030 gwX10 rfl rfl (by decide) rfl ?_
      refine r_iload_n 56 1 K (dk_of tX10_skimmer 30 rfl) rfl rfl ?_
      refine r_ialdR 57 3 K (dk_of tX10_skimmer 31 rfl) rfl hR (fun hR => ?_)
      refine r_if_ne 58 74 K (dk_of tX10_skimmer 32 rfl) (by decide) hR (fun hR => ?_) (fun hR => ?_)
      · refine r_aload_n 61 0 K (dk_of tX10_skimmer 33 rfl) rfl rfl ?_
        refine r_getf (C := RX10) (T := TX10) (N := 29) 62 0 10 K (dk_of tX10_skimmer 34 rfl) w1038 gwX10 rfl rfl (by decide) rfl ?_
        refine r_bipush 65 (20 : Int32) K (dk_of tX10_skimmer 35 rfl) (by decide) ?_
        refine r_ic_ge 67 74 K (dk_of tX10_skimmer 36 rfl) (by decide) hR (fun hR => ?_) (fun hR => ?_)
        · exact b74 y9 y10 y11 μ15 hR
        · refine r_iconst 70 (1 : Int32) K (dk_of tX10_skimmer 37 rfl) (by decide) ?_
          refine r_goto 71 75 K (dk_of tX10_skimmer 38 rfl) (by decide) ?_
          exact b75 y9 y10 y11 (1 : Int32) μ15 hR
      · exact b74 y9 y10 y11 μ15 hR
    · refine r_iconst 49 (0 : Int32) K (dk_of tX10_skimmer 25 rfl) (by decide) ?_
      exact r_iret 50 K hQ (dk_of tX10_skimmer 26 rfl) (Nat.zero_le _) (Nat.zero_le _) (lfi (fun u9 : St => wM γ am u9 ++ (r)) hR)
  have b41 : ∀ (y5 : Int32) (y6 : Int32) (y7 : Int32) (μ8 : St), some (x0, μ0) = sp_X10_skimmer_41  y5 y6 y7 μ8 → V l γ X M (wM γ am μ8 ++ (r)) [some (.ref (am 0)), some (.int y5), some (.int y6), some (.int y7)] 0 0 41 [.ref (am 0)] := by
    intro  y5 y6 y7 μ8 hR
    unfold sp_X10_skimmer_41 at hR
    refine r_iconst 41 (0 : Int32) K (dk_of tX10_skimmer 21 rfl) (by decide) ?_
    exact b42 y5 y6 y7 (0 : Int32) μ8 hR
  refine r_aload_n 0 0 K (dk_of tX10_skimmer 0 rfl) rfl rfl ?_
  refine r_iload_n 1 1 K (dk_of tX10_skimmer 1 rfl) rfl rfl ?_
  obtain ⟨x1, hc, hR⟩ := o1 hR
  refine r_cSi 2 [.int p1] [.ref (am 0)] x1 (wM γ am μ ++ (r)) K (ct_X10_isCell hl hc.symm) cs_X10_76 ⟨rfl, rfl, rfl⟩ (dk_of tX10_skimmer 2 rfl) rfl rfl rfl rfl ?_
  refine r_iconst 5 (1 : Int32) K (dk_of tX10_skimmer 3 rfl) (by decide) ?_
  obtain ⟨x2, μ3, hc, hR⟩ := o2 hR
  refine r_cVi 6 0 [.int x1, .int (1 : Int32)] [] x2 (wM γ am μ3 ++ (r)) K (ct_X10_fails hl hc.symm) cs_X10_131 ⟨rfl, rfl, rfl⟩ (dk_of tX10_skimmer 4 rfl) rfl rfl rfl rfl rfl rfl ?_
  refine r_if_eq 9 14 K (dk_of tX10_skimmer 5 rfl) (by decide) hR (fun hR => ?_) (fun hR => ?_)
  · refine r_aload_n 14 0 K (dk_of tX10_skimmer 8 rfl) rfl rfl ?_
    refine r_iload_n 15 2 K (dk_of tX10_skimmer 9 rfl) rfl rfl ?_
    refine r_iconst 16 (1 : Int32) K (dk_of tX10_skimmer 10 rfl) (by decide) ?_
    refine r_sipush 17 (500 : Int32) K (dk_of tX10_skimmer 11 rfl) (by decide) ?_
    obtain ⟨x4, hc, hR⟩ := o1 hR
    refine r_cSi 20 [.int p2, .int (1 : Int32), .int (500 : Int32)] [.ref (am 0)] x4 (wM γ am μ3 ++ (r)) K (ct_X10_in hl hc.symm) cs_X10_66 ⟨rfl, rfl, rfl⟩ (dk_of tX10_skimmer 12 rfl) rfl rfl rfl rfl ?_
    refine r_if_eq 23 41 K (dk_of tX10_skimmer 13 rfl) (by decide) hR (fun hR => ?_) (fun hR => ?_)
    · exact b41 p1 p2 p3 μ3 hR
    · refine r_iload_n 26 3 K (dk_of tX10_skimmer 14 rfl) rfl rfl ?_
      refine r_iconst 27 (1 : Int32) K (dk_of tX10_skimmer 15 rfl) (by decide) ?_
      refine r_sipush 28 (5000 : Int32) K (dk_of tX10_skimmer 16 rfl) (by decide) ?_
      obtain ⟨x29, hc, hR⟩ := o1 hR
      refine r_cSi 31 [.int p3, .int (1 : Int32), .int (5000 : Int32)] [.ref (am 0)] x29 (wM γ am μ3 ++ (r)) K (ct_X10_in hl hc.symm) cs_X10_66 ⟨rfl, rfl, rfl⟩ (dk_of tX10_skimmer 17 rfl) rfl rfl rfl rfl ?_
      refine r_if_eq 34 41 K (dk_of tX10_skimmer 18 rfl) (by decide) hR (fun hR => ?_) (fun hR => ?_)
      · exact b41 p1 p2 p3 μ3 hR
      · refine r_iconst 37 (1 : Int32) K (dk_of tX10_skimmer 19 rfl) (by decide) ?_
        refine r_goto 38 42 K (dk_of tX10_skimmer 20 rfl) (by decide) ?_
        exact b42 p1 p2 p3 (1 : Int32) μ3 hR
  · refine r_iconst 12 (0 : Int32) K (dk_of tX10_skimmer 6 rfl) (by decide) ?_
    exact r_iret 13 K hQ (dk_of tX10_skimmer 7 rfl) (Nat.zero_le _) (Nat.zero_le _) (lfi (fun u9 : St => wM γ am u9 ++ (r)) hR)

def sp_X10_team_32  (y4 : Int32) (y5 : Int32) (y6 : Int32) (μ7 : St) : Option (Int32 × St) := b2 (sp_X10_fails y6 (2 : Int32) μ7) (fun (x8 : Int32) (μ9 : St) => if x8 = 0 then (if (μ9 0 10) < 0 ∨ 20 ≤ (μ9 0 10).toNatClampNeg then none else (sl (stU μ9 13 (μ9 0 10).toNatClampNeg (vp_nar .boolean y5)) (fun μ10 : St => b2 (sp_X10_mean (2 : Int32) (-1 : Int32) y4 (0 : Int32) μ10) (fun (x11 : Int32) (μ12 : St) => some (x11, μ12))))) else (some ((0 : Int32), μ9)))
def sp_X10_team (p1 : Int32) (p2 : Int32) (μ : St) : Option (Int32 × St) := b1 (sp_X10_in p1 (1 : Int32) (50 : Int32)) (fun (x1 : Int32) => b2 (sp_X10_fails x1 (1 : Int32) μ) (fun (x2 : Int32) (μ3 : St) => if x2 = 0 then (if (20 : Int32) ≤ (μ3 0 10) then (sp_X10_team_32 p1 p2 (0 : Int32) μ3) else (sp_X10_team_32 p1 p2 (1 : Int32) μ3)) else (some ((0 : Int32), μ3))))
set_option maxHeartbeats 4000000 in
set_option maxRecDepth 100000 in
theorem ct_X10_team {l : Launch} (hl : l.stackTraces = false) {γ : Gd} {am : Nat → Nat} {μ : St} {r : va_W} {p1 : Int32} {p2 : Int32} {x0 : Int32} {μ0 : St} (hR : some (x0, μ0) = sp_X10_team p1 p2 μ) : Ct l γ yX10_team (Cond.code yX10_team cX10_team 3 (some .int)) ({ frames := 1, cells := 0, slots := 0, locals := 24 } : Room) [.ref (am 0), .int p1, .int p2] (wM γ am μ ++ (r)) (Pr (some (.int x0)) (wM γ am μ0 ++ (r))) 0 0 := by
  refine Ct_of hl (by decide +kernel) rfl (Nat.le_of_ble_eq_true rfl) (L := [some (.ref (am 0)), some (.int p1), some (.int p2)]) rfl ?_
  intro X Q K hQ
  generalize ((wM γ am μ ++ (r), Q) : MX) = M at K hQ ⊢
  unfold sp_X10_team at hR
  have b32 : ∀ (y4 : Int32) (y5 : Int32) (y6 : Int32) (μ7 : St), some (x0, μ0) = sp_X10_team_32  y4 y5 y6 μ7 → V l γ X M (wM γ am μ7 ++ (r)) [some (.ref (am 0)), some (.int y4), some (.int y5)] 0 0 32 [.int y6, .ref (am 0)] := by
    intro  y4 y5 y6 μ7 hR
    unfold sp_X10_team_32 at hR
    refine r_iconst 32 (2 : Int32) K (dk_of tX10_team 18 rfl) (by decide) ?_
    obtain ⟨x8, μ9, hc, hR⟩ := o2 hR
    refine r_cVi 33 0 [.int y6, .int (2 : Int32)] [] x8 (wM γ am μ9 ++ (r)) K (ct_X10_fails hl hc.symm) cs_X10_131 ⟨rfl, rfl, rfl⟩ (dk_of tX10_team 19 rfl) rfl rfl rfl rfl rfl rfl ?_
    refine r_if_eq 36 41 K (dk_of tX10_team 20 rfl) (by decide) hR (fun hR => ?_) (fun hR => ?_)
    · refine r_aload_n 41 0 K (dk_of tX10_team 23 rfl) rfl rfl ?_
      refine r_getf (C := RX10) (T := TX10) (N := 29) 42 0 16 K (dk_of tX10_team 24 rfl) w1044 gwX10 rfl rfl (by decide) rfl ?_
      refine r_aload_n 45 0 K (dk_of tX10_team 25 rfl) rfl rfl ?_
      refine r_getf (C := RX10) (T := TX10) (N := 29) 46 0 10 K (dk_of tX10_team 26 rfl) w1038 gwX10 rfl rfl (by decide) rfl ?_
      refine r_iload_n 49 2 K (dk_of tX10_team 27 rfl) rfl rfl ?_
      refine r_zastR 50 13 K (dk_of tX10_team 28 rfl) rfl sM_13 hR (fun hR => ?_)
      refine r_nmS (fun μ10 : St => wM γ am μ10 ++ (r)) hR (fun μ10 hR => ?_)
      refine r_aload_n 51 0 K (dk_of tX10_team 29 rfl) rfl rfl ?_
      refine r_iconst 52 (2 : Int32) K (dk_of tX10_team 30 rfl) (by decide) ?_
      refine r_iconst 53 (-1) K (dk_of tX10_team 31 rfl) (by decide) ?_
      refine r_iload_n 54 1 K (dk_of tX10_team 32 rfl) rfl rfl ?_
      refine r_iconst 55 (0 : Int32) K (dk_of tX10_team 33 rfl) (by decide) ?_
      obtain ⟨x11, μ12, hc, hR⟩ := o2 hR
      refine r_cVi 56 0 [.int (2 : Int32), .int (-1 : Int32), .int y4, .int (0 : Int32)] [] x11 (wM γ am μ12 ++ (r)) K (ct_X10_mean hl hc.symm) cs_X10_145 ⟨rfl, rfl, rfl⟩ (dk_of tX10_team 34 rfl) rfl rfl rfl rfl rfl rfl ?_
      exact r_iret 59 K hQ (dk_of tX10_team 35 rfl) (Nat.zero_le _) (Nat.zero_le _) (lfi (fun u9 : St => wM γ am u9 ++ (r)) hR)
    · refine r_iconst 39 (0 : Int32) K (dk_of tX10_team 21 rfl) (by decide) ?_
      exact r_iret 40 K hQ (dk_of tX10_team 22 rfl) (Nat.zero_le _) (Nat.zero_le _) (lfi (fun u9 : St => wM γ am u9 ++ (r)) hR)
  refine r_aload_n 0 0 K (dk_of tX10_team 0 rfl) rfl rfl ?_
  refine r_iload_n 1 1 K (dk_of tX10_team 1 rfl) rfl rfl ?_
  refine r_iconst 2 (1 : Int32) K (dk_of tX10_team 2 rfl) (by decide) ?_
  refine r_bipush 3 (50 : Int32) K (dk_of tX10_team 3 rfl) (by decide) ?_
  obtain ⟨x1, hc, hR⟩ := o1 hR
  refine r_cSi 5 [.int p1, .int (1 : Int32), .int (50 : Int32)] [.ref (am 0)] x1 (wM γ am μ ++ (r)) K (ct_X10_in hl hc.symm) cs_X10_66 ⟨rfl, rfl, rfl⟩ (dk_of tX10_team 4 rfl) rfl rfl rfl rfl ?_
  refine r_iconst 8 (1 : Int32) K (dk_of tX10_team 5 rfl) (by decide) ?_
  obtain ⟨x2, μ3, hc, hR⟩ := o2 hR
  refine r_cVi 9 0 [.int x1, .int (1 : Int32)] [] x2 (wM γ am μ3 ++ (r)) K (ct_X10_fails hl hc.symm) cs_X10_131 ⟨rfl, rfl, rfl⟩ (dk_of tX10_team 6 rfl) rfl rfl rfl rfl rfl rfl ?_
  refine r_if_eq 12 17 K (dk_of tX10_team 7 rfl) (by decide) hR (fun hR => ?_) (fun hR => ?_)
  · refine r_aload_n 17 0 K (dk_of tX10_team 10 rfl) rfl rfl ?_
    refine r_aload_n 18 0 K (dk_of tX10_team 11 rfl) rfl rfl ?_
    refine r_getf (C := RX10) (T := TX10) (N := 29) 19 0 10 K (dk_of tX10_team 12 rfl) w1038 gwX10 rfl rfl (by decide) rfl ?_
    refine r_bipush 22 (20 : Int32) K (dk_of tX10_team 13 rfl) (by decide) ?_
    refine r_ic_ge 24 31 K (dk_of tX10_team 14 rfl) (by decide) hR (fun hR => ?_) (fun hR => ?_)
    · refine r_iconst 31 (0 : Int32) K (dk_of tX10_team 17 rfl) (by decide) ?_
      exact b32 p1 p2 (0 : Int32) μ3 hR
    · refine r_iconst 27 (1 : Int32) K (dk_of tX10_team 15 rfl) (by decide) ?_
      refine r_goto 28 32 K (dk_of tX10_team 16 rfl) (by decide) ?_
      exact b32 p1 p2 (1 : Int32) μ3 hR
  · refine r_iconst 15 (0 : Int32) K (dk_of tX10_team 8 rfl) (by decide) ?_
    exact r_iret 16 K hQ (dk_of tX10_team 9 rfl) (Nat.zero_le _) (Nat.zero_le _) (lfi (fun u9 : St => wM γ am u9 ++ (r)) hR)

def sp_X10_isMean (p1 : Int32) (μ : St) : Option (Int32) := b1 (sp_X10_in p1 (0 : Int32) ((μ 0 10) - (1 : Int32))) (fun (x1 : Int32) => if x1 = 0 ∨ x1 = 1 then some x1 else none)
set_option maxHeartbeats 4000000 in
set_option maxRecDepth 100000 in
theorem ct_X10_isMean {l : Launch} (hl : l.stackTraces = false) {γ : Gd} {am : Nat → Nat} {μ : St} {r : va_W} {p1 : Int32} {x0 : Int32} (hR : some x0 = sp_X10_isMean p1 μ) : Ct l γ yX10_isMean (Cond.code yX10_isMean cX10_isMean 2 (some .boolean)) ({ frames := 1, cells := 0, slots := 0, locals := 22 } : Room) [.ref (am 0), .int p1] (wM γ am μ ++ (r)) (Pr (some (.int x0)) (wM γ am μ ++ (r))) 0 0 := by
  refine Ct_of hl (by decide +kernel) rfl (Nat.le_of_ble_eq_true rfl) (L := [some (.ref (am 0)), some (.int p1)]) rfl ?_
  intro X Q K hQ
  generalize ((wM γ am μ ++ (r), Q) : MX) = M at K hQ ⊢
  unfold sp_X10_isMean at hR
  refine r_iload_n 0 1 K (dk_of tX10_isMean 0 rfl) rfl rfl ?_
  refine r_iconst 1 (0 : Int32) K (dk_of tX10_isMean 1 rfl) (by decide) ?_
  refine r_aload_n 2 0 K (dk_of tX10_isMean 2 rfl) rfl rfl ?_
  refine r_getf (C := RX10) (T := TX10) (N := 29) 3 0 10 K (dk_of tX10_isMean 3 rfl) w1038 gwX10 rfl rfl (by decide) rfl ?_
  refine r_iconst 6 (1 : Int32) K (dk_of tX10_isMean 4 rfl) (by decide) ?_
  refine r_isub 7 K (dk_of tX10_isMean 5 rfl) ?_
  obtain ⟨x1, hc, hR⟩ := o1 hR
  refine r_cSi 8 [.int p1, .int (0 : Int32), .int ((μ 0 10) - (1 : Int32))] [] x1 (wM γ am μ ++ (r)) K (ct_X10_in hl hc.symm) cs_X10_66 ⟨rfl, rfl, rfl⟩ (dk_of tX10_isMean 6 rfl) rfl rfl rfl rfl ?_
  exact r_zretR 11 K hQ (dk_of tX10_isMean 7 rfl) (Nat.zero_le _) (Nat.zero_le _) hR (fun hR => lfi0 hR)

def sp_X10_move_55  (y11 : Int32) (y12 : Int32) (y13 : Int32) (μ14 : St) : Option (Int32 × St) := b2 (sp_X10_fails y13 (2 : Int32) μ14) (fun (x15 : Int32) (μ16 : St) => if x15 = 0 then (if y11 < 0 ∨ 20 ≤ y11.toNatClampNeg then none else (sl ((μ16 9 y11.toNatClampNeg)) (fun x17 : Int32 => if y11 < 0 ∨ 20 ≤ y11.toNatClampNeg then none else (sl (stU μ16 9 y11.toNatClampNeg y12) (fun μ18 : St => some (x17, μ18)))))) else (some ((0 : Int32), μ16)))
def sp_X10_move_54  (y19 : Int32) (y20 : Int32) (μ21 : St) : Option (Int32 × St) := sp_X10_move_55 y19 y20 (0 : Int32) μ21
def sp_X10_move_21  (y5 : Int32) (y6 : Int32) (y7 : Int32) (μ8 : St) : Option (Int32 × St) := b2 (sp_X10_fails y7 (1 : Int32) μ8) (fun (x9 : Int32) (μ10 : St) => if x9 = 0 then (if y5 < 0 ∨ 20 ≤ y5.toNatClampNeg then none else (if (μ10 8 y5.toNatClampNeg) = (1 : Int32) then (if y6 < 0 ∨ 24 ≤ y6.toNatClampNeg then none else (if (μ10 3 y6.toNatClampNeg) = 0 then (sp_X10_move_55 y5 y6 (1 : Int32) μ10) else (sp_X10_move_54 y5 y6 μ10))) else (sp_X10_move_54 y5 y6 μ10))) else (some ((0 : Int32), μ10)))
def sp_X10_move_20  (y2 : Int32) (y3 : Int32) (μ4 : St) : Option (Int32 × St) := sp_X10_move_21 y2 y3 (0 : Int32) μ4
def sp_X10_move (p1 : Int32) (p2 : Int32) (μ : St) : Option (Int32 × St) := b1 (sp_X10_isMean p1 μ) (fun (x1 : Int32) => if x1 = 0 then (sp_X10_move_20 p1 p2 μ) else (b1 (sp_X10_isCell p2) (fun (x22 : Int32) => if x22 = 0 then (sp_X10_move_20 p1 p2 μ) else (sp_X10_move_21 p1 p2 (1 : Int32) μ))))
set_option maxHeartbeats 4000000 in
set_option maxRecDepth 100000 in
theorem ct_X10_move {l : Launch} (hl : l.stackTraces = false) {γ : Gd} {am : Nat → Nat} {μ : St} {r : va_W} {p1 : Int32} {p2 : Int32} {x0 : Int32} {μ0 : St} (hR : some (x0, μ0) = sp_X10_move p1 p2 μ) : Ct l γ yX10_move (Cond.code yX10_move cX10_move 4 (some .int)) ({ frames := 2, cells := 0, slots := 0, locals := 43 } : Room) [.ref (am 0), .int p1, .int p2] (wM γ am μ ++ (r)) (Pr (some (.int x0)) (wM γ am μ0 ++ (r))) 0 0 := by
  refine Ct_of hl (by decide +kernel) rfl (Nat.le_of_ble_eq_true rfl) (L := [some (.ref (am 0)), some (.int p1), some (.int p2), none]) rfl ?_
  intro X Q K hQ
  generalize ((wM γ am μ ++ (r), Q) : MX) = M at K hQ ⊢
  unfold sp_X10_move at hR
  have b55 : ∀ (y11 : Int32) (y12 : Int32) (y13 : Int32) (μ14 : St), some (x0, μ0) = sp_X10_move_55  y11 y12 y13 μ14 → V l γ X M (wM γ am μ14 ++ (r)) [some (.ref (am 0)), some (.int y11), some (.int y12), none] 0 0 55 [.int y13, .ref (am 0)] := by
    intro  y11 y12 y13 μ14 hR
    unfold sp_X10_move_55 at hR
    refine r_iconst 55 (2 : Int32) K (dk_of tX10_move 31 rfl) (by decide) ?_
    obtain ⟨x15, μ16, hc, hR⟩ := o2 hR
    refine r_cVi 56 0 [.int y13, .int (2 : Int32)] [] x15 (wM γ am μ16 ++ (r)) K (ct_X10_fails hl hc.symm) cs_X10_131 ⟨rfl, rfl, rfl⟩ (dk_of tX10_move 32 rfl) rfl rfl rfl rfl rfl rfl ?_
    refine r_if_eq 59 64 K (dk_of tX10_move 33 rfl) (by decide) hR (fun hR => ?_) (fun hR => ?_)
    · refine r_aload_n 64 0 K (dk_of tX10_move 36 rfl) rfl rfl ?_
      refine r_getf (C := RX10) (T := TX10) (N := 29) 65 0 12 K (dk_of tX10_move 37 rfl) w1040 gwX10 rfl rfl (by decide) rfl ?_
      refine r_iload_n 68 1 K (dk_of tX10_move 38 rfl) rfl rfl ?_
      refine r_ialdR 69 9 K (dk_of tX10_move 39 rfl) rfl hR (fun hR => ?_)
      refine r_nmI hR (fun x17 hR => ?_)
      refine r_istore_n 70 3 [some (.ref (am 0)), some (.int y11), some (.int y12), some (.int x17)] K (dk_of tX10_move 40 rfl) rfl rfl rfl (by decide) ?_
      refine r_aload_n 71 0 K (dk_of tX10_move 41 rfl) rfl rfl ?_
      refine r_getf (C := RX10) (T := TX10) (N := 29) 72 0 12 K (dk_of tX10_move 42 rfl) w1040 gwX10 rfl rfl (by decide) rfl ?_
      refine r_iload_n 75 1 K (dk_of tX10_move 43 rfl) rfl rfl ?_
      refine r_iload_n 76 2 K (dk_of tX10_move 44 rfl) rfl rfl ?_
      refine r_iastR 77 9 K (dk_of tX10_move 45 rfl) rfl sM_9 hR (fun hR => ?_)
      refine r_nmS (fun μ18 : St => wM γ am μ18 ++ (r)) hR (fun μ18 hR => ?_)
      refine r_iload_n 78 3 K (dk_of tX10_move 46 rfl) rfl rfl ?_
      exact r_iret 79 K hQ (dk_of tX10_move 47 rfl) (Nat.zero_le _) (Nat.zero_le _) (lfi (fun u9 : St => wM γ am u9 ++ (r)) hR)
    · refine r_iconst 62 (0 : Int32) K (dk_of tX10_move 34 rfl) (by decide) ?_
      exact r_iret 63 K hQ (dk_of tX10_move 35 rfl) (Nat.zero_le _) (Nat.zero_le _) (lfi (fun u9 : St => wM γ am u9 ++ (r)) hR)
  have b54 : ∀ (y19 : Int32) (y20 : Int32) (μ21 : St), some (x0, μ0) = sp_X10_move_54  y19 y20 μ21 → V l γ X M (wM γ am μ21 ++ (r)) [some (.ref (am 0)), some (.int y19), some (.int y20), none] 0 0 54 [.ref (am 0)] := by
    intro  y19 y20 μ21 hR
    unfold sp_X10_move_54 at hR
    refine r_iconst 54 (0 : Int32) K (dk_of tX10_move 30 rfl) (by decide) ?_
    exact b55 y19 y20 (0 : Int32) μ21 hR
  have b21 : ∀ (y5 : Int32) (y6 : Int32) (y7 : Int32) (μ8 : St), some (x0, μ0) = sp_X10_move_21  y5 y6 y7 μ8 → V l γ X M (wM γ am μ8 ++ (r)) [some (.ref (am 0)), some (.int y5), some (.int y6), none] 0 0 21 [.int y7, .ref (am 0)] := by
    intro  y5 y6 y7 μ8 hR
    unfold sp_X10_move_21 at hR
    refine r_iconst 21 (1 : Int32) K (dk_of tX10_move 11 rfl) (by decide) ?_
    obtain ⟨x9, μ10, hc, hR⟩ := o2 hR
    refine r_cVi 22 0 [.int y7, .int (1 : Int32)] [] x9 (wM γ am μ10 ++ (r)) K (ct_X10_fails hl hc.symm) cs_X10_131 ⟨rfl, rfl, rfl⟩ (dk_of tX10_move 12 rfl) rfl rfl rfl rfl rfl rfl ?_
    refine r_if_eq 25 30 K (dk_of tX10_move 13 rfl) (by decide) hR (fun hR => ?_) (fun hR => ?_)
    · refine r_aload_n 30 0 K (dk_of tX10_move 16 rfl) rfl rfl ?_
      refine r_aload_n 31 0 K (dk_of tX10_move 17 rfl) rfl rfl ?_
      refine r_getf (C := RX10) (T := TX10) (N := 29) 32 0 11 K (dk_of tX10_move 18 rfl) w1039 gwX10 rfl rfl (by decide) rfl ?_
      refine r_iload_n 35 1 K (dk_of tX10_move 19 rfl) rfl rfl ?_
      refine r_ialdR 36 8 K (dk_of tX10_move 20 rfl) rfl hR (fun hR => ?_)
      refine r_iconst 37 (1 : Int32) K (dk_of tX10_move 21 rfl) (by decide) ?_
      refine r_ic_ne 38 54 K (dk_of tX10_move 22 rfl) (by decide) hR (fun hR => ?_) (fun hR => ?_)
      · refine r_aload_n 41 0 K (dk_of tX10_move 23 rfl) rfl rfl ?_
        refine r_getf (C := RX10) (T := TX10) (N := 29) 42 0 2 K (dk_of tX10_move 24 rfl) w1030 gwX10 rfl rfl (by decide) rfl ?_
        refine r_iload_n 45 2 K (dk_of tX10_move 25 rfl) rfl rfl ?_
        refine r_ialdR 46 3 K (dk_of tX10_move 26 rfl) rfl hR (fun hR => ?_)
        refine r_if_ne 47 54 K (dk_of tX10_move 27 rfl) (by decide) hR (fun hR => ?_) (fun hR => ?_)
        · refine r_iconst 50 (1 : Int32) K (dk_of tX10_move 28 rfl) (by decide) ?_
          refine r_goto 51 55 K (dk_of tX10_move 29 rfl) (by decide) ?_
          exact b55 y5 y6 (1 : Int32) μ10 hR
        · exact b54 y5 y6 μ10 hR
      · exact b54 y5 y6 μ10 hR
    · refine r_iconst 28 (0 : Int32) K (dk_of tX10_move 14 rfl) (by decide) ?_
      exact r_iret 29 K hQ (dk_of tX10_move 15 rfl) (Nat.zero_le _) (Nat.zero_le _) (lfi (fun u9 : St => wM γ am u9 ++ (r)) hR)
  have b20 : ∀ (y2 : Int32) (y3 : Int32) (μ4 : St), some (x0, μ0) = sp_X10_move_20  y2 y3 μ4 → V l γ X M (wM γ am μ4 ++ (r)) [some (.ref (am 0)), some (.int y2), some (.int y3), none] 0 0 20 [.ref (am 0)] := by
    intro  y2 y3 μ4 hR
    unfold sp_X10_move_20 at hR
    refine r_iconst 20 (0 : Int32) K (dk_of tX10_move 10 rfl) (by decide) ?_
    exact b21 y2 y3 (0 : Int32) μ4 hR
  refine r_aload_n 0 0 K (dk_of tX10_move 0 rfl) rfl rfl ?_
  refine r_aload_n 1 0 K (dk_of tX10_move 1 rfl) rfl rfl ?_
  refine r_iload_n 2 1 K (dk_of tX10_move 2 rfl) rfl rfl ?_
  obtain ⟨x1, hc, hR⟩ := o1 hR
  refine r_cVi 3 0 [.int p1] [.ref (am 0)] x1 (wM γ am μ ++ (r)) K (ct_X10_isMean hl hc.symm) cs_X10_149 ⟨rfl, rfl, rfl⟩ (dk_of tX10_move 3 rfl) rfl rfl rfl rfl rfl rfl ?_
  refine r_if_eq 6 20 K (dk_of tX10_move 4 rfl) (by decide) hR (fun hR => ?_) (fun hR => ?_)
  · exact b20 p1 p2 μ hR
  · refine r_iload_n 9 2 K (dk_of tX10_move 5 rfl) rfl rfl ?_
    obtain ⟨x22, hc, hR⟩ := o1 hR
    refine r_cSi 10 [.int p2] [.ref (am 0)] x22 (wM γ am μ ++ (r)) K (ct_X10_isCell hl hc.symm) cs_X10_76 ⟨rfl, rfl, rfl⟩ (dk_of tX10_move 6 rfl) rfl rfl rfl rfl ?_
    refine r_if_eq 13 20 K (dk_of tX10_move 7 rfl) (by decide) hR (fun hR => ?_) (fun hR => ?_)
    · exact b20 p1 p2 μ hR
    · refine r_iconst 16 (1 : Int32) K (dk_of tX10_move 8 rfl) (by decide) ?_
      refine r_goto 17 21 K (dk_of tX10_move 9 rfl) (by decide) ?_
      exact b21 p1 p2 (1 : Int32) μ hR

def sp_X10_carry_31  (y4 : Int32) (y5 : Int32) (μ6 : St) : Option (Int32 × St) := b2 (sp_X10_fails y5 (2 : Int32) μ6) (fun (x7 : Int32) (μ8 : St) => if x7 = 0 then (if ((148 : Int32) + y4) < 0 ∨ 174 ≤ ((148 : Int32) + y4).toNatClampNeg then none else (sl ((μ8 1 ((148 : Int32) + y4).toNatClampNeg)) (fun x9 : Int32 => if ((148 : Int32) + y4) < 0 ∨ 174 ≤ ((148 : Int32) + y4).toNatClampNeg then none else (sl (stU μ8 1 ((148 : Int32) + y4).toNatClampNeg (0 : Int32)) (fun μ10 : St => sl (stU μ10 15 (0 : Int32).toNatClampNeg ((μ10 15 (0 : Int32).toNatClampNeg) + x9)) (fun μ11 : St => some (x9, μ11))))))) else (some ((0 : Int32), μ8)))
def sp_X10_carry (p1 : Int32) (μ : St) : Option (Int32 × St) := b1 (sp_X10_isMean p1 μ) (fun (x1 : Int32) => b2 (sp_X10_fails x1 (1 : Int32) μ) (fun (x2 : Int32) (μ3 : St) => if x2 = 0 then (if p1 < 0 ∨ 20 ≤ p1.toNatClampNeg then none else (if (μ3 8 p1.toNatClampNeg) = (1 : Int32) then (sp_X10_carry_31 p1 (1 : Int32) μ3) else (sp_X10_carry_31 p1 (0 : Int32) μ3))) else (some ((0 : Int32), μ3))))
set_option maxHeartbeats 4000000 in
set_option maxRecDepth 100000 in
theorem ct_X10_carry {l : Launch} (hl : l.stackTraces = false) {γ : Gd} {am : Nat → Nat} {μ : St} {r : va_W} {p1 : Int32} {x0 : Int32} {μ0 : St} (hR : some (x0, μ0) = sp_X10_carry p1 μ) : Ct l γ yX10_carry (Cond.code yX10_carry cX10_carry 3 (some .int)) ({ frames := 2, cells := 0, slots := 0, locals := 43 } : Room) [.ref (am 0), .int p1] (wM γ am μ ++ (r)) (Pr (some (.int x0)) (wM γ am μ0 ++ (r))) 0 0 := by
  refine Ct_of hl (by decide +kernel) rfl (Nat.le_of_ble_eq_true rfl) (L := [some (.ref (am 0)), some (.int p1), none]) rfl ?_
  intro X Q K hQ
  generalize ((wM γ am μ ++ (r), Q) : MX) = M at K hQ ⊢
  unfold sp_X10_carry at hR
  have b31 : ∀ (y4 : Int32) (y5 : Int32) (μ6 : St), some (x0, μ0) = sp_X10_carry_31  y4 y5 μ6 → V l γ X M (wM γ am μ6 ++ (r)) [some (.ref (am 0)), some (.int y4), none] 0 0 31 [.int y5, .ref (am 0)] := by
    intro  y4 y5 μ6 hR
    unfold sp_X10_carry_31 at hR
    refine r_iconst 31 (2 : Int32) K (dk_of tX10_carry 19 rfl) (by decide) ?_
    obtain ⟨x7, μ8, hc, hR⟩ := o2 hR
    refine r_cVi 32 0 [.int y5, .int (2 : Int32)] [] x7 (wM γ am μ8 ++ (r)) K (ct_X10_fails hl hc.symm) cs_X10_131 ⟨rfl, rfl, rfl⟩ (dk_of tX10_carry 20 rfl) rfl rfl rfl rfl rfl rfl ?_
    refine r_if_eq 35 40 K (dk_of tX10_carry 21 rfl) (by decide) hR (fun hR => ?_) (fun hR => ?_)
    · refine r_aload_n 40 0 K (dk_of tX10_carry 24 rfl) rfl rfl ?_
      refine r_getf (C := RX10) (T := TX10) (N := 29) 41 0 0 K (dk_of tX10_carry 25 rfl) w1028 gwX10 rfl rfl (by decide) rfl ?_
      refine r_sipush 44 (148 : Int32) K (dk_of tX10_carry 26 rfl) (by decide) ?_
      refine r_iload_n 47 1 K (dk_of tX10_carry 27 rfl) rfl rfl ?_
      refine r_iadd 48 K (dk_of tX10_carry 28 rfl) ?_
      refine r_ialdR 49 1 K (dk_of tX10_carry 29 rfl) rfl hR (fun hR => ?_)
      refine r_nmI hR (fun x9 hR => ?_)
      refine r_istore_n 50 2 [some (.ref (am 0)), some (.int y4), some (.int x9)] K (dk_of tX10_carry 30 rfl) rfl rfl rfl (by decide) ?_
      refine r_aload_n 51 0 K (dk_of tX10_carry 31 rfl) rfl rfl ?_
      refine r_getf (C := RX10) (T := TX10) (N := 29) 52 0 0 K (dk_of tX10_carry 32 rfl) w1028 gwX10 rfl rfl (by decide) rfl ?_
      refine r_sipush 55 (148 : Int32) K (dk_of tX10_carry 33 rfl) (by decide) ?_
      refine r_iload_n 58 1 K (dk_of tX10_carry 34 rfl) rfl rfl ?_
      refine r_iadd 59 K (dk_of tX10_carry 35 rfl) ?_
      refine r_iconst 60 (0 : Int32) K (dk_of tX10_carry 36 rfl) (by decide) ?_
      refine r_iastR 61 1 K (dk_of tX10_carry 37 rfl) rfl sM_1 hR (fun hR => ?_)
      refine r_nmS (fun μ10 : St => wM γ am μ10 ++ (r)) hR (fun μ10 hR => ?_)
      refine r_aload_n 62 0 K (dk_of tX10_carry 38 rfl) rfl rfl ?_
      refine r_getf (C := RX10) (T := TX10) (N := 29) 63 0 20 K (dk_of tX10_carry 39 rfl) w1048 gwX10 rfl rfl (by decide) rfl ?_
      refine r_iconst 66 (0 : Int32) K (dk_of tX10_carry 40 rfl) (by decide) ?_
      refine r_dup2 67 K (dk_of tX10_carry 41 rfl) rfl rfl ?_
      refine r_iald 68 15 K (dk_of tX10_carry 42 rfl) rfl (vpd (by decide)) ?_
      refine r_iload_n 69 2 K (dk_of tX10_carry 43 rfl) rfl rfl ?_
      refine r_iadd 70 K (dk_of tX10_carry 44 rfl) ?_
      refine r_iast 71 15 K (dk_of tX10_carry 45 rfl) rfl (vpd (by decide)) sM_15 ?_
      refine r_nmS (fun μ11 : St => wM γ am μ11 ++ (r)) hR (fun μ11 hR => ?_)
      refine r_iload_n 72 2 K (dk_of tX10_carry 46 rfl) rfl rfl ?_
      exact r_iret 73 K hQ (dk_of tX10_carry 47 rfl) (Nat.zero_le _) (Nat.zero_le _) (lfi (fun u9 : St => wM γ am u9 ++ (r)) hR)
    · refine r_iconst 38 (0 : Int32) K (dk_of tX10_carry 22 rfl) (by decide) ?_
      exact r_iret 39 K hQ (dk_of tX10_carry 23 rfl) (Nat.zero_le _) (Nat.zero_le _) (lfi (fun u9 : St => wM γ am u9 ++ (r)) hR)
  refine r_aload_n 0 0 K (dk_of tX10_carry 0 rfl) rfl rfl ?_
  refine r_aload_n 1 0 K (dk_of tX10_carry 1 rfl) rfl rfl ?_
  refine r_iload_n 2 1 K (dk_of tX10_carry 2 rfl) rfl rfl ?_
  obtain ⟨x1, hc, hR⟩ := o1 hR
  refine r_cVi 3 0 [.int p1] [.ref (am 0)] x1 (wM γ am μ ++ (r)) K (ct_X10_isMean hl hc.symm) cs_X10_149 ⟨rfl, rfl, rfl⟩ (dk_of tX10_carry 3 rfl) rfl rfl rfl rfl rfl rfl ?_
  refine r_iconst 6 (1 : Int32) K (dk_of tX10_carry 4 rfl) (by decide) ?_
  obtain ⟨x2, μ3, hc, hR⟩ := o2 hR
  refine r_cVi 7 0 [.int x1, .int (1 : Int32)] [] x2 (wM γ am μ3 ++ (r)) K (ct_X10_fails hl hc.symm) cs_X10_131 ⟨rfl, rfl, rfl⟩ (dk_of tX10_carry 5 rfl) rfl rfl rfl rfl rfl rfl ?_
  refine r_if_eq 10 15 K (dk_of tX10_carry 6 rfl) (by decide) hR (fun hR => ?_) (fun hR => ?_)
  · refine r_aload_n 15 0 K (dk_of tX10_carry 9 rfl) rfl rfl ?_
    refine r_aload_n 16 0 K (dk_of tX10_carry 10 rfl) rfl rfl ?_
    refine r_getf (C := RX10) (T := TX10) (N := 29) 17 0 11 K (dk_of tX10_carry 11 rfl) w1039 gwX10 rfl rfl (by decide) rfl ?_
    refine r_iload_n 20 1 K (dk_of tX10_carry 12 rfl) rfl rfl ?_
    refine r_ialdR 21 8 K (dk_of tX10_carry 13 rfl) rfl hR (fun hR => ?_)
    refine r_iconst 22 (1 : Int32) K (dk_of tX10_carry 14 rfl) (by decide) ?_
    refine r_ic_ne 23 30 K (dk_of tX10_carry 15 rfl) (by decide) hR (fun hR => ?_) (fun hR => ?_)
    · refine r_iconst 26 (1 : Int32) K (dk_of tX10_carry 16 rfl) (by decide) ?_
      refine r_goto 27 31 K (dk_of tX10_carry 17 rfl) (by decide) ?_
      exact b31 p1 (1 : Int32) μ3 hR
    · refine r_iconst 30 (0 : Int32) K (dk_of tX10_carry 18 rfl) (by decide) ?_
      exact b31 p1 (0 : Int32) μ3 hR
  · refine r_iconst 13 (0 : Int32) K (dk_of tX10_carry 7 rfl) (by decide) ?_
    exact r_iret 14 K hQ (dk_of tX10_carry 8 rfl) (Nat.zero_le _) (Nat.zero_le _) (lfi (fun u9 : St => wM γ am u9 ++ (r)) hR)

def sp_X10_teach_31  (y4 : Int32) (y5 : Int32) (μ6 : St) : Option (Int32 × St) := b2 (sp_X10_fails y5 (2 : Int32) μ6) (fun (x7 : Int32) (μ8 : St) => if x7 = 0 then (if y4 < 0 ∨ 20 ≤ y4.toNatClampNeg then none else (sl ((μ8 13 y4.toNatClampNeg)) (fun x9 : Int32 => if y4 < 0 ∨ 20 ≤ y4.toNatClampNeg then none else (sl (stU μ8 13 y4.toNatClampNeg (vp_nar .boolean (1 : Int32))) (fun μ10 : St => if x9 = 0 ∨ x9 = 1 then some (x9, μ10) else none))))) else (some ((0 : Int32), μ8)))
def sp_X10_teach (p1 : Int32) (μ : St) : Option (Int32 × St) := b1 (sp_X10_isMean p1 μ) (fun (x1 : Int32) => b2 (sp_X10_fails x1 (1 : Int32) μ) (fun (x2 : Int32) (μ3 : St) => if x2 = 0 then (if p1 < 0 ∨ 20 ≤ p1.toNatClampNeg then none else (if (μ3 8 p1.toNatClampNeg) = (2 : Int32) then (sp_X10_teach_31 p1 (1 : Int32) μ3) else (sp_X10_teach_31 p1 (0 : Int32) μ3))) else (some ((0 : Int32), μ3))))
set_option maxHeartbeats 4000000 in
set_option maxRecDepth 100000 in
theorem ct_X10_teach {l : Launch} (hl : l.stackTraces = false) {γ : Gd} {am : Nat → Nat} {μ : St} {r : va_W} {p1 : Int32} {x0 : Int32} {μ0 : St} (hR : some (x0, μ0) = sp_X10_teach p1 μ) : Ct l γ yX10_teach (Cond.code yX10_teach cX10_teach 3 (some .boolean)) ({ frames := 2, cells := 0, slots := 0, locals := 43 } : Room) [.ref (am 0), .int p1] (wM γ am μ ++ (r)) (Pr (some (.int x0)) (wM γ am μ0 ++ (r))) 0 0 := by
  refine Ct_of hl (by decide +kernel) rfl (Nat.le_of_ble_eq_true rfl) (L := [some (.ref (am 0)), some (.int p1), none]) rfl ?_
  intro X Q K hQ
  generalize ((wM γ am μ ++ (r), Q) : MX) = M at K hQ ⊢
  unfold sp_X10_teach at hR
  have b31 : ∀ (y4 : Int32) (y5 : Int32) (μ6 : St), some (x0, μ0) = sp_X10_teach_31  y4 y5 μ6 → V l γ X M (wM γ am μ6 ++ (r)) [some (.ref (am 0)), some (.int y4), none] 0 0 31 [.int y5, .ref (am 0)] := by
    intro  y4 y5 μ6 hR
    unfold sp_X10_teach_31 at hR
    refine r_iconst 31 (2 : Int32) K (dk_of tX10_teach 19 rfl) (by decide) ?_
    obtain ⟨x7, μ8, hc, hR⟩ := o2 hR
    refine r_cVi 32 0 [.int y5, .int (2 : Int32)] [] x7 (wM γ am μ8 ++ (r)) K (ct_X10_fails hl hc.symm) cs_X10_131 ⟨rfl, rfl, rfl⟩ (dk_of tX10_teach 20 rfl) rfl rfl rfl rfl rfl rfl ?_
    refine r_if_eq 35 40 K (dk_of tX10_teach 21 rfl) (by decide) hR (fun hR => ?_) (fun hR => ?_)
    · refine r_aload_n 40 0 K (dk_of tX10_teach 24 rfl) rfl rfl ?_
      refine r_getf (C := RX10) (T := TX10) (N := 29) 41 0 16 K (dk_of tX10_teach 25 rfl) w1044 gwX10 rfl rfl (by decide) rfl ?_
      refine r_iload_n 44 1 K (dk_of tX10_teach 26 rfl) rfl rfl ?_
      refine r_zaldR 45 13 K (dk_of tX10_teach 27 rfl) rfl hR (fun hR => ?_)
      refine r_nmI hR (fun x9 hR => ?_)
      refine r_istore_n 46 2 [some (.ref (am 0)), some (.int y4), some (.int x9)] K (dk_of tX10_teach 28 rfl) rfl rfl rfl (by decide) ?_
      refine r_aload_n 47 0 K (dk_of tX10_teach 29 rfl) rfl rfl ?_
      refine r_getf (C := RX10) (T := TX10) (N := 29) 48 0 16 K (dk_of tX10_teach 30 rfl) w1044 gwX10 rfl rfl (by decide) rfl ?_
      refine r_iload_n 51 1 K (dk_of tX10_teach 31 rfl) rfl rfl ?_
      refine r_iconst 52 (1 : Int32) K (dk_of tX10_teach 32 rfl) (by decide) ?_
      refine r_zastR 53 13 K (dk_of tX10_teach 33 rfl) rfl sM_13 hR (fun hR => ?_)
      refine r_nmS (fun μ10 : St => wM γ am μ10 ++ (r)) hR (fun μ10 hR => ?_)
      refine r_iload_n 54 2 K (dk_of tX10_teach 34 rfl) rfl rfl ?_
      exact r_zretR 55 K hQ (dk_of tX10_teach 35 rfl) (Nat.zero_le _) (Nat.zero_le _) hR (fun hR => lfi (fun u9 : St => wM γ am u9 ++ (r)) hR)
    · refine r_iconst 38 (0 : Int32) K (dk_of tX10_teach 22 rfl) (by decide) ?_
      exact r_zret 39 K hQ (dk_of tX10_teach 23 rfl) zb0 (Nat.zero_le _) (Nat.zero_le _) (lfi (fun u9 : St => wM γ am u9 ++ (r)) hR)
  refine r_aload_n 0 0 K (dk_of tX10_teach 0 rfl) rfl rfl ?_
  refine r_aload_n 1 0 K (dk_of tX10_teach 1 rfl) rfl rfl ?_
  refine r_iload_n 2 1 K (dk_of tX10_teach 2 rfl) rfl rfl ?_
  obtain ⟨x1, hc, hR⟩ := o1 hR
  refine r_cVi 3 0 [.int p1] [.ref (am 0)] x1 (wM γ am μ ++ (r)) K (ct_X10_isMean hl hc.symm) cs_X10_149 ⟨rfl, rfl, rfl⟩ (dk_of tX10_teach 3 rfl) rfl rfl rfl rfl rfl rfl ?_
  refine r_iconst 6 (1 : Int32) K (dk_of tX10_teach 4 rfl) (by decide) ?_
  obtain ⟨x2, μ3, hc, hR⟩ := o2 hR
  refine r_cVi 7 0 [.int x1, .int (1 : Int32)] [] x2 (wM γ am μ3 ++ (r)) K (ct_X10_fails hl hc.symm) cs_X10_131 ⟨rfl, rfl, rfl⟩ (dk_of tX10_teach 5 rfl) rfl rfl rfl rfl rfl rfl ?_
  refine r_if_eq 10 15 K (dk_of tX10_teach 6 rfl) (by decide) hR (fun hR => ?_) (fun hR => ?_)
  · refine r_aload_n 15 0 K (dk_of tX10_teach 9 rfl) rfl rfl ?_
    refine r_aload_n 16 0 K (dk_of tX10_teach 10 rfl) rfl rfl ?_
    refine r_getf (C := RX10) (T := TX10) (N := 29) 17 0 11 K (dk_of tX10_teach 11 rfl) w1039 gwX10 rfl rfl (by decide) rfl ?_
    refine r_iload_n 20 1 K (dk_of tX10_teach 12 rfl) rfl rfl ?_
    refine r_ialdR 21 8 K (dk_of tX10_teach 13 rfl) rfl hR (fun hR => ?_)
    refine r_iconst 22 (2 : Int32) K (dk_of tX10_teach 14 rfl) (by decide) ?_
    refine r_ic_ne 23 30 K (dk_of tX10_teach 15 rfl) (by decide) hR (fun hR => ?_) (fun hR => ?_)
    · refine r_iconst 26 (1 : Int32) K (dk_of tX10_teach 16 rfl) (by decide) ?_
      refine r_goto 27 31 K (dk_of tX10_teach 17 rfl) (by decide) ?_
      exact b31 p1 (1 : Int32) μ3 hR
    · refine r_iconst 30 (0 : Int32) K (dk_of tX10_teach 18 rfl) (by decide) ?_
      exact b31 p1 (0 : Int32) μ3 hR
  · refine r_iconst 13 (0 : Int32) K (dk_of tX10_teach 7 rfl) (by decide) ?_
    exact r_zret 14 K hQ (dk_of tX10_teach 8 rfl) zb0 (Nat.zero_le _) (Nat.zero_le _) (lfi (fun u9 : St => wM γ am u9 ++ (r)) hR)

def sp_X10_clean_143  (y23 : Int32) (y24 : Int32) (y25 : Int32) (y26 : Int32) (μ27 : St) : Option (Int32 × St) := b2 (sp_X10_fails y26 (2 : Int32) μ27) (fun (x28 : Int32) (μ29 : St) => if x28 = 0 then (if y23 < 0 ∨ 20 ≤ y23.toNatClampNeg then none else (if ((48 : Int32) + y24) < 0 ∨ 174 ≤ ((48 : Int32) + y24).toNatClampNeg then none else (b1 (sp_X10_least ((10 : Int32) * (μ29 11 y23.toNatClampNeg)) (μ29 1 ((48 : Int32) + y24).toNatClampNeg)) (fun (x30 : Int32) => if ((48 : Int32) + y24) < 0 ∨ 174 ≤ ((48 : Int32) + y24).toNatClampNeg then none else (if ((48 : Int32) + y24) < 0 ∨ 174 ≤ ((48 : Int32) + y24).toNatClampNeg then none else (sl (stU μ29 1 ((48 : Int32) + y24).toNatClampNeg ((μ29 1 ((48 : Int32) + y24).toNatClampNeg) - x30)) (fun μ31 : St => sl (stU μ31 15 (1 : Int32).toNatClampNeg ((μ31 15 (1 : Int32).toNatClampNeg) + x30)) (fun μ32 : St => if ((148 : Int32) + y23) < 0 ∨ 174 ≤ ((148 : Int32) + y23).toNatClampNeg then none else (sl (stU μ32 1 ((148 : Int32) + y23).toNatClampNeg (y25 + (1 : Int32))) (fun μ33 : St => if y23 < 0 ∨ 20 ≤ y23.toNatClampNeg then none else (sl (stU μ33 14 y23.toNatClampNeg (μ33 1 (168 : Int32).toNatClampNeg)) (fun μ34 : St => some (x30, μ34))))))))))))) else (some ((0 : Int32), μ29)))
def sp_X10_clean_142  (y19 : Int32) (y20 : Int32) (y21 : Int32) (μ22 : St) : Option (Int32 × St) := sp_X10_clean_143 y19 y20 y21 (0 : Int32) μ22
def sp_X10_clean_84  (y15 : Int32) (y16 : Int32) (y17 : Int32) (μ18 : St) : Option (Int32 × St) := if y15 < 0 ∨ 20 ≤ y15.toNatClampNeg then none else (if (μ18 8 y15.toNatClampNeg) = (2 : Int32) then (if y16 < 0 ∨ 24 ≤ y16.toNatClampNeg then none else (if (μ18 3 y16.toNatClampNeg) = 0 then (sp_X10_clean_142 y15 y16 y17 μ18) else (if y15 < 0 ∨ 20 ≤ y15.toNatClampNeg then none else (if (μ18 13 y15.toNatClampNeg) = 0 then (sp_X10_clean_142 y15 y16 y17 μ18) else (if y15 < 0 ∨ 20 ≤ y15.toNatClampNeg then none else (if (μ18 14 y15.toNatClampNeg) = (μ18 1 (168 : Int32).toNatClampNeg) then (sp_X10_clean_142 y15 y16 y17 μ18) else (if (8 : Int32) ≤ y17 then (sp_X10_clean_142 y15 y16 y17 μ18) else (sp_X10_clean_143 y15 y16 y17 (1 : Int32) μ18)))))))) else (sp_X10_clean_142 y15 y16 y17 μ18))
def sp_X10_clean_65  (y11 : Int32) (y12 : Int32) (y13 : Int32) (μ14 : St) : Option (Int32 × St) := if y13 = 0 then (if ((148 : Int32) + y11) < 0 ∨ 174 ≤ ((148 : Int32) + y11).toNatClampNeg then none else (sp_X10_clean_84 y11 y12 (μ14 1 ((148 : Int32) + y11).toNatClampNeg) μ14)) else (sp_X10_clean_84 y11 y12 (0 : Int32) μ14)
def sp_X10_clean_21  (y5 : Int32) (y6 : Int32) (y7 : Int32) (μ8 : St) : Option (Int32 × St) := b2 (sp_X10_fails y7 (1 : Int32) μ8) (fun (x9 : Int32) (μ10 : St) => if x9 = 0 then (if y5 < 0 ∨ 20 ≤ y5.toNatClampNeg then none else (if (μ10 14 y5.toNatClampNeg) = (-1 : Int32) then (sp_X10_clean_65 y5 y6 (1 : Int32) μ10) else (if y5 < 0 ∨ 20 ≤ y5.toNatClampNeg then none else (if ((μ10 1 (168 : Int32).toNatClampNeg) - (μ10 14 y5.toNatClampNeg)) < (12 : Int32) then (sp_X10_clean_65 y5 y6 (0 : Int32) μ10) else (sp_X10_clean_65 y5 y6 (1 : Int32) μ10))))) else (some ((0 : Int32), μ10)))
def sp_X10_clean_20  (y2 : Int32) (y3 : Int32) (μ4 : St) : Option (Int32 × St) := sp_X10_clean_21 y2 y3 (0 : Int32) μ4
def sp_X10_clean (p1 : Int32) (p2 : Int32) (μ : St) : Option (Int32 × St) := b1 (sp_X10_isMean p1 μ) (fun (x1 : Int32) => if x1 = 0 then (sp_X10_clean_20 p1 p2 μ) else (b1 (sp_X10_isCell p2) (fun (x35 : Int32) => if x35 = 0 then (sp_X10_clean_20 p1 p2 μ) else (sp_X10_clean_21 p1 p2 (1 : Int32) μ))))
set_option maxHeartbeats 4000000 in
set_option maxRecDepth 100000 in
theorem ct_X10_clean {l : Launch} (hl : l.stackTraces = false) {γ : Gd} {am : Nat → Nat} {μ : St} {r : va_W} {p1 : Int32} {p2 : Int32} {x0 : Int32} {μ0 : St} (hR : some (x0, μ0) = sp_X10_clean p1 p2 μ) : Ct l γ yX10_clean (Cond.code yX10_clean cX10_clean 7 (some .int)) ({ frames := 2, cells := 0, slots := 0, locals := 43 } : Room) [.ref (am 0), .int p1, .int p2] (wM γ am μ ++ (r)) (Pr (some (.int x0)) (wM γ am μ0 ++ (r))) 0 0 := by
  refine Ct_of hl (by decide +kernel) rfl (Nat.le_of_ble_eq_true rfl) (L := [some (.ref (am 0)), some (.int p1), some (.int p2), none, none, none, none]) rfl ?_
  intro X Q K hQ
  generalize ((wM γ am μ ++ (r), Q) : MX) = M at K hQ ⊢
  unfold sp_X10_clean at hR
  have b143 : ∀ (y23 : Int32) (y24 : Int32) (y25 : Int32) (y26 : Int32) (μ27 : St), some (x0, μ0) = sp_X10_clean_143  y23 y24 y25 y26 μ27 → V l γ X M (wM γ am μ27 ++ (r)) [some (.ref (am 0)), some (.int y23), some (.int y24), none, some (.int y25), none, none] 0 0 143 [.int y26] := by
    intro  y23 y24 y25 y26 μ27 hR
    unfold sp_X10_clean_143 at hR
    refine r_istore 143 5 [some (.ref (am 0)), some (.int y23), some (.int y24), none, some (.int y25), some (.int y26), none] K (dk_of tX10_clean_0 79 rfl) rfl rfl (by decide) ?_
    refine r_aload_n 145 0 K (dk_of tX10_clean_0 80 rfl) rfl rfl ?_
    refine r_iload 146 5 K (dk_of tX10_clean_0 81 rfl) rfl ?_
    refine r_iconst 148 (2 : Int32) K (dk_of tX10_clean_0 82 rfl) (by decide) ?_
    obtain ⟨x28, μ29, hc, hR⟩ := o2 hR
    refine r_cVi 149 0 [.int y26, .int (2 : Int32)] [] x28 (wM γ am μ29 ++ (r)) K (ct_X10_fails hl hc.symm) cs_X10_131 ⟨rfl, rfl, rfl⟩ (dk_of tX10_clean_0 83 rfl) rfl rfl rfl rfl rfl rfl ?_
    refine r_if_eq 152 157 K (dk_of tX10_clean_0 84 rfl) (by decide) hR (fun hR => ?_) (fun hR => ?_)
    · refine r_bipush 157 (10 : Int32) K (dk_of tX10_clean_0 87 rfl) (by decide) ?_
      refine r_aload_n 159 0 K (dk_of tX10_clean_0 88 rfl) rfl rfl ?_
      refine r_getf (C := RX10) (T := TX10) (N := 29) 160 0 14 K (dk_of tX10_clean_0 89 rfl) w1042 gwX10 rfl rfl (by decide) rfl ?_
      refine r_iload_n 163 1 K (dk_of tX10_clean_0 90 rfl) rfl rfl ?_
      refine r_ialdR 164 11 K (dk_of tX10_clean_0 91 rfl) rfl hR (fun hR => ?_)
      refine r_imul 165 K (dk_of tX10_clean_0 92 rfl) ?_
      refine r_aload_n 166 0 K (dk_of tX10_clean_0 93 rfl) rfl rfl ?_
      refine r_getf (C := RX10) (T := TX10) (N := 29) 167 0 0 K (dk_of tX10_clean_0 94 rfl) w1028 gwX10 rfl rfl (by decide) rfl ?_
      refine r_bipush 170 (48 : Int32) K (dk_of tX10_clean_0 95 rfl) (by decide) ?_
      refine r_iload_n 172 2 K (dk_of tX10_clean_0 96 rfl) rfl rfl ?_
      refine r_iadd 173 K (dk_of tX10_clean_0 97 rfl) ?_
      refine r_ialdR 174 1 K (dk_of tX10_clean_0 98 rfl) rfl hR (fun hR => ?_)
      obtain ⟨x30, hc, hR⟩ := o1 hR
      refine r_cSi 175 [.int ((10 : Int32) * (μ29 11 y23.toNatClampNeg)), .int (μ29 1 ((48 : Int32) + y24).toNatClampNeg)] [] x30 (wM γ am μ29 ++ (r)) K (ct_X10_least hl hc.symm) cs_X10_88 ⟨rfl, rfl, rfl⟩ (dk_of tX10_clean_0 99 rfl) rfl rfl rfl rfl ?_
      refine r_istore 178 6 [some (.ref (am 0)), some (.int y23), some (.int y24), none, some (.int y25), some (.int y26), some (.int x30)] K (dk_of tX10_clean_1 0 rfl) rfl rfl (by decide) ?_
      refine r_aload_n 180 0 K (dk_of tX10_clean_1 1 rfl) rfl rfl ?_
      refine r_getf (C := RX10) (T := TX10) (N := 29) 181 0 0 K (dk_of tX10_clean_1 2 rfl) w1028 gwX10 rfl rfl (by decide) rfl ?_
      refine r_bipush 184 (48 : Int32) K (dk_of tX10_clean_1 3 rfl) (by decide) ?_
      refine r_iload_n 186 2 K (dk_of tX10_clean_1 4 rfl) rfl rfl ?_
      refine r_iadd 187 K (dk_of tX10_clean_1 5 rfl) ?_
      refine r_dup2 188 K (dk_of tX10_clean_1 6 rfl) rfl rfl ?_
      refine r_ialdR 189 1 K (dk_of tX10_clean_1 7 rfl) rfl hR (fun hR => ?_)
      refine r_iload 190 6 K (dk_of tX10_clean_1 8 rfl) rfl ?_
      refine r_isub 192 K (dk_of tX10_clean_1 9 rfl) ?_
      refine r_iastR 193 1 K (dk_of tX10_clean_1 10 rfl) rfl sM_1 hR (fun hR => ?_)
      refine r_nmS (fun μ31 : St => wM γ am μ31 ++ (r)) hR (fun μ31 hR => ?_)
      refine r_aload_n 194 0 K (dk_of tX10_clean_1 11 rfl) rfl rfl ?_
      refine r_getf (C := RX10) (T := TX10) (N := 29) 195 0 20 K (dk_of tX10_clean_1 12 rfl) w1048 gwX10 rfl rfl (by decide) rfl ?_
      refine r_iconst 198 (1 : Int32) K (dk_of tX10_clean_1 13 rfl) (by decide) ?_
      refine r_dup2 199 K (dk_of tX10_clean_1 14 rfl) rfl rfl ?_
      refine r_iald 200 15 K (dk_of tX10_clean_1 15 rfl) rfl (vpd (by decide)) ?_
      refine r_iload 201 6 K (dk_of tX10_clean_1 16 rfl) rfl ?_
      refine r_iadd 203 K (dk_of tX10_clean_1 17 rfl) ?_
      refine r_iast 204 15 K (dk_of tX10_clean_1 18 rfl) rfl (vpd (by decide)) sM_15 ?_
      refine r_nmS (fun μ32 : St => wM γ am μ32 ++ (r)) hR (fun μ32 hR => ?_)
      refine r_aload_n 205 0 K (dk_of tX10_clean_1 19 rfl) rfl rfl ?_
      refine r_getf (C := RX10) (T := TX10) (N := 29) 206 0 0 K (dk_of tX10_clean_1 20 rfl) w1028 gwX10 rfl rfl (by decide) rfl ?_
      refine r_sipush 209 (148 : Int32) K (dk_of tX10_clean_1 21 rfl) (by decide) ?_
      refine r_iload_n 212 1 K (dk_of tX10_clean_1 22 rfl) rfl rfl ?_
      refine r_iadd 213 K (dk_of tX10_clean_1 23 rfl) ?_
      refine r_iload 214 4 K (dk_of tX10_clean_1 24 rfl) rfl ?_
      refine r_iconst 216 (1 : Int32) K (dk_of tX10_clean_1 25 rfl) (by decide) ?_
      refine r_iadd 217 K (dk_of tX10_clean_1 26 rfl) ?_
      refine r_iastR 218 1 K (dk_of tX10_clean_1 27 rfl) rfl sM_1 hR (fun hR => ?_)
      refine r_nmS (fun μ33 : St => wM γ am μ33 ++ (r)) hR (fun μ33 hR => ?_)
      refine r_aload_n 219 0 K (dk_of tX10_clean_1 28 rfl) rfl rfl ?_
      refine r_getf (C := RX10) (T := TX10) (N := 29) 220 0 17 K (dk_of tX10_clean_1 29 rfl) w1045 gwX10 rfl rfl (by decide) rfl ?_
      refine r_iload_n 223 1 K (dk_of tX10_clean_1 30 rfl) rfl rfl ?_
      refine r_aload_n 224 0 K (dk_of tX10_clean_1 31 rfl) rfl rfl ?_
      refine r_getf (C := RX10) (T := TX10) (N := 29) 225 0 0 K (dk_of tX10_clean_1 32 rfl) w1028 gwX10 rfl rfl (by decide) rfl ?_
      refine r_sipush 228 (168 : Int32) K (dk_of tX10_clean_1 33 rfl) (by decide) ?_
      refine r_iald 231 1 K (dk_of tX10_clean_1 34 rfl) rfl (vpd (by decide)) ?_
      refine r_iastR 232 14 K (dk_of tX10_clean_1 35 rfl) rfl sM_14 hR (fun hR => ?_)
      refine r_nmS (fun μ34 : St => wM γ am μ34 ++ (r)) hR (fun μ34 hR => ?_)
      refine r_iload 233 6 K (dk_of tX10_clean_1 36 rfl) rfl ?_
      exact r_iret 235 K hQ (dk_of tX10_clean_1 37 rfl) (Nat.zero_le _) (Nat.zero_le _) (lfi (fun u9 : St => wM γ am u9 ++ (r)) hR)
    · refine r_iconst 155 (0 : Int32) K (dk_of tX10_clean_0 85 rfl) (by decide) ?_
      exact r_iret 156 K hQ (dk_of tX10_clean_0 86 rfl) (Nat.zero_le _) (Nat.zero_le _) (lfi (fun u9 : St => wM γ am u9 ++ (r)) hR)
  have b142 : ∀ (y19 : Int32) (y20 : Int32) (y21 : Int32) (μ22 : St), some (x0, μ0) = sp_X10_clean_142  y19 y20 y21 μ22 → V l γ X M (wM γ am μ22 ++ (r)) [some (.ref (am 0)), some (.int y19), some (.int y20), none, some (.int y21), none, none] 0 0 142 [] := by
    intro  y19 y20 y21 μ22 hR
    unfold sp_X10_clean_142 at hR
    refine r_iconst 142 (0 : Int32) K (dk_of tX10_clean_0 78 rfl) (by decide) ?_
    exact b143 y19 y20 y21 (0 : Int32) μ22 hR
  have b84 : ∀ (y15 : Int32) (y16 : Int32) (y17 : Int32) (μ18 : St), some (x0, μ0) = sp_X10_clean_84  y15 y16 y17 μ18 → V l γ X M (wM γ am μ18 ++ (r)) [some (.ref (am 0)), some (.int y15), some (.int y16), none, none, none, none] 0 0 84 [.int y17] := by
    intro  y15 y16 y17 μ18 hR
    unfold sp_X10_clean_84 at hR
    refine r_istore 84 4 [some (.ref (am 0)), some (.int y15), some (.int y16), none, some (.int y17), none, none] K (dk_of tX10_clean_0 47 rfl) rfl rfl (by decide) ?_
    refine r_aload_n 86 0 K (dk_of tX10_clean_0 48 rfl) rfl rfl ?_
    refine r_getf (C := RX10) (T := TX10) (N := 29) 87 0 11 K (dk_of tX10_clean_0 49 rfl) w1039 gwX10 rfl rfl (by decide) rfl ?_
    refine r_iload_n 90 1 K (dk_of tX10_clean_0 50 rfl) rfl rfl ?_
    refine r_ialdR 91 8 K (dk_of tX10_clean_0 51 rfl) rfl hR (fun hR => ?_)
    refine r_iconst 92 (2 : Int32) K (dk_of tX10_clean_0 52 rfl) (by decide) ?_
    refine r_ic_ne 93 142 K (dk_of tX10_clean_0 53 rfl) (by decide) hR (fun hR => ?_) (fun hR => ?_)
    · refine r_aload_n 96 0 K (dk_of tX10_clean_0 54 rfl) rfl rfl ?_
      refine r_getf (C := RX10) (T := TX10) (N := 29) 97 0 2 K (dk_of tX10_clean_0 55 rfl) w1030 gwX10 rfl rfl (by decide) rfl ?_
      refine r_iload_n 100 2 K (dk_of tX10_clean_0 56 rfl) rfl rfl ?_
      refine r_ialdR 101 3 K (dk_of tX10_clean_0 57 rfl) rfl hR (fun hR => ?_)
      refine r_if_eq 102 142 K (dk_of tX10_clean_0 58 rfl) (by decide) hR (fun hR => ?_) (fun hR => ?_)
      · exact b142 y15 y16 y17 μ18 hR
      · refine r_aload_n 105 0 K (dk_of tX10_clean_0 59 rfl) rfl rfl ?_
        refine r_getf (C := RX10) (T := TX10) (N := 29) 106 0 16 K (dk_of tX10_clean_0 60 rfl) w1044 gwX10 rfl rfl (by decide) rfl ?_
        refine r_iload_n 109 1 K (dk_of tX10_clean_0 61 rfl) rfl rfl ?_
        refine r_zaldR 110 13 K (dk_of tX10_clean_0 62 rfl) rfl hR (fun hR => ?_)
        refine r_if_eq 111 142 K (dk_of tX10_clean_0 63 rfl) (by decide) hR (fun hR => ?_) (fun hR => ?_)
        · exact b142 y15 y16 y17 μ18 hR
        · refine r_aload_n 114 0 K (dk_of tX10_clean_0 64 rfl) rfl rfl ?_
          refine r_getf (C := RX10) (T := TX10) (N := 29) 115 0 17 K (dk_of tX10_clean_0 65 rfl) w1045 gwX10 rfl rfl (by decide) rfl ?_
          refine r_iload_n 118 1 K (dk_of tX10_clean_0 66 rfl) rfl rfl ?_
          refine r_ialdR 119 14 K (dk_of tX10_clean_0 67 rfl) rfl hR (fun hR => ?_)
          refine r_aload_n 120 0 K (dk_of tX10_clean_0 68 rfl) rfl rfl ?_
          refine r_getf (C := RX10) (T := TX10) (N := 29) 121 0 0 K (dk_of tX10_clean_0 69 rfl) w1028 gwX10 rfl rfl (by decide) rfl ?_
          refine r_sipush 124 (168 : Int32) K (dk_of tX10_clean_0 70 rfl) (by decide) ?_
          refine r_iald 127 1 K (dk_of tX10_clean_0 71 rfl) rfl (vpd (by decide)) ?_
          refine r_ic_eq 128 142 K (dk_of tX10_clean_0 72 rfl) (by decide) hR (fun hR => ?_) (fun hR => ?_)
          · exact b142 y15 y16 y17 μ18 hR
          · refine r_iload 131 4 K (dk_of tX10_clean_0 73 rfl) rfl ?_
            refine r_bipush 133 (8 : Int32) K (dk_of tX10_clean_0 74 rfl) (by decide) ?_
            refine r_ic_ge 135 142 K (dk_of tX10_clean_0 75 rfl) (by decide) hR (fun hR => ?_) (fun hR => ?_)
            · exact b142 y15 y16 y17 μ18 hR
            · refine r_iconst 138 (1 : Int32) K (dk_of tX10_clean_0 76 rfl) (by decide) ?_
              refine r_goto 139 143 K (dk_of tX10_clean_0 77 rfl) (by decide) ?_
              exact b143 y15 y16 y17 (1 : Int32) μ18 hR
    · exact b142 y15 y16 y17 μ18 hR
  have b65 : ∀ (y11 : Int32) (y12 : Int32) (y13 : Int32) (μ14 : St), some (x0, μ0) = sp_X10_clean_65  y11 y12 y13 μ14 → V l γ X M (wM γ am μ14 ++ (r)) [some (.ref (am 0)), some (.int y11), some (.int y12), none, none, none, none] 0 0 65 [.int y13] := by
    intro  y11 y12 y13 μ14 hR
    unfold sp_X10_clean_65 at hR
    refine r_istore_n 65 3 [some (.ref (am 0)), some (.int y11), some (.int y12), some (.int y13), none, none, none] K (dk_of tX10_clean_0 36 rfl) rfl rfl rfl (by decide) ?_
    refine r_iload_n 66 3 K (dk_of tX10_clean_0 37 rfl) rfl rfl ?_
    refine r_if_eq 67 74 K (dk_of tX10_clean_0 38 rfl) (by decide) hR (fun hR => ?_) (fun hR => ?_)
    · refine r_aload_n 74 0 K (dk_of tX10_clean_0 41 rfl) rfl rfl ?_
      refine r_getf (C := RX10) (T := TX10) (N := 29) 75 0 0 K (dk_of tX10_clean_0 42 rfl) w1028 gwX10 rfl rfl (by decide) rfl ?_
      refine r_sipush 78 (148 : Int32) K (dk_of tX10_clean_0 43 rfl) (by decide) ?_
      refine r_iload_n 81 1 K (dk_of tX10_clean_0 44 rfl) rfl rfl ?_
      refine r_iadd 82 K (dk_of tX10_clean_0 45 rfl) ?_
      refine r_ialdR 83 1 K (dk_of tX10_clean_0 46 rfl) rfl hR (fun hR => ?_)
      exact r_msk [true, true, true, false, true, true, true] [some (.ref (am 0)), some (.int y11), some (.int y12), none, none, none, none] rfl (b84 y11 y12 (μ14 1 ((148 : Int32) + y11).toNatClampNeg) μ14 hR)
    · refine r_iconst 70 (0 : Int32) K (dk_of tX10_clean_0 39 rfl) (by decide) ?_
      refine r_goto 71 84 K (dk_of tX10_clean_0 40 rfl) (by decide) ?_
      exact r_msk [true, true, true, false, true, true, true] [some (.ref (am 0)), some (.int y11), some (.int y12), none, none, none, none] rfl (b84 y11 y12 (0 : Int32) μ14 hR)
  have b21 : ∀ (y5 : Int32) (y6 : Int32) (y7 : Int32) (μ8 : St), some (x0, μ0) = sp_X10_clean_21  y5 y6 y7 μ8 → V l γ X M (wM γ am μ8 ++ (r)) [some (.ref (am 0)), some (.int y5), some (.int y6), none, none, none, none] 0 0 21 [.int y7, .ref (am 0)] := by
    intro  y5 y6 y7 μ8 hR
    unfold sp_X10_clean_21 at hR
    refine r_iconst 21 (1 : Int32) K (dk_of tX10_clean_0 11 rfl) (by decide) ?_
    obtain ⟨x9, μ10, hc, hR⟩ := o2 hR
    refine r_cVi 22 0 [.int y7, .int (1 : Int32)] [] x9 (wM γ am μ10 ++ (r)) K (ct_X10_fails hl hc.symm) cs_X10_131 ⟨rfl, rfl, rfl⟩ (dk_of tX10_clean_0 12 rfl) rfl rfl rfl rfl rfl rfl ?_
    refine r_if_eq 25 30 K (dk_of tX10_clean_0 13 rfl) (by decide) hR (fun hR => ?_) (fun hR => ?_)
    · refine r_aload_n 30 0 K (dk_of tX10_clean_0 16 rfl) rfl rfl ?_
      refine r_getf (C := RX10) (T := TX10) (N := 29) 31 0 17 K (dk_of tX10_clean_0 17 rfl) w1045 gwX10 rfl rfl (by decide) rfl ?_
      refine r_iload_n 34 1 K (dk_of tX10_clean_0 18 rfl) rfl rfl ?_
      refine r_ialdR 35 14 K (dk_of tX10_clean_0 19 rfl) rfl hR (fun hR => ?_)
      refine r_iconst 36 (-1) K (dk_of tX10_clean_0 20 rfl) (by decide) ?_
      refine r_ic_eq 37 60 K (dk_of tX10_clean_0 21 rfl) (by decide) hR (fun hR => ?_) (fun hR => ?_)
      · refine r_iconst 60 (1 : Int32) K (dk_of tX10_clean_0 33 rfl) (by decide) ?_
        refine r_goto 61 65 K (dk_of tX10_clean_0 34 rfl) (by decide) ?_
        exact b65 y5 y6 (1 : Int32) μ10 hR
      · refine r_aload_n 40 0 K (dk_of tX10_clean_0 22 rfl) rfl rfl ?_
        refine r_getf (C := RX10) (T := TX10) (N := 29) 41 0 0 K (dk_of tX10_clean_0 23 rfl) w1028 gwX10 rfl rfl (by decide) rfl ?_
        refine r_sipush 44 (168 : Int32) K (dk_of tX10_clean_0 24 rfl) (by decide) ?_
        refine r_iald 47 1 K (dk_of tX10_clean_0 25 rfl) rfl (vpd (by decide)) ?_
        refine r_aload_n 48 0 K (dk_of tX10_clean_0 26 rfl) rfl rfl ?_
        refine r_getf (C := RX10) (T := TX10) (N := 29) 49 0 17 K (dk_of tX10_clean_0 27 rfl) w1045 gwX10 rfl rfl (by decide) rfl ?_
        refine r_iload_n 52 1 K (dk_of tX10_clean_0 28 rfl) rfl rfl ?_
        refine r_ialdR 53 14 K (dk_of tX10_clean_0 29 rfl) rfl hR (fun hR => ?_)
        refine r_isub 54 K (dk_of tX10_clean_0 30 rfl) ?_
        refine r_bipush 55 (12 : Int32) K (dk_of tX10_clean_0 31 rfl) (by decide) ?_
        refine r_ic_lt 57 64 K (dk_of tX10_clean_0 32 rfl) (by decide) hR (fun hR => ?_) (fun hR => ?_)
        · refine r_iconst 64 (0 : Int32) K (dk_of tX10_clean_0 35 rfl) (by decide) ?_
          exact b65 y5 y6 (0 : Int32) μ10 hR
        · refine r_iconst 60 (1 : Int32) K (dk_of tX10_clean_0 33 rfl) (by decide) ?_
          refine r_goto 61 65 K (dk_of tX10_clean_0 34 rfl) (by decide) ?_
          exact b65 y5 y6 (1 : Int32) μ10 hR
    · refine r_iconst 28 (0 : Int32) K (dk_of tX10_clean_0 14 rfl) (by decide) ?_
      exact r_iret 29 K hQ (dk_of tX10_clean_0 15 rfl) (Nat.zero_le _) (Nat.zero_le _) (lfi (fun u9 : St => wM γ am u9 ++ (r)) hR)
  have b20 : ∀ (y2 : Int32) (y3 : Int32) (μ4 : St), some (x0, μ0) = sp_X10_clean_20  y2 y3 μ4 → V l γ X M (wM γ am μ4 ++ (r)) [some (.ref (am 0)), some (.int y2), some (.int y3), none, none, none, none] 0 0 20 [.ref (am 0)] := by
    intro  y2 y3 μ4 hR
    unfold sp_X10_clean_20 at hR
    refine r_iconst 20 (0 : Int32) K (dk_of tX10_clean_0 10 rfl) (by decide) ?_
    exact b21 y2 y3 (0 : Int32) μ4 hR
  refine r_aload_n 0 0 K (dk_of tX10_clean_0 0 rfl) rfl rfl ?_
  refine r_aload_n 1 0 K (dk_of tX10_clean_0 1 rfl) rfl rfl ?_
  refine r_iload_n 2 1 K (dk_of tX10_clean_0 2 rfl) rfl rfl ?_
  obtain ⟨x1, hc, hR⟩ := o1 hR
  refine r_cVi 3 0 [.int p1] [.ref (am 0)] x1 (wM γ am μ ++ (r)) K (ct_X10_isMean hl hc.symm) cs_X10_149 ⟨rfl, rfl, rfl⟩ (dk_of tX10_clean_0 3 rfl) rfl rfl rfl rfl rfl rfl ?_
  refine r_if_eq 6 20 K (dk_of tX10_clean_0 4 rfl) (by decide) hR (fun hR => ?_) (fun hR => ?_)
  · exact b20 p1 p2 μ hR
  · refine r_iload_n 9 2 K (dk_of tX10_clean_0 5 rfl) rfl rfl ?_
    obtain ⟨x35, hc, hR⟩ := o1 hR
    refine r_cSi 10 [.int p2] [.ref (am 0)] x35 (wM γ am μ ++ (r)) K (ct_X10_isCell hl hc.symm) cs_X10_76 ⟨rfl, rfl, rfl⟩ (dk_of tX10_clean_0 6 rfl) rfl rfl rfl rfl ?_
    refine r_if_eq 13 20 K (dk_of tX10_clean_0 7 rfl) (by decide) hR (fun hR => ?_) (fun hR => ?_)
    · exact b20 p1 p2 μ hR
    · refine r_iconst 16 (1 : Int32) K (dk_of tX10_clean_0 8 rfl) (by decide) ?_
      refine r_goto 17 21 K (dk_of tX10_clean_0 9 rfl) (by decide) ?_
      exact b21 p1 p2 (1 : Int32) μ hR

def sp_X10_meanIs (p1 : Int32) (p2 : Int32) (μ : St) : Option (Int32 × St) := b1 (sp_X10_isMean p1 μ) (fun (x1 : Int32) => b2 (sp_X10_fails x1 (1 : Int32) μ) (fun (x2 : Int32) (μ3 : St) => if x2 = 0 then (b1 (sp_X10_in p2 (0 : Int32) (3 : Int32)) (fun (x4 : Int32) => b2 (sp_X10_fails x4 (2 : Int32) μ3) (fun (x5 : Int32) (μ6 : St) => if x5 = 0 then (if p2 = 0 then (if p1 < 0 ∨ 20 ≤ p1.toNatClampNeg then none else (some ((μ6 8 p1.toNatClampNeg), μ6))) else (if p2 = (1 : Int32) then (if p1 < 0 ∨ 20 ≤ p1.toNatClampNeg then none else (some ((μ6 9 p1.toNatClampNeg), μ6))) else (if p2 = (2 : Int32) then (if p1 < 0 ∨ 20 ≤ p1.toNatClampNeg then none else (some ((μ6 11 p1.toNatClampNeg), μ6))) else (if ((148 : Int32) + p1) < 0 ∨ 174 ≤ ((148 : Int32) + p1).toNatClampNeg then none else (some ((μ6 1 ((148 : Int32) + p1).toNatClampNeg), μ6)))))) else (some ((0 : Int32), μ6))))) else (some ((0 : Int32), μ3))))
set_option maxHeartbeats 4000000 in
set_option maxRecDepth 100000 in
theorem ct_X10_meanIs {l : Launch} (hl : l.stackTraces = false) {γ : Gd} {am : Nat → Nat} {μ : St} {r : va_W} {p1 : Int32} {p2 : Int32} {x0 : Int32} {μ0 : St} (hR : some (x0, μ0) = sp_X10_meanIs p1 p2 μ) : Ct l γ yX10_meanIs (Cond.code yX10_meanIs cX10_meanIs 3 (some .int)) ({ frames := 2, cells := 0, slots := 0, locals := 43 } : Room) [.ref (am 0), .int p1, .int p2] (wM γ am μ ++ (r)) (Pr (some (.int x0)) (wM γ am μ0 ++ (r))) 0 0 := by
  refine Ct_of hl (by decide +kernel) rfl (Nat.le_of_ble_eq_true rfl) (L := [some (.ref (am 0)), some (.int p1), some (.int p2)]) rfl ?_
  intro X Q K hQ
  generalize ((wM γ am μ ++ (r), Q) : MX) = M at K hQ ⊢
  unfold sp_X10_meanIs at hR
  refine r_aload_n 0 0 K (dk_of tX10_meanIs 0 rfl) rfl rfl ?_
  refine r_aload_n 1 0 K (dk_of tX10_meanIs 1 rfl) rfl rfl ?_
  refine r_iload_n 2 1 K (dk_of tX10_meanIs 2 rfl) rfl rfl ?_
  obtain ⟨x1, hc, hR⟩ := o1 hR
  refine r_cVi 3 0 [.int p1] [.ref (am 0)] x1 (wM γ am μ ++ (r)) K (ct_X10_isMean hl hc.symm) cs_X10_149 ⟨rfl, rfl, rfl⟩ (dk_of tX10_meanIs 3 rfl) rfl rfl rfl rfl rfl rfl ?_
  refine r_iconst 6 (1 : Int32) K (dk_of tX10_meanIs 4 rfl) (by decide) ?_
  obtain ⟨x2, μ3, hc, hR⟩ := o2 hR
  refine r_cVi 7 0 [.int x1, .int (1 : Int32)] [] x2 (wM γ am μ3 ++ (r)) K (ct_X10_fails hl hc.symm) cs_X10_131 ⟨rfl, rfl, rfl⟩ (dk_of tX10_meanIs 5 rfl) rfl rfl rfl rfl rfl rfl ?_
  refine r_if_eq 10 15 K (dk_of tX10_meanIs 6 rfl) (by decide) hR (fun hR => ?_) (fun hR => ?_)
  · refine r_aload_n 15 0 K (dk_of tX10_meanIs 9 rfl) rfl rfl ?_
    refine r_iload_n 16 2 K (dk_of tX10_meanIs 10 rfl) rfl rfl ?_
    refine r_iconst 17 (0 : Int32) K (dk_of tX10_meanIs 11 rfl) (by decide) ?_
    refine r_iconst 18 (3 : Int32) K (dk_of tX10_meanIs 12 rfl) (by decide) ?_
    obtain ⟨x4, hc, hR⟩ := o1 hR
    refine r_cSi 19 [.int p2, .int (0 : Int32), .int (3 : Int32)] [.ref (am 0)] x4 (wM γ am μ3 ++ (r)) K (ct_X10_in hl hc.symm) cs_X10_66 ⟨rfl, rfl, rfl⟩ (dk_of tX10_meanIs 13 rfl) rfl rfl rfl rfl ?_
    refine r_iconst 22 (2 : Int32) K (dk_of tX10_meanIs 14 rfl) (by decide) ?_
    obtain ⟨x5, μ6, hc, hR⟩ := o2 hR
    refine r_cVi 23 0 [.int x4, .int (2 : Int32)] [] x5 (wM γ am μ6 ++ (r)) K (ct_X10_fails hl hc.symm) cs_X10_131 ⟨rfl, rfl, rfl⟩ (dk_of tX10_meanIs 15 rfl) rfl rfl rfl rfl rfl rfl ?_
    refine r_if_eq 26 31 K (dk_of tX10_meanIs 16 rfl) (by decide) hR (fun hR => ?_) (fun hR => ?_)
    · refine r_iload_n 31 2 K (dk_of tX10_meanIs 19 rfl) rfl rfl ?_
      refine r_if_ne 32 44 K (dk_of tX10_meanIs 20 rfl) (by decide) hR (fun hR => ?_) (fun hR => ?_)
      · refine r_aload_n 35 0 K (dk_of tX10_meanIs 21 rfl) rfl rfl ?_
        refine r_getf (C := RX10) (T := TX10) (N := 29) 36 0 11 K (dk_of tX10_meanIs 22 rfl) w1039 gwX10 rfl rfl (by decide) rfl ?_
        refine r_iload_n 39 1 K (dk_of tX10_meanIs 23 rfl) rfl rfl ?_
        refine r_ialdR 40 8 K (dk_of tX10_meanIs 24 rfl) rfl hR (fun hR => ?_)
        refine r_goto 41 82 K (dk_of tX10_meanIs 25 rfl) (by decide) ?_
        exact r_iret 82 K hQ (dk_of tX10_meanIs 48 rfl) (Nat.zero_le _) (Nat.zero_le _) (lfi (fun u9 : St => wM γ am u9 ++ (r)) hR)
      · refine r_iload_n 44 2 K (dk_of tX10_meanIs 26 rfl) rfl rfl ?_
        refine r_iconst 45 (1 : Int32) K (dk_of tX10_meanIs 27 rfl) (by decide) ?_
        refine r_ic_ne 46 58 K (dk_of tX10_meanIs 28 rfl) (by decide) hR (fun hR => ?_) (fun hR => ?_)
        · refine r_aload_n 49 0 K (dk_of tX10_meanIs 29 rfl) rfl rfl ?_
          refine r_getf (C := RX10) (T := TX10) (N := 29) 50 0 12 K (dk_of tX10_meanIs 30 rfl) w1040 gwX10 rfl rfl (by decide) rfl ?_
          refine r_iload_n 53 1 K (dk_of tX10_meanIs 31 rfl) rfl rfl ?_
          refine r_ialdR 54 9 K (dk_of tX10_meanIs 32 rfl) rfl hR (fun hR => ?_)
          refine r_goto 55 82 K (dk_of tX10_meanIs 33 rfl) (by decide) ?_
          exact r_iret 82 K hQ (dk_of tX10_meanIs 48 rfl) (Nat.zero_le _) (Nat.zero_le _) (lfi (fun u9 : St => wM γ am u9 ++ (r)) hR)
        · refine r_iload_n 58 2 K (dk_of tX10_meanIs 34 rfl) rfl rfl ?_
          refine r_iconst 59 (2 : Int32) K (dk_of tX10_meanIs 35 rfl) (by decide) ?_
          refine r_ic_ne 60 72 K (dk_of tX10_meanIs 36 rfl) (by decide) hR (fun hR => ?_) (fun hR => ?_)
          · refine r_aload_n 63 0 K (dk_of tX10_meanIs 37 rfl) rfl rfl ?_
            refine r_getf (C := RX10) (T := TX10) (N := 29) 64 0 14 K (dk_of tX10_meanIs 38 rfl) w1042 gwX10 rfl rfl (by decide) rfl ?_
            refine r_iload_n 67 1 K (dk_of tX10_meanIs 39 rfl) rfl rfl ?_
            refine r_ialdR 68 11 K (dk_of tX10_meanIs 40 rfl) rfl hR (fun hR => ?_)
            refine r_goto 69 82 K (dk_of tX10_meanIs 41 rfl) (by decide) ?_
            exact r_iret 82 K hQ (dk_of tX10_meanIs 48 rfl) (Nat.zero_le _) (Nat.zero_le _) (lfi (fun u9 : St => wM γ am u9 ++ (r)) hR)
          · refine r_aload_n 72 0 K (dk_of tX10_meanIs 42 rfl) rfl rfl ?_
            refine r_getf (C := RX10) (T := TX10) (N := 29) 73 0 0 K (dk_of tX10_meanIs 43 rfl) w1028 gwX10 rfl rfl (by decide) rfl ?_
            refine r_sipush 76 (148 : Int32) K (dk_of tX10_meanIs 44 rfl) (by decide) ?_
            refine r_iload_n 79 1 K (dk_of tX10_meanIs 45 rfl) rfl rfl ?_
            refine r_iadd 80 K (dk_of tX10_meanIs 46 rfl) ?_
            refine r_ialdR 81 1 K (dk_of tX10_meanIs 47 rfl) rfl hR (fun hR => ?_)
            exact r_iret 82 K hQ (dk_of tX10_meanIs 48 rfl) (Nat.zero_le _) (Nat.zero_le _) (lfi (fun u9 : St => wM γ am u9 ++ (r)) hR)
    · refine r_iconst 29 (0 : Int32) K (dk_of tX10_meanIs 17 rfl) (by decide) ?_
      exact r_iret 30 K hQ (dk_of tX10_meanIs 18 rfl) (Nat.zero_le _) (Nat.zero_le _) (lfi (fun u9 : St => wM γ am u9 ++ (r)) hR)
  · refine r_iconst 13 (0 : Int32) K (dk_of tX10_meanIs 7 rfl) (by decide) ?_
    exact r_iret 14 K hQ (dk_of tX10_meanIs 8 rfl) (Nat.zero_le _) (Nat.zero_le _) (lfi (fun u9 : St => wM γ am u9 ++ (r)) hR)

def sp_X10_isAgainst_192 (μ : St) (y5 : Int32) (y6 : Int32) : Nat → Int32 → Int32 → Option (Int32)
  | 0, _, _ => none
  | n + 1, y7, y8 => if (4 : Int32) ≤ y8 then (if y7 = 0 ∨ y7 = 1 then some y7 else none) else (b1 (sp_X10_beside y5 y8) (fun (x9 : Int32) => if x9 = (-1 : Int32) then (sl ((y7 ||| (0 : Int32))) (fun x10 : Int32 => sp_X10_isAgainst_192 μ y5 y6 n x10 (y8 + 1))) else (if y6 = 0 then (if x9 < 0 ∨ 24 ≤ x9.toNatClampNeg then none else (if (μ 3 x9.toNatClampNeg) = (3 : Int32) then (sl ((y7 ||| (1 : Int32))) (fun x11 : Int32 => sp_X10_isAgainst_192 μ y5 y6 n x11 (y8 + 1))) else (sl ((y7 ||| (0 : Int32))) (fun x12 : Int32 => sp_X10_isAgainst_192 μ y5 y6 n x12 (y8 + 1))))) else (if x9 < 0 ∨ 24 ≤ x9.toNatClampNeg then none else (if (μ 3 x9.toNatClampNeg) = 0 then (sl ((y7 ||| (0 : Int32))) (fun x13 : Int32 => sp_X10_isAgainst_192 μ y5 y6 n x13 (y8 + 1))) else (sl ((y7 ||| (1 : Int32))) (fun x14 : Int32 => sp_X10_isAgainst_192 μ y5 y6 n x14 (y8 + 1))))))))
def sp_X10_isAgainst_11 (μ : St) (y1 : Int32) (y2 : Int32) (y3 : Int32) (y4 : Int32) : Option (Int32) := if y3 = 1 then (if y2 = 0 then (if y1 < 0 ∨ 24 ≤ y1.toNatClampNeg then none else (if (10 : Int32) ≤ (μ 4 y1.toNatClampNeg) then (some (0 : Int32)) else (some (1 : Int32)))) else (if ((0 : Int32) + y1) < 0 ∨ 174 ≤ ((0 : Int32) + y1).toNatClampNeg then none else (if (100 : Int32) ≤ (μ 1 ((0 : Int32) + y1).toNatClampNeg) then (some (0 : Int32)) else (some (1 : Int32))))) else (if y3 = 2 then (if (μ 1 (170 : Int32).toNatClampNeg) = (-1 : Int32) then (some (1 : Int32)) else (if ((μ 1 (168 : Int32).toNatClampNeg) - (μ 1 (170 : Int32).toNatClampNeg)) ≤ y4 then (some (0 : Int32)) else (some (1 : Int32)))) else (if y3 = 3 then (if ((24 : Int32) + y1) < 0 ∨ 174 ≤ ((24 : Int32) + y1).toNatClampNeg then none else (if ((0 : Int32) + y1) < 0 ∨ 174 ≤ ((0 : Int32) + y1).toNatClampNeg then none else (if (μ 1 ((24 : Int32) + y1).toNatClampNeg) ≤ (μ 1 ((0 : Int32) + y1).toNatClampNeg) then (some (0 : Int32)) else (some (1 : Int32))))) else (if y3 = 4 then (if y2 = 0 then (if (2 : Int32) ≤ (μ 0 6) then (some (0 : Int32)) else (some (1 : Int32))) else (if (μ 0 6) ≤ (5 : Int32) then (some (0 : Int32)) else (some (1 : Int32)))) else (sp_X10_isAgainst_192 μ y1 y2 200 (0 : Int32) (0 : Int32)))))
def sp_X10_isAgainst (p1 : Int32) (p2 : Int32) (p3 : Int32) (μ : St) : Option (Int32) := if p2 = 0 then (sp_X10_isAgainst_11 μ p1 p2 p3 (72 : Int32)) else (sp_X10_isAgainst_11 μ p1 p2 p3 (24 : Int32))
set_option maxHeartbeats 4000000 in
set_option maxRecDepth 100000 in
theorem ct_X10_isAgainst {l : Launch} (hl : l.stackTraces = false) {γ : Gd} {am : Nat → Nat} {μ : St} {r : va_W} {p1 : Int32} {p2 : Int32} {p3 : Int32} {x0 : Int32} (hR : some x0 = sp_X10_isAgainst p1 p2 p3 μ) : Ct l γ yX10_isAgainst (Cond.code yX10_isAgainst cX10_isAgainst 8 (some .boolean)) ({ frames := 3, cells := 0, slots := 0, locals := 64 } : Room) [.ref (am 0), .int p1, .int p2, .int p3] (wM γ am μ ++ (r)) (Pr (some (.int x0)) (wM γ am μ ++ (r))) 0 0 := by
  refine Ct_of hl (by decide +kernel) rfl (Nat.le_of_ble_eq_true rfl) (L := [some (.ref (am 0)), some (.int p1), some (.int p2), some (.int p3), none, none, none, none]) rfl ?_
  intro X Q K hQ
  generalize ((wM γ am μ ++ (r), Q) : MX) = M at K hQ ⊢
  unfold sp_X10_isAgainst at hR
  have b192 : ∀ (y5 : Int32) (y6 : Int32) (n : Nat) (y7 : Int32) (y8 : Int32), some x0 = sp_X10_isAgainst_192 μ y5 y6 n y7 y8 → V l γ X M (wM γ am μ ++ (r)) [some (.ref (am 0)), some (.int y5), some (.int y6), none, none, some (.int y7), some (.int y8), none] 0 0 192 [] := by
    intro y5 y6 n
    induction n with
    | zero => intro y7 y8 hR; exact nn_ hR
    | succ n ih192 =>
      intro y7 y8 hR
      rw [sp_X10_isAgainst_192] at hR
      refine r_iload 192 6 K (dk_of tX10_isAgainst_0 92 rfl) rfl ?_
      refine r_iconst 194 (4 : Int32) K (dk_of tX10_isAgainst_0 93 rfl) (by decide) ?_
      refine r_ic_ge 195 256 K (dk_of tX10_isAgainst_0 94 rfl) (by decide) hR (fun hR => ?_) (fun hR => ?_)
      · refine r_iload 256 5 K (dk_of tX10_isAgainst_1 24 rfl) rfl ?_
        exact r_zretR 258 K hQ (dk_of tX10_isAgainst_1 25 rfl) (Nat.zero_le _) (Nat.zero_le _) hR (fun hR => lfi0 hR)
      · refine r_iload_n 198 1 K (dk_of tX10_isAgainst_0 95 rfl) rfl rfl ?_
        refine r_iload 199 6 K (dk_of tX10_isAgainst_0 96 rfl) rfl ?_
        obtain ⟨x9, hc, hR⟩ := o1 hR
        refine r_cSi 201 [.int y5, .int y8] [] x9 (wM γ am μ ++ (r)) K (ct_X10_beside hl hc.symm) cs_X10_80 ⟨rfl, rfl, rfl⟩ (dk_of tX10_isAgainst_0 97 rfl) rfl rfl rfl rfl ?_
        refine r_istore 204 7 [some (.ref (am 0)), some (.int y5), some (.int y6), none, none, some (.int y7), some (.int y8), some (.int x9)] K (dk_of tX10_isAgainst_0 98 rfl) rfl rfl (by decide) ?_
        refine r_iload 206 5 K (dk_of tX10_isAgainst_0 99 rfl) rfl ?_
        refine r_iload 208 7 K (dk_of tX10_isAgainst_1 0 rfl) rfl ?_
        refine r_iconst 210 (-1) K (dk_of tX10_isAgainst_1 1 rfl) (by decide) ?_
        refine r_ic_eq 211 246 K (dk_of tX10_isAgainst_1 2 rfl) (by decide) hR (fun hR => ?_) (fun hR => ?_)
        · refine r_iconst 246 (0 : Int32) K (dk_of tX10_isAgainst_1 19 rfl) (by decide) ?_
          refine r_ior 247 K (dk_of tX10_isAgainst_1 20 rfl) ?_
          refine r_nmI hR (fun x10 hR => ?_)
          refine r_istore 248 5 [some (.ref (am 0)), some (.int y5), some (.int y6), none, none, some (.int x10), some (.int y8), some (.int x9)] K (dk_of tX10_isAgainst_1 21 rfl) rfl rfl (by decide) ?_
          refine r_iinc 250 6 (y8 + 1) [some (.ref (am 0)), some (.int y5), some (.int y6), none, none, some (.int x10), some (.int (y8 + 1)), some (.int x9)] K (dk_of tX10_isAgainst_1 22 rfl) rfl rfl rfl rfl (by decide) ?_
          refine r_goto 253 192 K (dk_of tX10_isAgainst_1 23 rfl) (by decide) ?_
          exact r_msk [true, true, true, true, true, true, true, false] [some (.ref (am 0)), some (.int y5), some (.int y6), none, none, some (.int x10), some (.int (y8 + 1)), none] rfl (ih192 x10 (y8 + 1) hR)
        · refine r_iload_n 214 2 K (dk_of tX10_isAgainst_1 3 rfl) rfl rfl ?_
          refine r_if_ne 215 232 K (dk_of tX10_isAgainst_1 4 rfl) (by decide) hR (fun hR => ?_) (fun hR => ?_)
          · refine r_aload_n 218 0 K (dk_of tX10_isAgainst_1 5 rfl) rfl rfl ?_
            refine r_getf (C := RX10) (T := TX10) (N := 29) 219 0 2 K (dk_of tX10_isAgainst_1 6 rfl) w1030 gwX10 rfl rfl (by decide) rfl ?_
            refine r_iload 222 7 K (dk_of tX10_isAgainst_1 7 rfl) rfl ?_
            refine r_ialdR 224 3 K (dk_of tX10_isAgainst_1 8 rfl) rfl hR (fun hR => ?_)
            refine r_iconst 225 (3 : Int32) K (dk_of tX10_isAgainst_1 9 rfl) (by decide) ?_
            refine r_ic_ne 226 246 K (dk_of tX10_isAgainst_1 10 rfl) (by decide) hR (fun hR => ?_) (fun hR => ?_)
            · refine r_goto 229 242 K (dk_of tX10_isAgainst_1 11 rfl) (by decide) ?_
              refine r_iconst 242 (1 : Int32) K (dk_of tX10_isAgainst_1 17 rfl) (by decide) ?_
              refine r_goto 243 247 K (dk_of tX10_isAgainst_1 18 rfl) (by decide) ?_
              refine r_ior 247 K (dk_of tX10_isAgainst_1 20 rfl) ?_
              refine r_nmI hR (fun x11 hR => ?_)
              refine r_istore 248 5 [some (.ref (am 0)), some (.int y5), some (.int y6), none, none, some (.int x11), some (.int y8), some (.int x9)] K (dk_of tX10_isAgainst_1 21 rfl) rfl rfl (by decide) ?_
              refine r_iinc 250 6 (y8 + 1) [some (.ref (am 0)), some (.int y5), some (.int y6), none, none, some (.int x11), some (.int (y8 + 1)), some (.int x9)] K (dk_of tX10_isAgainst_1 22 rfl) rfl rfl rfl rfl (by decide) ?_
              refine r_goto 253 192 K (dk_of tX10_isAgainst_1 23 rfl) (by decide) ?_
              exact r_msk [true, true, true, true, true, true, true, false] [some (.ref (am 0)), some (.int y5), some (.int y6), none, none, some (.int x11), some (.int (y8 + 1)), none] rfl (ih192 x11 (y8 + 1) hR)
            · refine r_iconst 246 (0 : Int32) K (dk_of tX10_isAgainst_1 19 rfl) (by decide) ?_
              refine r_ior 247 K (dk_of tX10_isAgainst_1 20 rfl) ?_
              refine r_nmI hR (fun x12 hR => ?_)
              refine r_istore 248 5 [some (.ref (am 0)), some (.int y5), some (.int y6), none, none, some (.int x12), some (.int y8), some (.int x9)] K (dk_of tX10_isAgainst_1 21 rfl) rfl rfl (by decide) ?_
              refine r_iinc 250 6 (y8 + 1) [some (.ref (am 0)), some (.int y5), some (.int y6), none, none, some (.int x12), some (.int (y8 + 1)), some (.int x9)] K (dk_of tX10_isAgainst_1 22 rfl) rfl rfl rfl rfl (by decide) ?_
              refine r_goto 253 192 K (dk_of tX10_isAgainst_1 23 rfl) (by decide) ?_
              exact r_msk [true, true, true, true, true, true, true, false] [some (.ref (am 0)), some (.int y5), some (.int y6), none, none, some (.int x12), some (.int (y8 + 1)), none] rfl (ih192 x12 (y8 + 1) hR)
          · refine r_aload_n 232 0 K (dk_of tX10_isAgainst_1 12 rfl) rfl rfl ?_
            refine r_getf (C := RX10) (T := TX10) (N := 29) 233 0 2 K (dk_of tX10_isAgainst_1 13 rfl) w1030 gwX10 rfl rfl (by decide) rfl ?_
            refine r_iload 236 7 K (dk_of tX10_isAgainst_1 14 rfl) rfl ?_
            refine r_ialdR 238 3 K (dk_of tX10_isAgainst_1 15 rfl) rfl hR (fun hR => ?_)
            refine r_if_eq 239 246 K (dk_of tX10_isAgainst_1 16 rfl) (by decide) hR (fun hR => ?_) (fun hR => ?_)
            · refine r_iconst 246 (0 : Int32) K (dk_of tX10_isAgainst_1 19 rfl) (by decide) ?_
              refine r_ior 247 K (dk_of tX10_isAgainst_1 20 rfl) ?_
              refine r_nmI hR (fun x13 hR => ?_)
              refine r_istore 248 5 [some (.ref (am 0)), some (.int y5), some (.int y6), none, none, some (.int x13), some (.int y8), some (.int x9)] K (dk_of tX10_isAgainst_1 21 rfl) rfl rfl (by decide) ?_
              refine r_iinc 250 6 (y8 + 1) [some (.ref (am 0)), some (.int y5), some (.int y6), none, none, some (.int x13), some (.int (y8 + 1)), some (.int x9)] K (dk_of tX10_isAgainst_1 22 rfl) rfl rfl rfl rfl (by decide) ?_
              refine r_goto 253 192 K (dk_of tX10_isAgainst_1 23 rfl) (by decide) ?_
              exact r_msk [true, true, true, true, true, true, true, false] [some (.ref (am 0)), some (.int y5), some (.int y6), none, none, some (.int x13), some (.int (y8 + 1)), none] rfl (ih192 x13 (y8 + 1) hR)
            · refine r_iconst 242 (1 : Int32) K (dk_of tX10_isAgainst_1 17 rfl) (by decide) ?_
              refine r_goto 243 247 K (dk_of tX10_isAgainst_1 18 rfl) (by decide) ?_
              refine r_ior 247 K (dk_of tX10_isAgainst_1 20 rfl) ?_
              refine r_nmI hR (fun x14 hR => ?_)
              refine r_istore 248 5 [some (.ref (am 0)), some (.int y5), some (.int y6), none, none, some (.int x14), some (.int y8), some (.int x9)] K (dk_of tX10_isAgainst_1 21 rfl) rfl rfl (by decide) ?_
              refine r_iinc 250 6 (y8 + 1) [some (.ref (am 0)), some (.int y5), some (.int y6), none, none, some (.int x14), some (.int (y8 + 1)), some (.int x9)] K (dk_of tX10_isAgainst_1 22 rfl) rfl rfl rfl rfl (by decide) ?_
              refine r_goto 253 192 K (dk_of tX10_isAgainst_1 23 rfl) (by decide) ?_
              exact r_msk [true, true, true, true, true, true, true, false] [some (.ref (am 0)), some (.int y5), some (.int y6), none, none, some (.int x14), some (.int (y8 + 1)), none] rfl (ih192 x14 (y8 + 1) hR)
  have b11 : ∀ (y1 : Int32) (y2 : Int32) (y3 : Int32) (y4 : Int32), some x0 = sp_X10_isAgainst_11 μ y1 y2 y3 y4 → V l γ X M (wM γ am μ ++ (r)) [some (.ref (am 0)), some (.int y1), some (.int y2), some (.int y3), none, none, none, none] 0 0 11 [.int y4] := by
    intro  y1 y2 y3 y4 hR
    unfold sp_X10_isAgainst_11 at hR
    refine r_istore 11 4 [some (.ref (am 0)), some (.int y1), some (.int y2), some (.int y3), some (.int y4), none, none, none] K (dk_of tX10_isAgainst_0 5 rfl) rfl rfl (by decide) ?_
    refine r_iload_n 13 3 K (dk_of tX10_isAgainst_0 6 rfl) rfl rfl ?_
    refine r_case hR (fun c14_1 hR => ?_) (fun c14_1 hR => ?_)
    · refine r_tswIn 14 44 K (v := 1) c14_1 (dk_of tX10_isAgainst_0 7 rfl) (by decide) (by decide) rfl (by decide) ?_
      refine r_iload_n 44 2 K (dk_of tX10_isAgainst_0 8 rfl) rfl rfl ?_
      refine r_if_ne 45 67 K (dk_of tX10_isAgainst_0 9 rfl) (by decide) hR (fun hR => ?_) (fun hR => ?_)
      · refine r_aload_n 48 0 K (dk_of tX10_isAgainst_0 10 rfl) rfl rfl ?_
        refine r_getf (C := RX10) (T := TX10) (N := 29) 49 0 3 K (dk_of tX10_isAgainst_0 11 rfl) w1031 gwX10 rfl rfl (by decide) rfl ?_
        refine r_iload_n 52 1 K (dk_of tX10_isAgainst_0 12 rfl) rfl rfl ?_
        refine r_ialdR 53 4 K (dk_of tX10_isAgainst_0 13 rfl) rfl hR (fun hR => ?_)
        refine r_bipush 54 (10 : Int32) K (dk_of tX10_isAgainst_0 14 rfl) (by decide) ?_
        refine r_ic_ge 56 63 K (dk_of tX10_isAgainst_0 15 rfl) (by decide) hR (fun hR => ?_) (fun hR => ?_)
        · refine r_iconst 63 (0 : Int32) K (dk_of tX10_isAgainst_0 18 rfl) (by decide) ?_
          refine r_goto 64 85 K (dk_of tX10_isAgainst_0 19 rfl) (by decide) ?_
          exact r_zret 85 K hQ (dk_of tX10_isAgainst_0 31 rfl) zb0 (Nat.zero_le _) (Nat.zero_le _) (lfi0 hR)
        · refine r_iconst 59 (1 : Int32) K (dk_of tX10_isAgainst_0 16 rfl) (by decide) ?_
          refine r_goto 60 85 K (dk_of tX10_isAgainst_0 17 rfl) (by decide) ?_
          exact r_zret 85 K hQ (dk_of tX10_isAgainst_0 31 rfl) zb1 (Nat.zero_le _) (Nat.zero_le _) (lfi0 hR)
      · refine r_aload_n 67 0 K (dk_of tX10_isAgainst_0 20 rfl) rfl rfl ?_
        refine r_getf (C := RX10) (T := TX10) (N := 29) 68 0 0 K (dk_of tX10_isAgainst_0 21 rfl) w1028 gwX10 rfl rfl (by decide) rfl ?_
        refine r_iconst 71 (0 : Int32) K (dk_of tX10_isAgainst_0 22 rfl) (by decide) ?_
        refine r_iload_n 72 1 K (dk_of tX10_isAgainst_0 23 rfl) rfl rfl ?_
        refine r_iadd 73 K (dk_of tX10_isAgainst_0 24 rfl) ?_
        refine r_ialdR 74 1 K (dk_of tX10_isAgainst_0 25 rfl) rfl hR (fun hR => ?_)
        refine r_bipush 75 (100 : Int32) K (dk_of tX10_isAgainst_0 26 rfl) (by decide) ?_
        refine r_ic_ge 77 84 K (dk_of tX10_isAgainst_0 27 rfl) (by decide) hR (fun hR => ?_) (fun hR => ?_)
        · refine r_iconst 84 (0 : Int32) K (dk_of tX10_isAgainst_0 30 rfl) (by decide) ?_
          exact r_zret 85 K hQ (dk_of tX10_isAgainst_0 31 rfl) zb0 (Nat.zero_le _) (Nat.zero_le _) (lfi0 hR)
        · refine r_iconst 80 (1 : Int32) K (dk_of tX10_isAgainst_0 28 rfl) (by decide) ?_
          refine r_goto 81 85 K (dk_of tX10_isAgainst_0 29 rfl) (by decide) ?_
          exact r_zret 85 K hQ (dk_of tX10_isAgainst_0 31 rfl) zb1 (Nat.zero_le _) (Nat.zero_le _) (lfi0 hR)
    · refine r_case hR (fun c14_2 hR => ?_) (fun c14_2 hR => ?_)
      · refine r_tswIn 14 86 K (v := 2) c14_2 (dk_of tX10_isAgainst_0 7 rfl) (by decide) (by decide) rfl (by decide) ?_
        refine r_aload_n 86 0 K (dk_of tX10_isAgainst_0 32 rfl) rfl rfl ?_
        refine r_getf (C := RX10) (T := TX10) (N := 29) 87 0 0 K (dk_of tX10_isAgainst_0 33 rfl) w1028 gwX10 rfl rfl (by decide) rfl ?_
        refine r_sipush 90 (170 : Int32) K (dk_of tX10_isAgainst_0 34 rfl) (by decide) ?_
        refine r_iald 93 1 K (dk_of tX10_isAgainst_0 35 rfl) rfl (vpd (by decide)) ?_
        refine r_iconst 94 (-1) K (dk_of tX10_isAgainst_0 36 rfl) (by decide) ?_
        refine r_ic_eq 95 120 K (dk_of tX10_isAgainst_0 37 rfl) (by decide) hR (fun hR => ?_) (fun hR => ?_)
        · refine r_iconst 120 (1 : Int32) K (dk_of tX10_isAgainst_0 49 rfl) (by decide) ?_
          refine r_goto 121 125 K (dk_of tX10_isAgainst_0 50 rfl) (by decide) ?_
          exact r_zret 125 K hQ (dk_of tX10_isAgainst_0 52 rfl) zb1 (Nat.zero_le _) (Nat.zero_le _) (lfi0 hR)
        · refine r_aload_n 98 0 K (dk_of tX10_isAgainst_0 38 rfl) rfl rfl ?_
          refine r_getf (C := RX10) (T := TX10) (N := 29) 99 0 0 K (dk_of tX10_isAgainst_0 39 rfl) w1028 gwX10 rfl rfl (by decide) rfl ?_
          refine r_sipush 102 (168 : Int32) K (dk_of tX10_isAgainst_0 40 rfl) (by decide) ?_
          refine r_iald 105 1 K (dk_of tX10_isAgainst_0 41 rfl) rfl (vpd (by decide)) ?_
          refine r_aload_n 106 0 K (dk_of tX10_isAgainst_0 42 rfl) rfl rfl ?_
          refine r_getf (C := RX10) (T := TX10) (N := 29) 107 0 0 K (dk_of tX10_isAgainst_0 43 rfl) w1028 gwX10 rfl rfl (by decide) rfl ?_
          refine r_sipush 110 (170 : Int32) K (dk_of tX10_isAgainst_0 44 rfl) (by decide) ?_
          refine r_iald 113 1 K (dk_of tX10_isAgainst_0 45 rfl) rfl (vpd (by decide)) ?_
          refine r_isub 114 K (dk_of tX10_isAgainst_0 46 rfl) ?_
          refine r_iload 115 4 K (dk_of tX10_isAgainst_0 47 rfl) rfl ?_
          refine r_ic_le 117 124 K (dk_of tX10_isAgainst_0 48 rfl) (by decide) hR (fun hR => ?_) (fun hR => ?_)
          · refine r_iconst 124 (0 : Int32) K (dk_of tX10_isAgainst_0 51 rfl) (by decide) ?_
            exact r_zret 125 K hQ (dk_of tX10_isAgainst_0 52 rfl) zb0 (Nat.zero_le _) (Nat.zero_le _) (lfi0 hR)
          · refine r_iconst 120 (1 : Int32) K (dk_of tX10_isAgainst_0 49 rfl) (by decide) ?_
            refine r_goto 121 125 K (dk_of tX10_isAgainst_0 50 rfl) (by decide) ?_
            exact r_zret 125 K hQ (dk_of tX10_isAgainst_0 52 rfl) zb1 (Nat.zero_le _) (Nat.zero_le _) (lfi0 hR)
      · refine r_case hR (fun c14_3 hR => ?_) (fun c14_3 hR => ?_)
        · refine r_tswIn 14 126 K (v := 3) c14_3 (dk_of tX10_isAgainst_0 7 rfl) (by decide) (by decide) rfl (by decide) ?_
          refine r_aload_n 126 0 K (dk_of tX10_isAgainst_0 53 rfl) rfl rfl ?_
          refine r_getf (C := RX10) (T := TX10) (N := 29) 127 0 0 K (dk_of tX10_isAgainst_0 54 rfl) w1028 gwX10 rfl rfl (by decide) rfl ?_
          refine r_bipush 130 (24 : Int32) K (dk_of tX10_isAgainst_0 55 rfl) (by decide) ?_
          refine r_iload_n 132 1 K (dk_of tX10_isAgainst_0 56 rfl) rfl rfl ?_
          refine r_iadd 133 K (dk_of tX10_isAgainst_0 57 rfl) ?_
          refine r_ialdR 134 1 K (dk_of tX10_isAgainst_0 58 rfl) rfl hR (fun hR => ?_)
          refine r_aload_n 135 0 K (dk_of tX10_isAgainst_0 59 rfl) rfl rfl ?_
          refine r_getf (C := RX10) (T := TX10) (N := 29) 136 0 0 K (dk_of tX10_isAgainst_0 60 rfl) w1028 gwX10 rfl rfl (by decide) rfl ?_
          refine r_iconst 139 (0 : Int32) K (dk_of tX10_isAgainst_0 61 rfl) (by decide) ?_
          refine r_iload_n 140 1 K (dk_of tX10_isAgainst_0 62 rfl) rfl rfl ?_
          refine r_iadd 141 K (dk_of tX10_isAgainst_0 63 rfl) ?_
          refine r_ialdR 142 1 K (dk_of tX10_isAgainst_0 64 rfl) rfl hR (fun hR => ?_)
          refine r_ic_le 143 150 K (dk_of tX10_isAgainst_0 65 rfl) (by decide) hR (fun hR => ?_) (fun hR => ?_)
          · refine r_iconst 150 (0 : Int32) K (dk_of tX10_isAgainst_0 68 rfl) (by decide) ?_
            exact r_zret 151 K hQ (dk_of tX10_isAgainst_0 69 rfl) zb0 (Nat.zero_le _) (Nat.zero_le _) (lfi0 hR)
          · refine r_iconst 146 (1 : Int32) K (dk_of tX10_isAgainst_0 66 rfl) (by decide) ?_
            refine r_goto 147 151 K (dk_of tX10_isAgainst_0 67 rfl) (by decide) ?_
            exact r_zret 151 K hQ (dk_of tX10_isAgainst_0 69 rfl) zb1 (Nat.zero_le _) (Nat.zero_le _) (lfi0 hR)
        · refine r_case hR (fun c14_4 hR => ?_) (fun c14_4 hR => ?_)
          · refine r_tswIn 14 152 K (v := 4) c14_4 (dk_of tX10_isAgainst_0 7 rfl) (by decide) (by decide) rfl (by decide) ?_
            refine r_iload_n 152 2 K (dk_of tX10_isAgainst_0 70 rfl) rfl rfl ?_
            refine r_if_ne 153 172 K (dk_of tX10_isAgainst_0 71 rfl) (by decide) hR (fun hR => ?_) (fun hR => ?_)
            · refine r_aload_n 156 0 K (dk_of tX10_isAgainst_0 72 rfl) rfl rfl ?_
              refine r_getf (C := RX10) (T := TX10) (N := 29) 157 0 6 K (dk_of tX10_isAgainst_0 73 rfl) w1034 gwX10 rfl rfl (by decide) rfl ?_
              refine r_iconst 160 (2 : Int32) K (dk_of tX10_isAgainst_0 74 rfl) (by decide) ?_
              refine r_ic_ge 161 168 K (dk_of tX10_isAgainst_0 75 rfl) (by decide) hR (fun hR => ?_) (fun hR => ?_)
              · refine r_iconst 168 (0 : Int32) K (dk_of tX10_isAgainst_0 78 rfl) (by decide) ?_
                refine r_goto 169 185 K (dk_of tX10_isAgainst_0 79 rfl) (by decide) ?_
                exact r_zret 185 K hQ (dk_of tX10_isAgainst_0 87 rfl) zb0 (Nat.zero_le _) (Nat.zero_le _) (lfi0 hR)
              · refine r_iconst 164 (1 : Int32) K (dk_of tX10_isAgainst_0 76 rfl) (by decide) ?_
                refine r_goto 165 185 K (dk_of tX10_isAgainst_0 77 rfl) (by decide) ?_
                exact r_zret 185 K hQ (dk_of tX10_isAgainst_0 87 rfl) zb1 (Nat.zero_le _) (Nat.zero_le _) (lfi0 hR)
            · refine r_aload_n 172 0 K (dk_of tX10_isAgainst_0 80 rfl) rfl rfl ?_
              refine r_getf (C := RX10) (T := TX10) (N := 29) 173 0 6 K (dk_of tX10_isAgainst_0 81 rfl) w1034 gwX10 rfl rfl (by decide) rfl ?_
              refine r_iconst 176 (5 : Int32) K (dk_of tX10_isAgainst_0 82 rfl) (by decide) ?_
              refine r_ic_le 177 184 K (dk_of tX10_isAgainst_0 83 rfl) (by decide) hR (fun hR => ?_) (fun hR => ?_)
              · refine r_iconst 184 (0 : Int32) K (dk_of tX10_isAgainst_0 86 rfl) (by decide) ?_
                exact r_zret 185 K hQ (dk_of tX10_isAgainst_0 87 rfl) zb0 (Nat.zero_le _) (Nat.zero_le _) (lfi0 hR)
              · refine r_iconst 180 (1 : Int32) K (dk_of tX10_isAgainst_0 84 rfl) (by decide) ?_
                refine r_goto 181 185 K (dk_of tX10_isAgainst_0 85 rfl) (by decide) ?_
                exact r_zret 185 K hQ (dk_of tX10_isAgainst_0 87 rfl) zb1 (Nat.zero_le _) (Nat.zero_le _) (lfi0 hR)
          · refine r_tswOut 14 186 K (dk_of tX10_isAgainst_0 7 rfl) (by have e0 := i32_ne (1) c14_1 (by decide); have e1 := i32_ne (2) c14_2 (by decide); have e2 := i32_ne (3) c14_3 (by decide); have e3 := i32_ne (4) c14_4 (by decide); omega) (by decide) ?_
            refine r_iconst 186 (0 : Int32) K (dk_of tX10_isAgainst_0 88 rfl) (by decide) ?_
            refine r_istore 187 5 [some (.ref (am 0)), some (.int y1), some (.int y2), some (.int y3), some (.int y4), some (.int (0 : Int32)), none, none] K (dk_of tX10_isAgainst_0 89 rfl) rfl rfl (by decide) ?_
            refine r_iconst 189 (0 : Int32) K (dk_of tX10_isAgainst_0 90 rfl) (by decide) ?_
            refine r_istore 190 6 [some (.ref (am 0)), some (.int y1), some (.int y2), some (.int y3), some (.int y4), some (.int (0 : Int32)), some (.int (0 : Int32)), none] K (dk_of tX10_isAgainst_0 91 rfl) rfl rfl (by decide) ?_
            exact r_msk [true, true, true, false, false, true, true, true] [some (.ref (am 0)), some (.int y1), some (.int y2), none, none, some (.int (0 : Int32)), some (.int (0 : Int32)), none] rfl (b192 y1 y2 200 (0 : Int32) (0 : Int32) hR)
  refine r_iload_n 0 2 K (dk_of tX10_isAgainst_0 0 rfl) rfl rfl ?_
  refine r_if_ne 1 9 K (dk_of tX10_isAgainst_0 1 rfl) (by decide) hR (fun hR => ?_) (fun hR => ?_)
  · refine r_bipush 4 (72 : Int32) K (dk_of tX10_isAgainst_0 2 rfl) (by decide) ?_
    refine r_goto 6 11 K (dk_of tX10_isAgainst_0 3 rfl) (by decide) ?_
    exact b11 p1 p2 p3 (72 : Int32) hR
  · refine r_bipush 9 (24 : Int32) K (dk_of tX10_isAgainst_0 4 rfl) (by decide) ?_
    exact b11 p1 p2 p3 (24 : Int32) hR

def sp_X10_rules_12 (μ : St) (y1 : Int32) (y2 : Int32) (y3 : Int32) : Nat → Int32 → Int32 → Int32 → Int32 → Option (Int32)
  | 0, _, _, _, _ => none
  | n + 1, y4, y5, y6, y7 => if (6 : Int32) ≤ y7 then (if y3 = 0 then (some y4) else (if y3 = (1 : Int32) then (some y5) else (some y6))) else (b1 (sp_X10_isAgainst y1 y2 y7 μ) (fun (x8 : Int32) => if x8 = 0 then (sp_X10_rules_12 μ y1 y2 y3 n y4 y5 y6 (y7 + 1)) else (if y4 = 0 then (sp_X10_rules_12 μ y1 y2 y3 n y7 y7 (y6 + 1) (y7 + 1)) else (sp_X10_rules_12 μ y1 y2 y3 n y4 y7 (y6 + 1) (y7 + 1)))))
def sp_X10_rules (p1 : Int32) (p2 : Int32) (p3 : Int32) (μ : St) : Option (Int32) := sp_X10_rules_12 μ p1 p2 p3 200 (0 : Int32) (0 : Int32) (0 : Int32) (1 : Int32)
set_option maxHeartbeats 4000000 in
set_option maxRecDepth 100000 in
theorem ct_X10_rules {l : Launch} (hl : l.stackTraces = false) {γ : Gd} {am : Nat → Nat} {μ : St} {r : va_W} {p1 : Int32} {p2 : Int32} {p3 : Int32} {x0 : Int32} (hR : some x0 = sp_X10_rules p1 p2 p3 μ) : Ct l γ yX10_rules (Cond.code yX10_rules cX10_rules 8 (some .int)) ({ frames := 4, cells := 0, slots := 0, locals := 91 } : Room) [.ref (am 0), .int p1, .int p2, .int p3] (wM γ am μ ++ (r)) (Pr (some (.int x0)) (wM γ am μ ++ (r))) 0 0 := by
  refine Ct_of hl (by decide +kernel) rfl (Nat.le_of_ble_eq_true rfl) (L := [some (.ref (am 0)), some (.int p1), some (.int p2), some (.int p3), none, none, none, none]) rfl ?_
  intro X Q K hQ
  generalize ((wM γ am μ ++ (r), Q) : MX) = M at K hQ ⊢
  unfold sp_X10_rules at hR
  have b12 : ∀ (y1 : Int32) (y2 : Int32) (y3 : Int32) (n : Nat) (y4 : Int32) (y5 : Int32) (y6 : Int32) (y7 : Int32), some x0 = sp_X10_rules_12 μ y1 y2 y3 n y4 y5 y6 y7 → V l γ X M (wM γ am μ ++ (r)) [some (.ref (am 0)), some (.int y1), some (.int y2), some (.int y3), some (.int y4), some (.int y5), some (.int y6), some (.int y7)] 0 0 12 [] := by
    intro y1 y2 y3 n
    induction n with
    | zero => intro y4 y5 y6 y7 hR; exact nn_ hR
    | succ n ih12 =>
      intro y4 y5 y6 y7 hR
      rw [sp_X10_rules_12] at hR
      refine r_iload 12 7 K (dk_of tX10_rules 8 rfl) rfl ?_
      refine r_bipush 14 (6 : Int32) K (dk_of tX10_rules 9 rfl) (by decide) ?_
      refine r_ic_ge 16 57 K (dk_of tX10_rules 10 rfl) (by decide) hR (fun hR => ?_) (fun hR => ?_)
      · refine r_iload_n 57 3 K (dk_of tX10_rules 28 rfl) rfl rfl ?_
        refine r_if_ne 58 66 K (dk_of tX10_rules 29 rfl) (by decide) hR (fun hR => ?_) (fun hR => ?_)
        · refine r_iload 61 4 K (dk_of tX10_rules 30 rfl) rfl ?_
          refine r_goto 63 78 K (dk_of tX10_rules 31 rfl) (by decide) ?_
          exact r_iret 78 K hQ (dk_of tX10_rules 38 rfl) (Nat.zero_le _) (Nat.zero_le _) (lfi0 hR)
        · refine r_iload_n 66 3 K (dk_of tX10_rules 32 rfl) rfl rfl ?_
          refine r_iconst 67 (1 : Int32) K (dk_of tX10_rules 33 rfl) (by decide) ?_
          refine r_ic_ne 68 76 K (dk_of tX10_rules 34 rfl) (by decide) hR (fun hR => ?_) (fun hR => ?_)
          · refine r_iload 71 5 K (dk_of tX10_rules 35 rfl) rfl ?_
            refine r_goto 73 78 K (dk_of tX10_rules 36 rfl) (by decide) ?_
            exact r_iret 78 K hQ (dk_of tX10_rules 38 rfl) (Nat.zero_le _) (Nat.zero_le _) (lfi0 hR)
          · refine r_iload 76 6 K (dk_of tX10_rules 37 rfl) rfl ?_
            exact r_iret 78 K hQ (dk_of tX10_rules 38 rfl) (Nat.zero_le _) (Nat.zero_le _) (lfi0 hR)
      · refine r_aload_n 19 0 K (dk_of tX10_rules 11 rfl) rfl rfl ?_
        refine r_iload_n 20 1 K (dk_of tX10_rules 12 rfl) rfl rfl ?_
        refine r_iload_n 21 2 K (dk_of tX10_rules 13 rfl) rfl rfl ?_
        refine r_iload 22 7 K (dk_of tX10_rules 14 rfl) rfl ?_
        obtain ⟨x8, hc, hR⟩ := o1 hR
        refine r_cVi 24 0 [.int y1, .int y2, .int y7] [] x8 (wM γ am μ ++ (r)) K (ct_X10_isAgainst hl hc.symm) cs_X10_152 ⟨rfl, rfl, rfl⟩ (dk_of tX10_rules 15 rfl) rfl rfl rfl rfl rfl rfl ?_
        refine r_if_eq 27 51 K (dk_of tX10_rules 16 rfl) (by decide) hR (fun hR => ?_) (fun hR => ?_)
        · refine r_iinc 51 7 (y7 + 1) [some (.ref (am 0)), some (.int y1), some (.int y2), some (.int y3), some (.int y4), some (.int y5), some (.int y6), some (.int (y7 + 1))] K (dk_of tX10_rules 26 rfl) rfl rfl rfl rfl (by decide) ?_
          refine r_goto 54 12 K (dk_of tX10_rules 27 rfl) (by decide) ?_
          exact ih12 y4 y5 y6 (y7 + 1) hR
        · refine r_iload 30 4 K (dk_of tX10_rules 17 rfl) rfl ?_
          refine r_if_ne 32 40 K (dk_of tX10_rules 18 rfl) (by decide) hR (fun hR => ?_) (fun hR => ?_)
          · refine r_iload 35 7 K (dk_of tX10_rules 19 rfl) rfl ?_
            refine r_goto 37 42 K (dk_of tX10_rules 20 rfl) (by decide) ?_
            refine r_istore 42 4 [some (.ref (am 0)), some (.int y1), some (.int y2), some (.int y3), some (.int y7), some (.int y5), some (.int y6), some (.int y7)] K (dk_of tX10_rules 22 rfl) rfl rfl (by decide) ?_
            refine r_iload 44 7 K (dk_of tX10_rules 23 rfl) rfl ?_
            refine r_istore 46 5 [some (.ref (am 0)), some (.int y1), some (.int y2), some (.int y3), some (.int y7), some (.int y7), some (.int y6), some (.int y7)] K (dk_of tX10_rules 24 rfl) rfl rfl (by decide) ?_
            refine r_iinc 48 6 (y6 + 1) [some (.ref (am 0)), some (.int y1), some (.int y2), some (.int y3), some (.int y7), some (.int y7), some (.int (y6 + 1)), some (.int y7)] K (dk_of tX10_rules 25 rfl) rfl rfl rfl rfl (by decide) ?_
            refine r_iinc 51 7 (y7 + 1) [some (.ref (am 0)), some (.int y1), some (.int y2), some (.int y3), some (.int y7), some (.int y7), some (.int (y6 + 1)), some (.int (y7 + 1))] K (dk_of tX10_rules 26 rfl) rfl rfl rfl rfl (by decide) ?_
            refine r_goto 54 12 K (dk_of tX10_rules 27 rfl) (by decide) ?_
            exact ih12 y7 y7 (y6 + 1) (y7 + 1) hR
          · refine r_iload 40 4 K (dk_of tX10_rules 21 rfl) rfl ?_
            refine r_istore 42 4 [some (.ref (am 0)), some (.int y1), some (.int y2), some (.int y3), some (.int y4), some (.int y5), some (.int y6), some (.int y7)] K (dk_of tX10_rules 22 rfl) rfl rfl (by decide) ?_
            refine r_iload 44 7 K (dk_of tX10_rules 23 rfl) rfl ?_
            refine r_istore 46 5 [some (.ref (am 0)), some (.int y1), some (.int y2), some (.int y3), some (.int y4), some (.int y7), some (.int y6), some (.int y7)] K (dk_of tX10_rules 24 rfl) rfl rfl (by decide) ?_
            refine r_iinc 48 6 (y6 + 1) [some (.ref (am 0)), some (.int y1), some (.int y2), some (.int y3), some (.int y4), some (.int y7), some (.int (y6 + 1)), some (.int y7)] K (dk_of tX10_rules 25 rfl) rfl rfl rfl rfl (by decide) ?_
            refine r_iinc 51 7 (y7 + 1) [some (.ref (am 0)), some (.int y1), some (.int y2), some (.int y3), some (.int y4), some (.int y7), some (.int (y6 + 1)), some (.int (y7 + 1))] K (dk_of tX10_rules 26 rfl) rfl rfl rfl rfl (by decide) ?_
            refine r_goto 54 12 K (dk_of tX10_rules 27 rfl) (by decide) ?_
            exact ih12 y4 y7 (y6 + 1) (y7 + 1) hR
  refine r_iconst 0 (0 : Int32) K (dk_of tX10_rules 0 rfl) (by decide) ?_
  refine r_istore 1 4 [some (.ref (am 0)), some (.int p1), some (.int p2), some (.int p3), some (.int (0 : Int32)), none, none, none] K (dk_of tX10_rules 1 rfl) rfl rfl (by decide) ?_
  refine r_iconst 3 (0 : Int32) K (dk_of tX10_rules 2 rfl) (by decide) ?_
  refine r_istore 4 5 [some (.ref (am 0)), some (.int p1), some (.int p2), some (.int p3), some (.int (0 : Int32)), some (.int (0 : Int32)), none, none] K (dk_of tX10_rules 3 rfl) rfl rfl (by decide) ?_
  refine r_iconst 6 (0 : Int32) K (dk_of tX10_rules 4 rfl) (by decide) ?_
  refine r_istore 7 6 [some (.ref (am 0)), some (.int p1), some (.int p2), some (.int p3), some (.int (0 : Int32)), some (.int (0 : Int32)), some (.int (0 : Int32)), none] K (dk_of tX10_rules 5 rfl) rfl rfl (by decide) ?_
  refine r_iconst 9 (1 : Int32) K (dk_of tX10_rules 6 rfl) (by decide) ?_
  refine r_istore 10 7 [some (.ref (am 0)), some (.int p1), some (.int p2), some (.int p3), some (.int (0 : Int32)), some (.int (0 : Int32)), some (.int (0 : Int32)), some (.int (1 : Int32))] K (dk_of tX10_rules 7 rfl) rfl rfl (by decide) ?_
  exact b12 p1 p2 p3 200 (0 : Int32) (0 : Int32) (0 : Int32) (1 : Int32) hR

def sp_X10_use_139  (y25 : Int32) (y26 : Int32) (y27 : Int32) (μ28 : St) : Option (Int32 × St) := sl (stU μ28 0 19 (y26 + y27)) (fun μ29 : St => some (y25, μ29))
def sp_X10_use_120  (y19 : Int32) (y20 : Int32) (y21 : Int32) (y22 : Int32) (μ23 : St) : Option (Int32 × St) := sl (stU μ23 0 18 (y21 + y22)) (fun μ24 : St => if y19 = (1 : Int32) then (sp_X10_use_139 y20 (μ24 0 19) y20 μ24) else (sp_X10_use_139 y20 (μ24 0 19) (0 : Int32) μ24))
def sp_X10_use_93  (y14 : Int32) (y15 : Int32) (y16 : Int32) (μ17 : St) : Option (Int32 × St) := if ((0 : Int32) + y14) < 0 ∨ 174 ≤ ((0 : Int32) + y14).toNatClampNeg then none else (if ((0 : Int32) + y14) < 0 ∨ 174 ≤ ((0 : Int32) + y14).toNatClampNeg then none else (sl (stU μ17 1 ((0 : Int32) + y14).toNatClampNeg ((μ17 1 ((0 : Int32) + y14).toNatClampNeg) - y16)) (fun μ18 : St => if y15 = 0 then (sp_X10_use_120 y15 y16 (μ18 0 18) y16 μ18) else (sp_X10_use_120 y15 y16 (μ18 0 18) (0 : Int32) μ18))))
def sp_X10_use_55  (y8 : Int32) (y9 : Int32) (y10 : Int32) (μ11 : St) : Option (Int32 × St) := b2 (sp_X10_fails y10 (3 : Int32) μ11) (fun (x12 : Int32) (μ13 : St) => if x12 = 0 then (if y9 = 0 then (if ((0 : Int32) + y8) < 0 ∨ 174 ≤ ((0 : Int32) + y8).toNatClampNeg then none else (sp_X10_use_93 y8 y9 (μ13 1 ((0 : Int32) + y8).toNatClampNeg) μ13)) else (if ((0 : Int32) + y8) < 0 ∨ 174 ≤ ((0 : Int32) + y8).toNatClampNeg then none else (sp_X10_use_93 y8 y9 (((9 : Int32) * (μ13 1 ((0 : Int32) + y8).toNatClampNeg)) / (10 : Int32)) μ13))) else (some ((0 : Int32), μ13)))
def sp_X10_use_54  (y30 : Int32) (y31 : Int32) (μ32 : St) : Option (Int32 × St) := sp_X10_use_55 y30 y31 (0 : Int32) μ32
def sp_X10_use (p1 : Int32) (p2 : Int32) (μ : St) : Option (Int32 × St) := b1 (sp_X10_isCell p1) (fun (x1 : Int32) => b2 (sp_X10_fails x1 (1 : Int32) μ) (fun (x2 : Int32) (μ3 : St) => if x2 = 0 then (b1 (sp_X10_in p2 (0 : Int32) (1 : Int32)) (fun (x4 : Int32) => b2 (sp_X10_fails x4 (2 : Int32) μ3) (fun (x5 : Int32) (μ6 : St) => if x5 = 0 then (if p1 < 0 ∨ 24 ≤ p1.toNatClampNeg then none else (if (μ6 3 p1.toNatClampNeg) = 0 then (b1 (sp_X10_rules p1 p2 (2 : Int32) μ6) (fun (x7 : Int32) => if x7 = 0 then (sp_X10_use_55 p1 p2 (1 : Int32) μ6) else (sp_X10_use_54 p1 p2 μ6))) else (sp_X10_use_54 p1 p2 μ6))) else (some ((0 : Int32), μ6))))) else (some ((0 : Int32), μ3))))
set_option maxHeartbeats 4000000 in
set_option maxRecDepth 100000 in
theorem ct_X10_use {l : Launch} (hl : l.stackTraces = false) {γ : Gd} {am : Nat → Nat} {μ : St} {r : va_W} {p1 : Int32} {p2 : Int32} {x0 : Int32} {μ0 : St} (hR : some (x0, μ0) = sp_X10_use p1 p2 μ) : Ct l γ yX10_use (Cond.code yX10_use cX10_use 4 (some .int)) ({ frames := 5, cells := 0, slots := 0, locals := 118 } : Room) [.ref (am 0), .int p1, .int p2] (wM γ am μ ++ (r)) (Pr (some (.int x0)) (wM γ am μ0 ++ (r))) 0 0 := by
  refine Ct_of hl (by decide +kernel) rfl (Nat.le_of_ble_eq_true rfl) (L := [some (.ref (am 0)), some (.int p1), some (.int p2), none]) rfl ?_
  intro X Q K hQ
  generalize ((wM γ am μ ++ (r), Q) : MX) = M at K hQ ⊢
  unfold sp_X10_use at hR
  have b139 : ∀ (y25 : Int32) (y26 : Int32) (y27 : Int32) (μ28 : St), some (x0, μ0) = sp_X10_use_139  y25 y26 y27 μ28 → V l γ X M (wM γ am μ28 ++ (r)) [none, none, none, some (.int y25)] 0 0 139 [.int y27, .int y26, .ref (am 0)] := by
    intro  y25 y26 y27 μ28 hR
    unfold sp_X10_use_139 at hR
    refine r_iadd 139 K (dk_of tX10_use 87 rfl) ?_
    refine r_putf (C := RX10) (T := TX10) (N := 29) 140 0 19 K (dk_of tX10_use 88 rfl) w1047 gwX10 tyX10_ok nmX10 rfl rfl (by decide) rfl rfl rfl rfl (Nat.le_of_ble_eq_true rfl) sM_0_19 ?_
    refine r_nmS (fun μ29 : St => wM γ am μ29 ++ (r)) hR (fun μ29 hR => ?_)
    refine r_iload_n 143 3 K (dk_of tX10_use 89 rfl) rfl rfl ?_
    exact r_iret 144 K hQ (dk_of tX10_use 90 rfl) (Nat.zero_le _) (Nat.zero_le _) (lfi (fun u9 : St => wM γ am u9 ++ (r)) hR)
  have b120 : ∀ (y19 : Int32) (y20 : Int32) (y21 : Int32) (y22 : Int32) (μ23 : St), some (x0, μ0) = sp_X10_use_120  y19 y20 y21 y22 μ23 → V l γ X M (wM γ am μ23 ++ (r)) [some (.ref (am 0)), none, some (.int y19), some (.int y20)] 0 0 120 [.int y22, .int y21, .ref (am 0)] := by
    intro  y19 y20 y21 y22 μ23 hR
    unfold sp_X10_use_120 at hR
    refine r_iadd 120 K (dk_of tX10_use 76 rfl) ?_
    refine r_putf (C := RX10) (T := TX10) (N := 29) 121 0 18 K (dk_of tX10_use 77 rfl) w1046 gwX10 tyX10_ok nmX10 rfl rfl (by decide) rfl rfl rfl rfl (Nat.le_of_ble_eq_true rfl) sM_0_18 ?_
    refine r_nmS (fun μ24 : St => wM γ am μ24 ++ (r)) hR (fun μ24 hR => ?_)
    refine r_aload_n 124 0 K (dk_of tX10_use 78 rfl) rfl rfl ?_
    refine r_dup 125 K (dk_of tX10_use 79 rfl) rfl ?_
    refine r_getf (C := RX10) (T := TX10) (N := 29) 126 0 19 K (dk_of tX10_use 80 rfl) w1047 gwX10 rfl rfl (by decide) rfl ?_
    refine r_iload_n 129 2 K (dk_of tX10_use 81 rfl) rfl rfl ?_
    refine r_iconst 130 (1 : Int32) K (dk_of tX10_use 82 rfl) (by decide) ?_
    refine r_ic_ne 131 138 K (dk_of tX10_use 83 rfl) (by decide) hR (fun hR => ?_) (fun hR => ?_)
    · refine r_iload_n 134 3 K (dk_of tX10_use 84 rfl) rfl rfl ?_
      refine r_goto 135 139 K (dk_of tX10_use 85 rfl) (by decide) ?_
      exact r_msk [false, true, false, true] [none, none, none, some (.int y20)] rfl (b139 y20 (μ24 0 19) y20 μ24 hR)
    · refine r_iconst 138 (0 : Int32) K (dk_of tX10_use 86 rfl) (by decide) ?_
      exact r_msk [false, true, false, true] [none, none, none, some (.int y20)] rfl (b139 y20 (μ24 0 19) (0 : Int32) μ24 hR)
  have b93 : ∀ (y14 : Int32) (y15 : Int32) (y16 : Int32) (μ17 : St), some (x0, μ0) = sp_X10_use_93  y14 y15 y16 μ17 → V l γ X M (wM γ am μ17 ++ (r)) [some (.ref (am 0)), some (.int y14), some (.int y15), none] 0 0 93 [.int y16] := by
    intro  y14 y15 y16 μ17 hR
    unfold sp_X10_use_93 at hR
    refine r_istore_n 93 3 [some (.ref (am 0)), some (.int y14), some (.int y15), some (.int y16)] K (dk_of tX10_use 57 rfl) rfl rfl rfl (by decide) ?_
    refine r_aload_n 94 0 K (dk_of tX10_use 58 rfl) rfl rfl ?_
    refine r_getf (C := RX10) (T := TX10) (N := 29) 95 0 0 K (dk_of tX10_use 59 rfl) w1028 gwX10 rfl rfl (by decide) rfl ?_
    refine r_iconst 98 (0 : Int32) K (dk_of tX10_use 60 rfl) (by decide) ?_
    refine r_iload_n 99 1 K (dk_of tX10_use 61 rfl) rfl rfl ?_
    refine r_iadd 100 K (dk_of tX10_use 62 rfl) ?_
    refine r_dup2 101 K (dk_of tX10_use 63 rfl) rfl rfl ?_
    refine r_ialdR 102 1 K (dk_of tX10_use 64 rfl) rfl hR (fun hR => ?_)
    refine r_iload_n 103 3 K (dk_of tX10_use 65 rfl) rfl rfl ?_
    refine r_isub 104 K (dk_of tX10_use 66 rfl) ?_
    refine r_iastR 105 1 K (dk_of tX10_use 67 rfl) rfl sM_1 hR (fun hR => ?_)
    refine r_nmS (fun μ18 : St => wM γ am μ18 ++ (r)) hR (fun μ18 hR => ?_)
    refine r_aload_n 106 0 K (dk_of tX10_use 68 rfl) rfl rfl ?_
    refine r_dup 107 K (dk_of tX10_use 69 rfl) rfl ?_
    refine r_getf (C := RX10) (T := TX10) (N := 29) 108 0 18 K (dk_of tX10_use 70 rfl) w1046 gwX10 rfl rfl (by decide) rfl ?_
    refine r_iload_n 111 2 K (dk_of tX10_use 71 rfl) rfl rfl ?_
    refine r_if_ne 112 119 K (dk_of tX10_use 72 rfl) (by decide) hR (fun hR => ?_) (fun hR => ?_)
    · refine r_iload_n 115 3 K (dk_of tX10_use 73 rfl) rfl rfl ?_
      refine r_goto 116 120 K (dk_of tX10_use 74 rfl) (by decide) ?_
      exact r_msk [true, false, true, true] [some (.ref (am 0)), none, some (.int y15), some (.int y16)] rfl (b120 y15 y16 (μ18 0 18) y16 μ18 hR)
    · refine r_iconst 119 (0 : Int32) K (dk_of tX10_use 75 rfl) (by decide) ?_
      exact r_msk [true, false, true, true] [some (.ref (am 0)), none, some (.int y15), some (.int y16)] rfl (b120 y15 y16 (μ18 0 18) (0 : Int32) μ18 hR)
  have b55 : ∀ (y8 : Int32) (y9 : Int32) (y10 : Int32) (μ11 : St), some (x0, μ0) = sp_X10_use_55  y8 y9 y10 μ11 → V l γ X M (wM γ am μ11 ++ (r)) [some (.ref (am 0)), some (.int y8), some (.int y9), none] 0 0 55 [.int y10, .ref (am 0)] := by
    intro  y8 y9 y10 μ11 hR
    unfold sp_X10_use_55 at hR
    refine r_iconst 55 (3 : Int32) K (dk_of tX10_use 33 rfl) (by decide) ?_
    obtain ⟨x12, μ13, hc, hR⟩ := o2 hR
    refine r_cVi 56 0 [.int y10, .int (3 : Int32)] [] x12 (wM γ am μ13 ++ (r)) K (ct_X10_fails hl hc.symm) cs_X10_131 ⟨rfl, rfl, rfl⟩ (dk_of tX10_use 34 rfl) rfl rfl rfl rfl rfl rfl ?_
    refine r_if_eq 59 64 K (dk_of tX10_use 35 rfl) (by decide) hR (fun hR => ?_) (fun hR => ?_)
    · refine r_iload_n 64 2 K (dk_of tX10_use 38 rfl) rfl rfl ?_
      refine r_if_ne 65 79 K (dk_of tX10_use 39 rfl) (by decide) hR (fun hR => ?_) (fun hR => ?_)
      · refine r_aload_n 68 0 K (dk_of tX10_use 40 rfl) rfl rfl ?_
        refine r_getf (C := RX10) (T := TX10) (N := 29) 69 0 0 K (dk_of tX10_use 41 rfl) w1028 gwX10 rfl rfl (by decide) rfl ?_
        refine r_iconst 72 (0 : Int32) K (dk_of tX10_use 42 rfl) (by decide) ?_
        refine r_iload_n 73 1 K (dk_of tX10_use 43 rfl) rfl rfl ?_
        refine r_iadd 74 K (dk_of tX10_use 44 rfl) ?_
        refine r_ialdR 75 1 K (dk_of tX10_use 45 rfl) rfl hR (fun hR => ?_)
        refine r_goto 76 93 K (dk_of tX10_use 46 rfl) (by decide) ?_
        exact b93 y8 y9 (μ13 1 ((0 : Int32) + y8).toNatClampNeg) μ13 hR
      · refine r_bipush 79 (9 : Int32) K (dk_of tX10_use 47 rfl) (by decide) ?_
        refine r_aload_n 81 0 K (dk_of tX10_use 48 rfl) rfl rfl ?_
        refine r_getf (C := RX10) (T := TX10) (N := 29) 82 0 0 K (dk_of tX10_use 49 rfl) w1028 gwX10 rfl rfl (by decide) rfl ?_
        refine r_iconst 85 (0 : Int32) K (dk_of tX10_use 50 rfl) (by decide) ?_
        refine r_iload_n 86 1 K (dk_of tX10_use 51 rfl) rfl rfl ?_
        refine r_iadd 87 K (dk_of tX10_use 52 rfl) ?_
        refine r_ialdR 88 1 K (dk_of tX10_use 53 rfl) rfl hR (fun hR => ?_)
        refine r_imul 89 K (dk_of tX10_use 54 rfl) ?_
        refine r_bipush 90 (10 : Int32) K (dk_of tX10_use 55 rfl) (by decide) ?_
        refine r_idiv 92 K (dk_of tX10_use 56 rfl) (by decide) ?_
        exact b93 y8 y9 (((9 : Int32) * (μ13 1 ((0 : Int32) + y8).toNatClampNeg)) / (10 : Int32)) μ13 hR
    · refine r_iconst 62 (0 : Int32) K (dk_of tX10_use 36 rfl) (by decide) ?_
      exact r_iret 63 K hQ (dk_of tX10_use 37 rfl) (Nat.zero_le _) (Nat.zero_le _) (lfi (fun u9 : St => wM γ am u9 ++ (r)) hR)
  have b54 : ∀ (y30 : Int32) (y31 : Int32) (μ32 : St), some (x0, μ0) = sp_X10_use_54  y30 y31 μ32 → V l γ X M (wM γ am μ32 ++ (r)) [some (.ref (am 0)), some (.int y30), some (.int y31), none] 0 0 54 [.ref (am 0)] := by
    intro  y30 y31 μ32 hR
    unfold sp_X10_use_54 at hR
    refine r_iconst 54 (0 : Int32) K (dk_of tX10_use 32 rfl) (by decide) ?_
    exact b55 y30 y31 (0 : Int32) μ32 hR
  refine r_aload_n 0 0 K (dk_of tX10_use 0 rfl) rfl rfl ?_
  refine r_iload_n 1 1 K (dk_of tX10_use 1 rfl) rfl rfl ?_
  obtain ⟨x1, hc, hR⟩ := o1 hR
  refine r_cSi 2 [.int p1] [.ref (am 0)] x1 (wM γ am μ ++ (r)) K (ct_X10_isCell hl hc.symm) cs_X10_76 ⟨rfl, rfl, rfl⟩ (dk_of tX10_use 2 rfl) rfl rfl rfl rfl ?_
  refine r_iconst 5 (1 : Int32) K (dk_of tX10_use 3 rfl) (by decide) ?_
  obtain ⟨x2, μ3, hc, hR⟩ := o2 hR
  refine r_cVi 6 0 [.int x1, .int (1 : Int32)] [] x2 (wM γ am μ3 ++ (r)) K (ct_X10_fails hl hc.symm) cs_X10_131 ⟨rfl, rfl, rfl⟩ (dk_of tX10_use 4 rfl) rfl rfl rfl rfl rfl rfl ?_
  refine r_if_eq 9 14 K (dk_of tX10_use 5 rfl) (by decide) hR (fun hR => ?_) (fun hR => ?_)
  · refine r_aload_n 14 0 K (dk_of tX10_use 8 rfl) rfl rfl ?_
    refine r_iload_n 15 2 K (dk_of tX10_use 9 rfl) rfl rfl ?_
    refine r_iconst 16 (0 : Int32) K (dk_of tX10_use 10 rfl) (by decide) ?_
    refine r_iconst 17 (1 : Int32) K (dk_of tX10_use 11 rfl) (by decide) ?_
    obtain ⟨x4, hc, hR⟩ := o1 hR
    refine r_cSi 18 [.int p2, .int (0 : Int32), .int (1 : Int32)] [.ref (am 0)] x4 (wM γ am μ3 ++ (r)) K (ct_X10_in hl hc.symm) cs_X10_66 ⟨rfl, rfl, rfl⟩ (dk_of tX10_use 12 rfl) rfl rfl rfl rfl ?_
    refine r_iconst 21 (2 : Int32) K (dk_of tX10_use 13 rfl) (by decide) ?_
    obtain ⟨x5, μ6, hc, hR⟩ := o2 hR
    refine r_cVi 22 0 [.int x4, .int (2 : Int32)] [] x5 (wM γ am μ6 ++ (r)) K (ct_X10_fails hl hc.symm) cs_X10_131 ⟨rfl, rfl, rfl⟩ (dk_of tX10_use 14 rfl) rfl rfl rfl rfl rfl rfl ?_
    refine r_if_eq 25 30 K (dk_of tX10_use 15 rfl) (by decide) hR (fun hR => ?_) (fun hR => ?_)
    · refine r_aload_n 30 0 K (dk_of tX10_use 18 rfl) rfl rfl ?_
      refine r_aload_n 31 0 K (dk_of tX10_use 19 rfl) rfl rfl ?_
      refine r_getf (C := RX10) (T := TX10) (N := 29) 32 0 2 K (dk_of tX10_use 20 rfl) w1030 gwX10 rfl rfl (by decide) rfl ?_
      refine r_iload_n 35 1 K (dk_of tX10_use 21 rfl) rfl rfl ?_
      refine r_ialdR 36 3 K (dk_of tX10_use 22 rfl) rfl hR (fun hR => ?_)
      refine r_if_ne 37 54 K (dk_of tX10_use 23 rfl) (by decide) hR (fun hR => ?_) (fun hR => ?_)
      · refine r_aload_n 40 0 K (dk_of tX10_use 24 rfl) rfl rfl ?_
        refine r_iload_n 41 1 K (dk_of tX10_use 25 rfl) rfl rfl ?_
        refine r_iload_n 42 2 K (dk_of tX10_use 26 rfl) rfl rfl ?_
        refine r_iconst 43 (2 : Int32) K (dk_of tX10_use 27 rfl) (by decide) ?_
        obtain ⟨x7, hc, hR⟩ := o1 hR
        refine r_cVi 44 0 [.int p1, .int p2, .int (2 : Int32)] [.ref (am 0)] x7 (wM γ am μ6 ++ (r)) K (ct_X10_rules hl hc.symm) cs_X10_155 ⟨rfl, rfl, rfl⟩ (dk_of tX10_use 28 rfl) rfl rfl rfl rfl rfl rfl ?_
        refine r_if_ne 47 54 K (dk_of tX10_use 29 rfl) (by decide) hR (fun hR => ?_) (fun hR => ?_)
        · refine r_iconst 50 (1 : Int32) K (dk_of tX10_use 30 rfl) (by decide) ?_
          refine r_goto 51 55 K (dk_of tX10_use 31 rfl) (by decide) ?_
          exact b55 p1 p2 (1 : Int32) μ6 hR
        · exact b54 p1 p2 μ6 hR
      · exact b54 p1 p2 μ6 hR
    · refine r_iconst 28 (0 : Int32) K (dk_of tX10_use 16 rfl) (by decide) ?_
      exact r_iret 29 K hQ (dk_of tX10_use 17 rfl) (Nat.zero_le _) (Nat.zero_le _) (lfi (fun u9 : St => wM γ am u9 ++ (r)) hR)
  · refine r_iconst 12 (0 : Int32) K (dk_of tX10_use 6 rfl) (by decide) ?_
    exact r_iret 13 K hQ (dk_of tX10_use 7 rfl) (Nat.zero_le _) (Nat.zero_le _) (lfi (fun u9 : St => wM γ am u9 ++ (r)) hR)

def sp_X10_why_62  (y16 : Int32) (y17 : Int32) (y18 : Int32) (y19 : Int32) (μ20 : St) : Option (Int32 × St) := b2 (sp_X10_fails y19 (3 : Int32) μ20) (fun (x21 : Int32) (μ22 : St) => if x21 = 0 then (b1 (sp_X10_rules y16 y17 y18 μ22) (fun (x23 : Int32) => some (x23, μ22))) else (some ((0 : Int32), μ22)))
def sp_X10_why_38  (y9 : Int32) (y10 : Int32) (y11 : Int32) (y12 : Int32) (μ13 : St) : Option (Int32 × St) := b2 (sp_X10_fails y12 (2 : Int32) μ13) (fun (x14 : Int32) (μ15 : St) => if x14 = 0 then (if y9 < 0 ∨ 24 ≤ y9.toNatClampNeg then none else (if (μ15 3 y9.toNatClampNeg) = 0 then (sp_X10_why_62 y9 y10 y11 (1 : Int32) μ15) else (sp_X10_why_62 y9 y10 y11 (0 : Int32) μ15))) else (some ((0 : Int32), μ15)))
def sp_X10_why_37  (y5 : Int32) (y6 : Int32) (y7 : Int32) (μ8 : St) : Option (Int32 × St) := sp_X10_why_38 y5 y6 y7 (0 : Int32) μ8
def sp_X10_why (p1 : Int32) (p2 : Int32) (p3 : Int32) (μ : St) : Option (Int32 × St) := b1 (sp_X10_isCell p1) (fun (x1 : Int32) => b2 (sp_X10_fails x1 (1 : Int32) μ) (fun (x2 : Int32) (μ3 : St) => if x2 = 0 then (b1 (sp_X10_in p2 (0 : Int32) (1 : Int32)) (fun (x4 : Int32) => if x4 = 0 then (sp_X10_why_37 p1 p2 p3 μ3) else (b1 (sp_X10_in p3 (0 : Int32) (2 : Int32)) (fun (x24 : Int32) => if x24 = 0 then (sp_X10_why_37 p1 p2 p3 μ3) else (sp_X10_why_38 p1 p2 p3 (1 : Int32) μ3))))) else (some ((0 : Int32), μ3))))
set_option maxHeartbeats 4000000 in
set_option maxRecDepth 100000 in
theorem ct_X10_why {l : Launch} (hl : l.stackTraces = false) {γ : Gd} {am : Nat → Nat} {μ : St} {r : va_W} {p1 : Int32} {p2 : Int32} {p3 : Int32} {x0 : Int32} {μ0 : St} (hR : some (x0, μ0) = sp_X10_why p1 p2 p3 μ) : Ct l γ yX10_why (Cond.code yX10_why cX10_why 4 (some .int)) ({ frames := 5, cells := 0, slots := 0, locals := 118 } : Room) [.ref (am 0), .int p1, .int p2, .int p3] (wM γ am μ ++ (r)) (Pr (some (.int x0)) (wM γ am μ0 ++ (r))) 0 0 := by
  refine Ct_of hl (by decide +kernel) rfl (Nat.le_of_ble_eq_true rfl) (L := [some (.ref (am 0)), some (.int p1), some (.int p2), some (.int p3)]) rfl ?_
  intro X Q K hQ
  generalize ((wM γ am μ ++ (r), Q) : MX) = M at K hQ ⊢
  unfold sp_X10_why at hR
  have b62 : ∀ (y16 : Int32) (y17 : Int32) (y18 : Int32) (y19 : Int32) (μ20 : St), some (x0, μ0) = sp_X10_why_62  y16 y17 y18 y19 μ20 → V l γ X M (wM γ am μ20 ++ (r)) [some (.ref (am 0)), some (.int y16), some (.int y17), some (.int y18)] 0 0 62 [.int y19, .ref (am 0)] := by
    intro  y16 y17 y18 y19 μ20 hR
    unfold sp_X10_why_62 at hR
    refine r_iconst 62 (3 : Int32) K (dk_of tX10_why 36 rfl) (by decide) ?_
    obtain ⟨x21, μ22, hc, hR⟩ := o2 hR
    refine r_cVi 63 0 [.int y19, .int (3 : Int32)] [] x21 (wM γ am μ22 ++ (r)) K (ct_X10_fails hl hc.symm) cs_X10_131 ⟨rfl, rfl, rfl⟩ (dk_of tX10_why 37 rfl) rfl rfl rfl rfl rfl rfl ?_
    refine r_if_eq 66 71 K (dk_of tX10_why 38 rfl) (by decide) hR (fun hR => ?_) (fun hR => ?_)
    · refine r_aload_n 71 0 K (dk_of tX10_why 41 rfl) rfl rfl ?_
      refine r_iload_n 72 1 K (dk_of tX10_why 42 rfl) rfl rfl ?_
      refine r_iload_n 73 2 K (dk_of tX10_why 43 rfl) rfl rfl ?_
      refine r_iload_n 74 3 K (dk_of tX10_why 44 rfl) rfl rfl ?_
      obtain ⟨x23, hc, hR⟩ := o1 hR
      refine r_cVi 75 0 [.int y16, .int y17, .int y18] [] x23 (wM γ am μ22 ++ (r)) K (ct_X10_rules hl hc.symm) cs_X10_155 ⟨rfl, rfl, rfl⟩ (dk_of tX10_why 45 rfl) rfl rfl rfl rfl rfl rfl ?_
      exact r_iret 78 K hQ (dk_of tX10_why 46 rfl) (Nat.zero_le _) (Nat.zero_le _) (lfi (fun u9 : St => wM γ am u9 ++ (r)) hR)
    · refine r_iconst 69 (0 : Int32) K (dk_of tX10_why 39 rfl) (by decide) ?_
      exact r_iret 70 K hQ (dk_of tX10_why 40 rfl) (Nat.zero_le _) (Nat.zero_le _) (lfi (fun u9 : St => wM γ am u9 ++ (r)) hR)
  have b38 : ∀ (y9 : Int32) (y10 : Int32) (y11 : Int32) (y12 : Int32) (μ13 : St), some (x0, μ0) = sp_X10_why_38  y9 y10 y11 y12 μ13 → V l γ X M (wM γ am μ13 ++ (r)) [some (.ref (am 0)), some (.int y9), some (.int y10), some (.int y11)] 0 0 38 [.int y12, .ref (am 0)] := by
    intro  y9 y10 y11 y12 μ13 hR
    unfold sp_X10_why_38 at hR
    refine r_iconst 38 (2 : Int32) K (dk_of tX10_why 22 rfl) (by decide) ?_
    obtain ⟨x14, μ15, hc, hR⟩ := o2 hR
    refine r_cVi 39 0 [.int y12, .int (2 : Int32)] [] x14 (wM γ am μ15 ++ (r)) K (ct_X10_fails hl hc.symm) cs_X10_131 ⟨rfl, rfl, rfl⟩ (dk_of tX10_why 23 rfl) rfl rfl rfl rfl rfl rfl ?_
    refine r_if_eq 42 47 K (dk_of tX10_why 24 rfl) (by decide) hR (fun hR => ?_) (fun hR => ?_)
    · refine r_aload_n 47 0 K (dk_of tX10_why 27 rfl) rfl rfl ?_
      refine r_aload_n 48 0 K (dk_of tX10_why 28 rfl) rfl rfl ?_
      refine r_getf (C := RX10) (T := TX10) (N := 29) 49 0 2 K (dk_of tX10_why 29 rfl) w1030 gwX10 rfl rfl (by decide) rfl ?_
      refine r_iload_n 52 1 K (dk_of tX10_why 30 rfl) rfl rfl ?_
      refine r_ialdR 53 3 K (dk_of tX10_why 31 rfl) rfl hR (fun hR => ?_)
      refine r_if_ne 54 61 K (dk_of tX10_why 32 rfl) (by decide) hR (fun hR => ?_) (fun hR => ?_)
      · refine r_iconst 57 (1 : Int32) K (dk_of tX10_why 33 rfl) (by decide) ?_
        refine r_goto 58 62 K (dk_of tX10_why 34 rfl) (by decide) ?_
        exact b62 y9 y10 y11 (1 : Int32) μ15 hR
      · refine r_iconst 61 (0 : Int32) K (dk_of tX10_why 35 rfl) (by decide) ?_
        exact b62 y9 y10 y11 (0 : Int32) μ15 hR
    · refine r_iconst 45 (0 : Int32) K (dk_of tX10_why 25 rfl) (by decide) ?_
      exact r_iret 46 K hQ (dk_of tX10_why 26 rfl) (Nat.zero_le _) (Nat.zero_le _) (lfi (fun u9 : St => wM γ am u9 ++ (r)) hR)
  have b37 : ∀ (y5 : Int32) (y6 : Int32) (y7 : Int32) (μ8 : St), some (x0, μ0) = sp_X10_why_37  y5 y6 y7 μ8 → V l γ X M (wM γ am μ8 ++ (r)) [some (.ref (am 0)), some (.int y5), some (.int y6), some (.int y7)] 0 0 37 [.ref (am 0)] := by
    intro  y5 y6 y7 μ8 hR
    unfold sp_X10_why_37 at hR
    refine r_iconst 37 (0 : Int32) K (dk_of tX10_why 21 rfl) (by decide) ?_
    exact b38 y5 y6 y7 (0 : Int32) μ8 hR
  refine r_aload_n 0 0 K (dk_of tX10_why 0 rfl) rfl rfl ?_
  refine r_iload_n 1 1 K (dk_of tX10_why 1 rfl) rfl rfl ?_
  obtain ⟨x1, hc, hR⟩ := o1 hR
  refine r_cSi 2 [.int p1] [.ref (am 0)] x1 (wM γ am μ ++ (r)) K (ct_X10_isCell hl hc.symm) cs_X10_76 ⟨rfl, rfl, rfl⟩ (dk_of tX10_why 2 rfl) rfl rfl rfl rfl ?_
  refine r_iconst 5 (1 : Int32) K (dk_of tX10_why 3 rfl) (by decide) ?_
  obtain ⟨x2, μ3, hc, hR⟩ := o2 hR
  refine r_cVi 6 0 [.int x1, .int (1 : Int32)] [] x2 (wM γ am μ3 ++ (r)) K (ct_X10_fails hl hc.symm) cs_X10_131 ⟨rfl, rfl, rfl⟩ (dk_of tX10_why 4 rfl) rfl rfl rfl rfl rfl rfl ?_
  refine r_if_eq 9 14 K (dk_of tX10_why 5 rfl) (by decide) hR (fun hR => ?_) (fun hR => ?_)
  · refine r_aload_n 14 0 K (dk_of tX10_why 8 rfl) rfl rfl ?_
    refine r_iload_n 15 2 K (dk_of tX10_why 9 rfl) rfl rfl ?_
    refine r_iconst 16 (0 : Int32) K (dk_of tX10_why 10 rfl) (by decide) ?_
    refine r_iconst 17 (1 : Int32) K (dk_of tX10_why 11 rfl) (by decide) ?_
    obtain ⟨x4, hc, hR⟩ := o1 hR
    refine r_cSi 18 [.int p2, .int (0 : Int32), .int (1 : Int32)] [.ref (am 0)] x4 (wM γ am μ3 ++ (r)) K (ct_X10_in hl hc.symm) cs_X10_66 ⟨rfl, rfl, rfl⟩ (dk_of tX10_why 12 rfl) rfl rfl rfl rfl ?_
    refine r_if_eq 21 37 K (dk_of tX10_why 13 rfl) (by decide) hR (fun hR => ?_) (fun hR => ?_)
    · exact b37 p1 p2 p3 μ3 hR
    · refine r_iload_n 24 3 K (dk_of tX10_why 14 rfl) rfl rfl ?_
      refine r_iconst 25 (0 : Int32) K (dk_of tX10_why 15 rfl) (by decide) ?_
      refine r_iconst 26 (2 : Int32) K (dk_of tX10_why 16 rfl) (by decide) ?_
      obtain ⟨x24, hc, hR⟩ := o1 hR
      refine r_cSi 27 [.int p3, .int (0 : Int32), .int (2 : Int32)] [.ref (am 0)] x24 (wM γ am μ3 ++ (r)) K (ct_X10_in hl hc.symm) cs_X10_66 ⟨rfl, rfl, rfl⟩ (dk_of tX10_why 17 rfl) rfl rfl rfl rfl ?_
      refine r_if_eq 30 37 K (dk_of tX10_why 18 rfl) (by decide) hR (fun hR => ?_) (fun hR => ?_)
      · exact b37 p1 p2 p3 μ3 hR
      · refine r_iconst 33 (1 : Int32) K (dk_of tX10_why 19 rfl) (by decide) ?_
        refine r_goto 34 38 K (dk_of tX10_why 20 rfl) (by decide) ?_
        exact b38 p1 p2 p3 (1 : Int32) μ3 hR
  · refine r_iconst 12 (0 : Int32) K (dk_of tX10_why 6 rfl) (by decide) ?_
    exact r_iret 13 K hQ (dk_of tX10_why 7 rfl) (Nat.zero_le _) (Nat.zero_le _) (lfi (fun u9 : St => wM γ am u9 ++ (r)) hR)

def sp_X10_birds_63  (y10 : Int32) (y11 : Int32) (y12 : Int32) (μ13 : St) : Option (Int32 × St) := b2 (sp_X10_fails y12 (3 : Int32) μ13) (fun (x14 : Int32) (μ15 : St) => if x14 = 0 then (if ((72 : Int32) + y10) < 0 ∨ 174 ≤ ((72 : Int32) + y10).toNatClampNeg then none else (if ((72 : Int32) + y10) < 0 ∨ 174 ≤ ((72 : Int32) + y10).toNatClampNeg then none else (sl (stU μ15 1 ((72 : Int32) + y10).toNatClampNeg ((μ15 1 ((72 : Int32) + y10).toNatClampNeg) + y11)) (fun μ16 : St => if ((72 : Int32) + y10) < 0 ∨ 174 ≤ ((72 : Int32) + y10).toNatClampNeg then none else (some ((μ16 1 ((72 : Int32) + y10).toNatClampNeg), μ16)))))) else (some ((0 : Int32), μ15)))
def sp_X10_birds_62  (y7 : Int32) (y8 : Int32) (μ9 : St) : Option (Int32 × St) := sp_X10_birds_63 y7 y8 (0 : Int32) μ9
def sp_X10_birds (p1 : Int32) (p2 : Int32) (μ : St) : Option (Int32 × St) := b1 (sp_X10_isCell p1) (fun (x1 : Int32) => b2 (sp_X10_fails x1 (1 : Int32) μ) (fun (x2 : Int32) (μ3 : St) => if x2 = 0 then (b1 (sp_X10_in p2 (1 : Int32) (100 : Int32)) (fun (x4 : Int32) => b2 (sp_X10_fails x4 (2 : Int32) μ3) (fun (x5 : Int32) (μ6 : St) => if x5 = 0 then (if p1 < 0 ∨ 24 ≤ p1.toNatClampNeg then none else (if (μ6 3 p1.toNatClampNeg) = 0 then (sp_X10_birds_62 p1 p2 μ6) else (if ((72 : Int32) + p1) < 0 ∨ 174 ≤ ((72 : Int32) + p1).toNatClampNeg then none else (if (1000 : Int32) < ((μ6 1 ((72 : Int32) + p1).toNatClampNeg) + p2) then (sp_X10_birds_62 p1 p2 μ6) else (sp_X10_birds_63 p1 p2 (1 : Int32) μ6))))) else (some ((0 : Int32), μ6))))) else (some ((0 : Int32), μ3))))
set_option maxHeartbeats 4000000 in
set_option maxRecDepth 100000 in
theorem ct_X10_birds {l : Launch} (hl : l.stackTraces = false) {γ : Gd} {am : Nat → Nat} {μ : St} {r : va_W} {p1 : Int32} {p2 : Int32} {x0 : Int32} {μ0 : St} (hR : some (x0, μ0) = sp_X10_birds p1 p2 μ) : Ct l γ yX10_birds (Cond.code yX10_birds cX10_birds 3 (some .int)) ({ frames := 2, cells := 0, slots := 0, locals := 42 } : Room) [.ref (am 0), .int p1, .int p2] (wM γ am μ ++ (r)) (Pr (some (.int x0)) (wM γ am μ0 ++ (r))) 0 0 := by
  refine Ct_of hl (by decide +kernel) rfl (Nat.le_of_ble_eq_true rfl) (L := [some (.ref (am 0)), some (.int p1), some (.int p2)]) rfl ?_
  intro X Q K hQ
  generalize ((wM γ am μ ++ (r), Q) : MX) = M at K hQ ⊢
  unfold sp_X10_birds at hR
  have b63 : ∀ (y10 : Int32) (y11 : Int32) (y12 : Int32) (μ13 : St), some (x0, μ0) = sp_X10_birds_63  y10 y11 y12 μ13 → V l γ X M (wM γ am μ13 ++ (r)) [some (.ref (am 0)), some (.int y10), some (.int y11)] 0 0 63 [.int y12, .ref (am 0)] := by
    intro  y10 y11 y12 μ13 hR
    unfold sp_X10_birds_63 at hR
    refine r_iconst 63 (3 : Int32) K (dk_of tX10_birds 37 rfl) (by decide) ?_
    obtain ⟨x14, μ15, hc, hR⟩ := o2 hR
    refine r_cVi 64 0 [.int y12, .int (3 : Int32)] [] x14 (wM γ am μ15 ++ (r)) K (ct_X10_fails hl hc.symm) cs_X10_131 ⟨rfl, rfl, rfl⟩ (dk_of tX10_birds 38 rfl) rfl rfl rfl rfl rfl rfl ?_
    refine r_if_eq 67 72 K (dk_of tX10_birds 39 rfl) (by decide) hR (fun hR => ?_) (fun hR => ?_)
    · refine r_aload_n 72 0 K (dk_of tX10_birds 42 rfl) rfl rfl ?_
      refine r_getf (C := RX10) (T := TX10) (N := 29) 73 0 0 K (dk_of tX10_birds 43 rfl) w1028 gwX10 rfl rfl (by decide) rfl ?_
      refine r_bipush 76 (72 : Int32) K (dk_of tX10_birds 44 rfl) (by decide) ?_
      refine r_iload_n 78 1 K (dk_of tX10_birds 45 rfl) rfl rfl ?_
      refine r_iadd 79 K (dk_of tX10_birds 46 rfl) ?_
      refine r_dup2 80 K (dk_of tX10_birds 47 rfl) rfl rfl ?_
      refine r_ialdR 81 1 K (dk_of tX10_birds 48 rfl) rfl hR (fun hR => ?_)
      refine r_iload_n 82 2 K (dk_of tX10_birds 49 rfl) rfl rfl ?_
      refine r_iadd 83 K (dk_of tX10_birds 50 rfl) ?_
      refine r_iastR 84 1 K (dk_of tX10_birds 51 rfl) rfl sM_1 hR (fun hR => ?_)
      refine r_nmS (fun μ16 : St => wM γ am μ16 ++ (r)) hR (fun μ16 hR => ?_)
      refine r_aload_n 85 0 K (dk_of tX10_birds 52 rfl) rfl rfl ?_
      refine r_getf (C := RX10) (T := TX10) (N := 29) 86 0 0 K (dk_of tX10_birds 53 rfl) w1028 gwX10 rfl rfl (by decide) rfl ?_
      refine r_bipush 89 (72 : Int32) K (dk_of tX10_birds 54 rfl) (by decide) ?_
      refine r_iload_n 91 1 K (dk_of tX10_birds 55 rfl) rfl rfl ?_
      refine r_iadd 92 K (dk_of tX10_birds 56 rfl) ?_
      refine r_ialdR 93 1 K (dk_of tX10_birds 57 rfl) rfl hR (fun hR => ?_)
      exact r_iret 94 K hQ (dk_of tX10_birds 58 rfl) (Nat.zero_le _) (Nat.zero_le _) (lfi (fun u9 : St => wM γ am u9 ++ (r)) hR)
    · refine r_iconst 70 (0 : Int32) K (dk_of tX10_birds 40 rfl) (by decide) ?_
      exact r_iret 71 K hQ (dk_of tX10_birds 41 rfl) (Nat.zero_le _) (Nat.zero_le _) (lfi (fun u9 : St => wM γ am u9 ++ (r)) hR)
  have b62 : ∀ (y7 : Int32) (y8 : Int32) (μ9 : St), some (x0, μ0) = sp_X10_birds_62  y7 y8 μ9 → V l γ X M (wM γ am μ9 ++ (r)) [some (.ref (am 0)), some (.int y7), some (.int y8)] 0 0 62 [.ref (am 0)] := by
    intro  y7 y8 μ9 hR
    unfold sp_X10_birds_62 at hR
    refine r_iconst 62 (0 : Int32) K (dk_of tX10_birds 36 rfl) (by decide) ?_
    exact b63 y7 y8 (0 : Int32) μ9 hR
  refine r_aload_n 0 0 K (dk_of tX10_birds 0 rfl) rfl rfl ?_
  refine r_iload_n 1 1 K (dk_of tX10_birds 1 rfl) rfl rfl ?_
  obtain ⟨x1, hc, hR⟩ := o1 hR
  refine r_cSi 2 [.int p1] [.ref (am 0)] x1 (wM γ am μ ++ (r)) K (ct_X10_isCell hl hc.symm) cs_X10_76 ⟨rfl, rfl, rfl⟩ (dk_of tX10_birds 2 rfl) rfl rfl rfl rfl ?_
  refine r_iconst 5 (1 : Int32) K (dk_of tX10_birds 3 rfl) (by decide) ?_
  obtain ⟨x2, μ3, hc, hR⟩ := o2 hR
  refine r_cVi 6 0 [.int x1, .int (1 : Int32)] [] x2 (wM γ am μ3 ++ (r)) K (ct_X10_fails hl hc.symm) cs_X10_131 ⟨rfl, rfl, rfl⟩ (dk_of tX10_birds 4 rfl) rfl rfl rfl rfl rfl rfl ?_
  refine r_if_eq 9 14 K (dk_of tX10_birds 5 rfl) (by decide) hR (fun hR => ?_) (fun hR => ?_)
  · refine r_aload_n 14 0 K (dk_of tX10_birds 8 rfl) rfl rfl ?_
    refine r_iload_n 15 2 K (dk_of tX10_birds 9 rfl) rfl rfl ?_
    refine r_iconst 16 (1 : Int32) K (dk_of tX10_birds 10 rfl) (by decide) ?_
    refine r_bipush 17 (100 : Int32) K (dk_of tX10_birds 11 rfl) (by decide) ?_
    obtain ⟨x4, hc, hR⟩ := o1 hR
    refine r_cSi 19 [.int p2, .int (1 : Int32), .int (100 : Int32)] [.ref (am 0)] x4 (wM γ am μ3 ++ (r)) K (ct_X10_in hl hc.symm) cs_X10_66 ⟨rfl, rfl, rfl⟩ (dk_of tX10_birds 12 rfl) rfl rfl rfl rfl ?_
    refine r_iconst 22 (2 : Int32) K (dk_of tX10_birds 13 rfl) (by decide) ?_
    obtain ⟨x5, μ6, hc, hR⟩ := o2 hR
    refine r_cVi 23 0 [.int x4, .int (2 : Int32)] [] x5 (wM γ am μ6 ++ (r)) K (ct_X10_fails hl hc.symm) cs_X10_131 ⟨rfl, rfl, rfl⟩ (dk_of tX10_birds 14 rfl) rfl rfl rfl rfl rfl rfl ?_
    refine r_if_eq 26 31 K (dk_of tX10_birds 15 rfl) (by decide) hR (fun hR => ?_) (fun hR => ?_)
    · refine r_aload_n 31 0 K (dk_of tX10_birds 18 rfl) rfl rfl ?_
      refine r_aload_n 32 0 K (dk_of tX10_birds 19 rfl) rfl rfl ?_
      refine r_getf (C := RX10) (T := TX10) (N := 29) 33 0 2 K (dk_of tX10_birds 20 rfl) w1030 gwX10 rfl rfl (by decide) rfl ?_
      refine r_iload_n 36 1 K (dk_of tX10_birds 21 rfl) rfl rfl ?_
      refine r_ialdR 37 3 K (dk_of tX10_birds 22 rfl) rfl hR (fun hR => ?_)
      refine r_if_eq 38 62 K (dk_of tX10_birds 23 rfl) (by decide) hR (fun hR => ?_) (fun hR => ?_)
      · exact b62 p1 p2 μ6 hR
      · refine r_aload_n 41 0 K (dk_of tX10_birds 24 rfl) rfl rfl ?_
        refine r_getf (C := RX10) (T := TX10) (N := 29) 42 0 0 K (dk_of tX10_birds 25 rfl) w1028 gwX10 rfl rfl (by decide) rfl ?_
        refine r_bipush 45 (72 : Int32) K (dk_of tX10_birds 26 rfl) (by decide) ?_
        refine r_iload_n 47 1 K (dk_of tX10_birds 27 rfl) rfl rfl ?_
        refine r_iadd 48 K (dk_of tX10_birds 28 rfl) ?_
        refine r_ialdR 49 1 K (dk_of tX10_birds 29 rfl) rfl hR (fun hR => ?_)
        refine r_iload_n 50 2 K (dk_of tX10_birds 30 rfl) rfl rfl ?_
        refine r_iadd 51 K (dk_of tX10_birds 31 rfl) ?_
        refine r_sipush 52 (1000 : Int32) K (dk_of tX10_birds 32 rfl) (by decide) ?_
        refine r_ic_gt 55 62 K (dk_of tX10_birds 33 rfl) (by decide) hR (fun hR => ?_) (fun hR => ?_)
        · exact b62 p1 p2 μ6 hR
        · refine r_iconst 58 (1 : Int32) K (dk_of tX10_birds 34 rfl) (by decide) ?_
          refine r_goto 59 63 K (dk_of tX10_birds 35 rfl) (by decide) ?_
          exact b63 p1 p2 (1 : Int32) μ6 hR
    · refine r_iconst 29 (0 : Int32) K (dk_of tX10_birds 16 rfl) (by decide) ?_
      exact r_iret 30 K hQ (dk_of tX10_birds 17 rfl) (Nat.zero_le _) (Nat.zero_le _) (lfi (fun u9 : St => wM γ am u9 ++ (r)) hR)
  · refine r_iconst 12 (0 : Int32) K (dk_of tX10_birds 6 rfl) (by decide) ?_
    exact r_iret 13 K hQ (dk_of tX10_birds 7 rfl) (Nat.zero_le _) (Nat.zero_le _) (lfi (fun u9 : St => wM γ am u9 ++ (r)) hR)

def sp_X10_wash_46  (y7 : Int32) (y8 : Int32) (y9 : Int32) (μ10 : St) : Option (Int32 × St) := b2 (sp_X10_fails y9 (3 : Int32) μ10) (fun (x11 : Int32) (μ12 : St) => if x11 = 0 then (if ((96 : Int32) + y7) < 0 ∨ 174 ≤ ((96 : Int32) + y7).toNatClampNeg then none else (b1 (sp_X10_least y8 (μ12 1 ((96 : Int32) + y7).toNatClampNeg)) (fun (x13 : Int32) => if ((96 : Int32) + y7) < 0 ∨ 174 ≤ ((96 : Int32) + y7).toNatClampNeg then none else (if ((96 : Int32) + y7) < 0 ∨ 174 ≤ ((96 : Int32) + y7).toNatClampNeg then none else (sl (stU μ12 1 ((96 : Int32) + y7).toNatClampNeg ((μ12 1 ((96 : Int32) + y7).toNatClampNeg) - x13)) (fun μ14 : St => some (x13, μ14))))))) else (some ((0 : Int32), μ12)))
def sp_X10_wash (p1 : Int32) (p2 : Int32) (μ : St) : Option (Int32 × St) := b1 (sp_X10_isCell p1) (fun (x1 : Int32) => b2 (sp_X10_fails x1 (1 : Int32) μ) (fun (x2 : Int32) (μ3 : St) => if x2 = 0 then (b1 (sp_X10_in p2 (1 : Int32) (100 : Int32)) (fun (x4 : Int32) => b2 (sp_X10_fails x4 (2 : Int32) μ3) (fun (x5 : Int32) (μ6 : St) => if x5 = 0 then (if p1 < 0 ∨ 24 ≤ p1.toNatClampNeg then none else (if (μ6 3 p1.toNatClampNeg) = 0 then (sp_X10_wash_46 p1 p2 (0 : Int32) μ6) else (sp_X10_wash_46 p1 p2 (1 : Int32) μ6))) else (some ((0 : Int32), μ6))))) else (some ((0 : Int32), μ3))))
set_option maxHeartbeats 4000000 in
set_option maxRecDepth 100000 in
theorem ct_X10_wash {l : Launch} (hl : l.stackTraces = false) {γ : Gd} {am : Nat → Nat} {μ : St} {r : va_W} {p1 : Int32} {p2 : Int32} {x0 : Int32} {μ0 : St} (hR : some (x0, μ0) = sp_X10_wash p1 p2 μ) : Ct l γ yX10_wash (Cond.code yX10_wash cX10_wash 4 (some .int)) ({ frames := 2, cells := 0, slots := 0, locals := 42 } : Room) [.ref (am 0), .int p1, .int p2] (wM γ am μ ++ (r)) (Pr (some (.int x0)) (wM γ am μ0 ++ (r))) 0 0 := by
  refine Ct_of hl (by decide +kernel) rfl (Nat.le_of_ble_eq_true rfl) (L := [some (.ref (am 0)), some (.int p1), some (.int p2), none]) rfl ?_
  intro X Q K hQ
  generalize ((wM γ am μ ++ (r), Q) : MX) = M at K hQ ⊢
  unfold sp_X10_wash at hR
  have b46 : ∀ (y7 : Int32) (y8 : Int32) (y9 : Int32) (μ10 : St), some (x0, μ0) = sp_X10_wash_46  y7 y8 y9 μ10 → V l γ X M (wM γ am μ10 ++ (r)) [some (.ref (am 0)), some (.int y7), some (.int y8), none] 0 0 46 [.int y9, .ref (am 0)] := by
    intro  y7 y8 y9 μ10 hR
    unfold sp_X10_wash_46 at hR
    refine r_iconst 46 (3 : Int32) K (dk_of tX10_wash 27 rfl) (by decide) ?_
    obtain ⟨x11, μ12, hc, hR⟩ := o2 hR
    refine r_cVi 47 0 [.int y9, .int (3 : Int32)] [] x11 (wM γ am μ12 ++ (r)) K (ct_X10_fails hl hc.symm) cs_X10_131 ⟨rfl, rfl, rfl⟩ (dk_of tX10_wash 28 rfl) rfl rfl rfl rfl rfl rfl ?_
    refine r_if_eq 50 55 K (dk_of tX10_wash 29 rfl) (by decide) hR (fun hR => ?_) (fun hR => ?_)
    · refine r_iload_n 55 2 K (dk_of tX10_wash 32 rfl) rfl rfl ?_
      refine r_aload_n 56 0 K (dk_of tX10_wash 33 rfl) rfl rfl ?_
      refine r_getf (C := RX10) (T := TX10) (N := 29) 57 0 0 K (dk_of tX10_wash 34 rfl) w1028 gwX10 rfl rfl (by decide) rfl ?_
      refine r_bipush 60 (96 : Int32) K (dk_of tX10_wash 35 rfl) (by decide) ?_
      refine r_iload_n 62 1 K (dk_of tX10_wash 36 rfl) rfl rfl ?_
      refine r_iadd 63 K (dk_of tX10_wash 37 rfl) ?_
      refine r_ialdR 64 1 K (dk_of tX10_wash 38 rfl) rfl hR (fun hR => ?_)
      obtain ⟨x13, hc, hR⟩ := o1 hR
      refine r_cSi 65 [.int y8, .int (μ12 1 ((96 : Int32) + y7).toNatClampNeg)] [] x13 (wM γ am μ12 ++ (r)) K (ct_X10_least hl hc.symm) cs_X10_88 ⟨rfl, rfl, rfl⟩ (dk_of tX10_wash 39 rfl) rfl rfl rfl rfl ?_
      refine r_istore_n 68 3 [some (.ref (am 0)), some (.int y7), some (.int y8), some (.int x13)] K (dk_of tX10_wash 40 rfl) rfl rfl rfl (by decide) ?_
      refine r_aload_n 69 0 K (dk_of tX10_wash 41 rfl) rfl rfl ?_
      refine r_getf (C := RX10) (T := TX10) (N := 29) 70 0 0 K (dk_of tX10_wash 42 rfl) w1028 gwX10 rfl rfl (by decide) rfl ?_
      refine r_bipush 73 (96 : Int32) K (dk_of tX10_wash 43 rfl) (by decide) ?_
      refine r_iload_n 75 1 K (dk_of tX10_wash 44 rfl) rfl rfl ?_
      refine r_iadd 76 K (dk_of tX10_wash 45 rfl) ?_
      refine r_dup2 77 K (dk_of tX10_wash 46 rfl) rfl rfl ?_
      refine r_ialdR 78 1 K (dk_of tX10_wash 47 rfl) rfl hR (fun hR => ?_)
      refine r_iload_n 79 3 K (dk_of tX10_wash 48 rfl) rfl rfl ?_
      refine r_isub 80 K (dk_of tX10_wash 49 rfl) ?_
      refine r_iastR 81 1 K (dk_of tX10_wash 50 rfl) rfl sM_1 hR (fun hR => ?_)
      refine r_nmS (fun μ14 : St => wM γ am μ14 ++ (r)) hR (fun μ14 hR => ?_)
      refine r_iload_n 82 3 K (dk_of tX10_wash 51 rfl) rfl rfl ?_
      exact r_iret 83 K hQ (dk_of tX10_wash 52 rfl) (Nat.zero_le _) (Nat.zero_le _) (lfi (fun u9 : St => wM γ am u9 ++ (r)) hR)
    · refine r_iconst 53 (0 : Int32) K (dk_of tX10_wash 30 rfl) (by decide) ?_
      exact r_iret 54 K hQ (dk_of tX10_wash 31 rfl) (Nat.zero_le _) (Nat.zero_le _) (lfi (fun u9 : St => wM γ am u9 ++ (r)) hR)
  refine r_aload_n 0 0 K (dk_of tX10_wash 0 rfl) rfl rfl ?_
  refine r_iload_n 1 1 K (dk_of tX10_wash 1 rfl) rfl rfl ?_
  obtain ⟨x1, hc, hR⟩ := o1 hR
  refine r_cSi 2 [.int p1] [.ref (am 0)] x1 (wM γ am μ ++ (r)) K (ct_X10_isCell hl hc.symm) cs_X10_76 ⟨rfl, rfl, rfl⟩ (dk_of tX10_wash 2 rfl) rfl rfl rfl rfl ?_
  refine r_iconst 5 (1 : Int32) K (dk_of tX10_wash 3 rfl) (by decide) ?_
  obtain ⟨x2, μ3, hc, hR⟩ := o2 hR
  refine r_cVi 6 0 [.int x1, .int (1 : Int32)] [] x2 (wM γ am μ3 ++ (r)) K (ct_X10_fails hl hc.symm) cs_X10_131 ⟨rfl, rfl, rfl⟩ (dk_of tX10_wash 4 rfl) rfl rfl rfl rfl rfl rfl ?_
  refine r_if_eq 9 14 K (dk_of tX10_wash 5 rfl) (by decide) hR (fun hR => ?_) (fun hR => ?_)
  · refine r_aload_n 14 0 K (dk_of tX10_wash 8 rfl) rfl rfl ?_
    refine r_iload_n 15 2 K (dk_of tX10_wash 9 rfl) rfl rfl ?_
    refine r_iconst 16 (1 : Int32) K (dk_of tX10_wash 10 rfl) (by decide) ?_
    refine r_bipush 17 (100 : Int32) K (dk_of tX10_wash 11 rfl) (by decide) ?_
    obtain ⟨x4, hc, hR⟩ := o1 hR
    refine r_cSi 19 [.int p2, .int (1 : Int32), .int (100 : Int32)] [.ref (am 0)] x4 (wM γ am μ3 ++ (r)) K (ct_X10_in hl hc.symm) cs_X10_66 ⟨rfl, rfl, rfl⟩ (dk_of tX10_wash 12 rfl) rfl rfl rfl rfl ?_
    refine r_iconst 22 (2 : Int32) K (dk_of tX10_wash 13 rfl) (by decide) ?_
    obtain ⟨x5, μ6, hc, hR⟩ := o2 hR
    refine r_cVi 23 0 [.int x4, .int (2 : Int32)] [] x5 (wM γ am μ6 ++ (r)) K (ct_X10_fails hl hc.symm) cs_X10_131 ⟨rfl, rfl, rfl⟩ (dk_of tX10_wash 14 rfl) rfl rfl rfl rfl rfl rfl ?_
    refine r_if_eq 26 31 K (dk_of tX10_wash 15 rfl) (by decide) hR (fun hR => ?_) (fun hR => ?_)
    · refine r_aload_n 31 0 K (dk_of tX10_wash 18 rfl) rfl rfl ?_
      refine r_aload_n 32 0 K (dk_of tX10_wash 19 rfl) rfl rfl ?_
      refine r_getf (C := RX10) (T := TX10) (N := 29) 33 0 2 K (dk_of tX10_wash 20 rfl) w1030 gwX10 rfl rfl (by decide) rfl ?_
      refine r_iload_n 36 1 K (dk_of tX10_wash 21 rfl) rfl rfl ?_
      refine r_ialdR 37 3 K (dk_of tX10_wash 22 rfl) rfl hR (fun hR => ?_)
      refine r_if_eq 38 45 K (dk_of tX10_wash 23 rfl) (by decide) hR (fun hR => ?_) (fun hR => ?_)
      · refine r_iconst 45 (0 : Int32) K (dk_of tX10_wash 26 rfl) (by decide) ?_
        exact b46 p1 p2 (0 : Int32) μ6 hR
      · refine r_iconst 41 (1 : Int32) K (dk_of tX10_wash 24 rfl) (by decide) ?_
        refine r_goto 42 46 K (dk_of tX10_wash 25 rfl) (by decide) ?_
        exact b46 p1 p2 (1 : Int32) μ6 hR
    · refine r_iconst 29 (0 : Int32) K (dk_of tX10_wash 16 rfl) (by decide) ?_
      exact r_iret 30 K hQ (dk_of tX10_wash 17 rfl) (Nat.zero_le _) (Nat.zero_le _) (lfi (fun u9 : St => wM γ am u9 ++ (r)) hR)
  · refine r_iconst 12 (0 : Int32) K (dk_of tX10_wash 6 rfl) (by decide) ?_
    exact r_iret 13 K hQ (dk_of tX10_wash 7 rfl) (Nat.zero_le _) (Nat.zero_le _) (lfi (fun u9 : St => wM γ am u9 ++ (r)) hR)

def sp_X10_sign_80  (y10 : Int32) (y11 : Int32) (y12 : Int32) (μ13 : St) : Option (Int32 × St) := b2 (sp_X10_fails y12 (3 : Int32) μ13) (fun (x14 : Int32) (μ15 : St) => if x14 = 0 then (if ((120 : Int32) + y10) < 0 ∨ 174 ≤ ((120 : Int32) + y10).toNatClampNeg then none else (if ((120 : Int32) + y10) < 0 ∨ 174 ≤ ((120 : Int32) + y10).toNatClampNeg then none else (sl (stU μ15 1 ((120 : Int32) + y10).toNatClampNeg ((μ15 1 ((120 : Int32) + y10).toNatClampNeg) ||| ((1 : Int32) <<< (y11 &&& 31)))) (fun μ16 : St => b1 (sp_X10_signatures y10 μ16) (fun (x17 : Int32) => if x17 ≤ (1 : Int32) then (some ((0 : Int32), μ16)) else (some ((1 : Int32), μ16))))))) else (some ((0 : Int32), μ15)))
def sp_X10_sign_79  (y7 : Int32) (y8 : Int32) (μ9 : St) : Option (Int32 × St) := sp_X10_sign_80 y7 y8 (0 : Int32) μ9
def sp_X10_sign (p1 : Int32) (p2 : Int32) (μ : St) : Option (Int32 × St) := b1 (sp_X10_isCell p1) (fun (x1 : Int32) => b2 (sp_X10_fails x1 (1 : Int32) μ) (fun (x2 : Int32) (μ3 : St) => if x2 = 0 then (b1 (sp_X10_in p2 (0 : Int32) (2 : Int32)) (fun (x4 : Int32) => b2 (sp_X10_fails x4 (2 : Int32) μ3) (fun (x5 : Int32) (μ6 : St) => if x5 = 0 then (if p1 < 0 ∨ 24 ≤ p1.toNatClampNeg then none else (if (μ6 3 p1.toNatClampNeg) = 0 then (sp_X10_sign_79 p1 p2 μ6) else (if ((48 : Int32) + p1) < 0 ∨ 174 ≤ ((48 : Int32) + p1).toNatClampNeg then none else (b1 (sp_X10_holds p1 μ6) (fun (x18 : Int32) => if (x18 / (20 : Int32)) < (μ6 1 ((48 : Int32) + p1).toNatClampNeg) then (sp_X10_sign_79 p1 p2 μ6) else (if ((120 : Int32) + p1) < 0 ∨ 174 ≤ ((120 : Int32) + p1).toNatClampNeg then none else (if (((μ6 1 ((120 : Int32) + p1).toNatClampNeg) >>> (p2 &&& 31)) &&& (1 : Int32)) = 0 then (sp_X10_sign_80 p1 p2 (1 : Int32) μ6) else (sp_X10_sign_79 p1 p2 μ6)))))))) else (some ((0 : Int32), μ6))))) else (some ((0 : Int32), μ3))))
set_option maxHeartbeats 4000000 in
set_option maxRecDepth 100000 in
theorem ct_X10_sign {l : Launch} (hl : l.stackTraces = false) {γ : Gd} {am : Nat → Nat} {μ : St} {r : va_W} {p1 : Int32} {p2 : Int32} {x0 : Int32} {μ0 : St} (hR : some (x0, μ0) = sp_X10_sign p1 p2 μ) : Ct l γ yX10_sign (Cond.code yX10_sign cX10_sign 4 (some .boolean)) ({ frames := 2, cells := 0, slots := 0, locals := 42 } : Room) [.ref (am 0), .int p1, .int p2] (wM γ am μ ++ (r)) (Pr (some (.int x0)) (wM γ am μ0 ++ (r))) 0 0 := by
  refine Ct_of hl (by decide +kernel) rfl (Nat.le_of_ble_eq_true rfl) (L := [some (.ref (am 0)), some (.int p1), some (.int p2), none]) rfl ?_
  intro X Q K hQ
  generalize ((wM γ am μ ++ (r), Q) : MX) = M at K hQ ⊢
  unfold sp_X10_sign at hR
  have b80 : ∀ (y10 : Int32) (y11 : Int32) (y12 : Int32) (μ13 : St), some (x0, μ0) = sp_X10_sign_80  y10 y11 y12 μ13 → V l γ X M (wM γ am μ13 ++ (r)) [some (.ref (am 0)), some (.int y10), some (.int y11), none] 0 0 80 [.int y12] := by
    intro  y10 y11 y12 μ13 hR
    unfold sp_X10_sign_80 at hR
    refine r_istore_n 80 3 [some (.ref (am 0)), some (.int y10), some (.int y11), some (.int y12)] K (dk_of tX10_sign 49 rfl) rfl rfl rfl (by decide) ?_
    refine r_aload_n 81 0 K (dk_of tX10_sign 50 rfl) rfl rfl ?_
    refine r_iload_n 82 3 K (dk_of tX10_sign 51 rfl) rfl rfl ?_
    refine r_iconst 83 (3 : Int32) K (dk_of tX10_sign 52 rfl) (by decide) ?_
    obtain ⟨x14, μ15, hc, hR⟩ := o2 hR
    refine r_cVi 84 0 [.int y12, .int (3 : Int32)] [] x14 (wM γ am μ15 ++ (r)) K (ct_X10_fails hl hc.symm) cs_X10_131 ⟨rfl, rfl, rfl⟩ (dk_of tX10_sign 53 rfl) rfl rfl rfl rfl rfl rfl ?_
    refine r_if_eq 87 92 K (dk_of tX10_sign 54 rfl) (by decide) hR (fun hR => ?_) (fun hR => ?_)
    · refine r_aload_n 92 0 K (dk_of tX10_sign 57 rfl) rfl rfl ?_
      refine r_getf (C := RX10) (T := TX10) (N := 29) 93 0 0 K (dk_of tX10_sign 58 rfl) w1028 gwX10 rfl rfl (by decide) rfl ?_
      refine r_bipush 96 (120 : Int32) K (dk_of tX10_sign 59 rfl) (by decide) ?_
      refine r_iload_n 98 1 K (dk_of tX10_sign 60 rfl) rfl rfl ?_
      refine r_iadd 99 K (dk_of tX10_sign 61 rfl) ?_
      refine r_dup2 100 K (dk_of tX10_sign 62 rfl) rfl rfl ?_
      refine r_ialdR 101 1 K (dk_of tX10_sign 63 rfl) rfl hR (fun hR => ?_)
      refine r_iconst 102 (1 : Int32) K (dk_of tX10_sign 64 rfl) (by decide) ?_
      refine r_iload_n 103 2 K (dk_of tX10_sign 65 rfl) rfl rfl ?_
      refine r_ishl 104 K (dk_of tX10_sign 66 rfl) ?_
      refine r_ior 105 K (dk_of tX10_sign 67 rfl) ?_
      refine r_iastR 106 1 K (dk_of tX10_sign 68 rfl) rfl sM_1 hR (fun hR => ?_)
      refine r_nmS (fun μ16 : St => wM γ am μ16 ++ (r)) hR (fun μ16 hR => ?_)
      refine r_aload_n 107 0 K (dk_of tX10_sign 69 rfl) rfl rfl ?_
      refine r_iload_n 108 1 K (dk_of tX10_sign 70 rfl) rfl rfl ?_
      obtain ⟨x17, hc, hR⟩ := o1 hR
      refine r_cVi 109 0 [.int y10] [] x17 (wM γ am μ16 ++ (r)) K (ct_X10_signatures hl hc.symm) cs_X10_142 ⟨rfl, rfl, rfl⟩ (dk_of tX10_sign 71 rfl) rfl rfl rfl rfl rfl rfl ?_
      refine r_iconst 112 (1 : Int32) K (dk_of tX10_sign 72 rfl) (by decide) ?_
      refine r_ic_le 113 120 K (dk_of tX10_sign 73 rfl) (by decide) hR (fun hR => ?_) (fun hR => ?_)
      · refine r_iconst 120 (0 : Int32) K (dk_of tX10_sign 76 rfl) (by decide) ?_
        exact r_zret 121 K hQ (dk_of tX10_sign 77 rfl) zb0 (Nat.zero_le _) (Nat.zero_le _) (lfi (fun u9 : St => wM γ am u9 ++ (r)) hR)
      · refine r_iconst 116 (1 : Int32) K (dk_of tX10_sign 74 rfl) (by decide) ?_
        refine r_goto 117 121 K (dk_of tX10_sign 75 rfl) (by decide) ?_
        exact r_zret 121 K hQ (dk_of tX10_sign 77 rfl) zb1 (Nat.zero_le _) (Nat.zero_le _) (lfi (fun u9 : St => wM γ am u9 ++ (r)) hR)
    · refine r_iconst 90 (0 : Int32) K (dk_of tX10_sign 55 rfl) (by decide) ?_
      exact r_zret 91 K hQ (dk_of tX10_sign 56 rfl) zb0 (Nat.zero_le _) (Nat.zero_le _) (lfi (fun u9 : St => wM γ am u9 ++ (r)) hR)
  have b79 : ∀ (y7 : Int32) (y8 : Int32) (μ9 : St), some (x0, μ0) = sp_X10_sign_79  y7 y8 μ9 → V l γ X M (wM γ am μ9 ++ (r)) [some (.ref (am 0)), some (.int y7), some (.int y8), none] 0 0 79 [] := by
    intro  y7 y8 μ9 hR
    unfold sp_X10_sign_79 at hR
    refine r_iconst 79 (0 : Int32) K (dk_of tX10_sign 48 rfl) (by decide) ?_
    exact b80 y7 y8 (0 : Int32) μ9 hR
  refine r_aload_n 0 0 K (dk_of tX10_sign 0 rfl) rfl rfl ?_
  refine r_iload_n 1 1 K (dk_of tX10_sign 1 rfl) rfl rfl ?_
  obtain ⟨x1, hc, hR⟩ := o1 hR
  refine r_cSi 2 [.int p1] [.ref (am 0)] x1 (wM γ am μ ++ (r)) K (ct_X10_isCell hl hc.symm) cs_X10_76 ⟨rfl, rfl, rfl⟩ (dk_of tX10_sign 2 rfl) rfl rfl rfl rfl ?_
  refine r_iconst 5 (1 : Int32) K (dk_of tX10_sign 3 rfl) (by decide) ?_
  obtain ⟨x2, μ3, hc, hR⟩ := o2 hR
  refine r_cVi 6 0 [.int x1, .int (1 : Int32)] [] x2 (wM γ am μ3 ++ (r)) K (ct_X10_fails hl hc.symm) cs_X10_131 ⟨rfl, rfl, rfl⟩ (dk_of tX10_sign 4 rfl) rfl rfl rfl rfl rfl rfl ?_
  refine r_if_eq 9 14 K (dk_of tX10_sign 5 rfl) (by decide) hR (fun hR => ?_) (fun hR => ?_)
  · refine r_aload_n 14 0 K (dk_of tX10_sign 8 rfl) rfl rfl ?_
    refine r_iload_n 15 2 K (dk_of tX10_sign 9 rfl) rfl rfl ?_
    refine r_iconst 16 (0 : Int32) K (dk_of tX10_sign 10 rfl) (by decide) ?_
    refine r_iconst 17 (2 : Int32) K (dk_of tX10_sign 11 rfl) (by decide) ?_
    obtain ⟨x4, hc, hR⟩ := o1 hR
    refine r_cSi 18 [.int p2, .int (0 : Int32), .int (2 : Int32)] [.ref (am 0)] x4 (wM γ am μ3 ++ (r)) K (ct_X10_in hl hc.symm) cs_X10_66 ⟨rfl, rfl, rfl⟩ (dk_of tX10_sign 12 rfl) rfl rfl rfl rfl ?_
    refine r_iconst 21 (2 : Int32) K (dk_of tX10_sign 13 rfl) (by decide) ?_
    obtain ⟨x5, μ6, hc, hR⟩ := o2 hR
    refine r_cVi 22 0 [.int x4, .int (2 : Int32)] [] x5 (wM γ am μ6 ++ (r)) K (ct_X10_fails hl hc.symm) cs_X10_131 ⟨rfl, rfl, rfl⟩ (dk_of tX10_sign 14 rfl) rfl rfl rfl rfl rfl rfl ?_
    refine r_if_eq 25 30 K (dk_of tX10_sign 15 rfl) (by decide) hR (fun hR => ?_) (fun hR => ?_)
    · refine r_aload_n 30 0 K (dk_of tX10_sign 18 rfl) rfl rfl ?_
      refine r_getf (C := RX10) (T := TX10) (N := 29) 31 0 2 K (dk_of tX10_sign 19 rfl) w1030 gwX10 rfl rfl (by decide) rfl ?_
      refine r_iload_n 34 1 K (dk_of tX10_sign 20 rfl) rfl rfl ?_
      refine r_ialdR 35 3 K (dk_of tX10_sign 21 rfl) rfl hR (fun hR => ?_)
      refine r_if_eq 36 79 K (dk_of tX10_sign 22 rfl) (by decide) hR (fun hR => ?_) (fun hR => ?_)
      · exact b79 p1 p2 μ6 hR
      · refine r_aload_n 39 0 K (dk_of tX10_sign 23 rfl) rfl rfl ?_
        refine r_getf (C := RX10) (T := TX10) (N := 29) 40 0 0 K (dk_of tX10_sign 24 rfl) w1028 gwX10 rfl rfl (by decide) rfl ?_
        refine r_bipush 43 (48 : Int32) K (dk_of tX10_sign 25 rfl) (by decide) ?_
        refine r_iload_n 45 1 K (dk_of tX10_sign 26 rfl) rfl rfl ?_
        refine r_iadd 46 K (dk_of tX10_sign 27 rfl) ?_
        refine r_ialdR 47 1 K (dk_of tX10_sign 28 rfl) rfl hR (fun hR => ?_)
        refine r_aload_n 48 0 K (dk_of tX10_sign 29 rfl) rfl rfl ?_
        refine r_iload_n 49 1 K (dk_of tX10_sign 30 rfl) rfl rfl ?_
        obtain ⟨x18, hc, hR⟩ := o1 hR
        refine r_cVi 50 0 [.int p1] [.int (μ6 1 ((48 : Int32) + p1).toNatClampNeg)] x18 (wM γ am μ6 ++ (r)) K (ct_X10_holds hl hc.symm) cs_X10_97 ⟨rfl, rfl, rfl⟩ (dk_of tX10_sign 31 rfl) rfl rfl rfl rfl rfl rfl ?_
        refine r_bipush 53 (20 : Int32) K (dk_of tX10_sign 32 rfl) (by decide) ?_
        refine r_idiv 55 K (dk_of tX10_sign 33 rfl) (by decide) ?_
        refine r_ic_gt 56 79 K (dk_of tX10_sign 34 rfl) (by decide) hR (fun hR => ?_) (fun hR => ?_)
        · exact b79 p1 p2 μ6 hR
        · refine r_aload_n 59 0 K (dk_of tX10_sign 35 rfl) rfl rfl ?_
          refine r_getf (C := RX10) (T := TX10) (N := 29) 60 0 0 K (dk_of tX10_sign 36 rfl) w1028 gwX10 rfl rfl (by decide) rfl ?_
          refine r_bipush 63 (120 : Int32) K (dk_of tX10_sign 37 rfl) (by decide) ?_
          refine r_iload_n 65 1 K (dk_of tX10_sign 38 rfl) rfl rfl ?_
          refine r_iadd 66 K (dk_of tX10_sign 39 rfl) ?_
          refine r_ialdR 67 1 K (dk_of tX10_sign 40 rfl) rfl hR (fun hR => ?_)
          refine r_iload_n 68 2 K (dk_of tX10_sign 41 rfl) rfl rfl ?_
          refine r_ishr 69 K (dk_of tX10_sign 42 rfl) ?_
          refine r_iconst 70 (1 : Int32) K (dk_of tX10_sign 43 rfl) (by decide) ?_
          refine r_iand 71 K (dk_of tX10_sign 44 rfl) ?_
          refine r_if_ne 72 79 K (dk_of tX10_sign 45 rfl) (by decide) hR (fun hR => ?_) (fun hR => ?_)
          · refine r_iconst 75 (1 : Int32) K (dk_of tX10_sign 46 rfl) (by decide) ?_
            refine r_goto 76 80 K (dk_of tX10_sign 47 rfl) (by decide) ?_
            exact b80 p1 p2 (1 : Int32) μ6 hR
          · exact b79 p1 p2 μ6 hR
    · refine r_iconst 28 (0 : Int32) K (dk_of tX10_sign 16 rfl) (by decide) ?_
      exact r_zret 29 K hQ (dk_of tX10_sign 17 rfl) zb0 (Nat.zero_le _) (Nat.zero_le _) (lfi (fun u9 : St => wM γ am u9 ++ (r)) hR)
  · refine r_iconst 12 (0 : Int32) K (dk_of tX10_sign 6 rfl) (by decide) ?_
    exact r_zret 13 K hQ (dk_of tX10_sign 7 rfl) zb0 (Nat.zero_le _) (Nat.zero_le _) (lfi (fun u9 : St => wM γ am u9 ++ (r)) hR)

def sp_X10_site_49  (y11 : Int32) (y12 : Int32) (y13 : Int32) (μ14 : St) : Option (Int32 × St) := b2 (sp_X10_fails y13 (2 : Int32) μ14) (fun (x15 : Int32) (μ16 : St) => if x15 = 0 then (if ((2 : Int32) * (μ16 0 22)) < 0 ∨ 6 ≤ ((2 : Int32) * (μ16 0 22)).toNatClampNeg then none else (sl (stU μ16 16 ((2 : Int32) * (μ16 0 22)).toNatClampNeg y11) (fun μ17 : St => if (((2 : Int32) * (μ17 0 22)) + (1 : Int32)) < 0 ∨ 6 ≤ (((2 : Int32) * (μ17 0 22)) + (1 : Int32)).toNatClampNeg then none else (sl (stU μ17 16 (((2 : Int32) * (μ17 0 22)) + (1 : Int32)).toNatClampNeg y12) (fun μ18 : St => sl (stU μ18 0 22 ((μ18 0 22) + (1 : Int32))) (fun μ19 : St => some (((μ19 0 22) - (1 : Int32)), μ19))))))) else (some ((0 : Int32), μ16)))
def sp_X10_site_26  (y5 : Int32) (y6 : Int32) (y7 : Int32) (μ8 : St) : Option (Int32 × St) := b2 (sp_X10_fails y7 (1 : Int32) μ8) (fun (x9 : Int32) (μ10 : St) => if x9 = 0 then (if (3 : Int32) ≤ (μ10 0 22) then (sp_X10_site_49 y5 y6 (0 : Int32) μ10) else (sp_X10_site_49 y5 y6 (1 : Int32) μ10)) else (some ((0 : Int32), μ10)))
def sp_X10_site_25  (y2 : Int32) (y3 : Int32) (μ4 : St) : Option (Int32 × St) := sp_X10_site_26 y2 y3 (0 : Int32) μ4
def sp_X10_site (p1 : Int32) (p2 : Int32) (μ : St) : Option (Int32 × St) := b1 (sp_X10_in p1 (0 : Int32) (100000 : Int32)) (fun (x1 : Int32) => if x1 = 0 then (sp_X10_site_25 p1 p2 μ) else (b1 (sp_X10_in p2 (0 : Int32) (100000 : Int32)) (fun (x20 : Int32) => if x20 = 0 then (sp_X10_site_25 p1 p2 μ) else (sp_X10_site_26 p1 p2 (1 : Int32) μ))))
set_option maxHeartbeats 4000000 in
set_option maxRecDepth 100000 in
theorem ct_X10_site {l : Launch} (hl : l.stackTraces = false) {γ : Gd} {am : Nat → Nat} {μ : St} {r : va_W} {p1 : Int32} {p2 : Int32} {x0 : Int32} {μ0 : St} (hR : some (x0, μ0) = sp_X10_site p1 p2 μ) : Ct l γ yX10_site (Cond.code yX10_site cX10_site 3 (some .int)) ({ frames := 1, cells := 0, slots := 0, locals := 22 } : Room) [.ref (am 0), .int p1, .int p2] (wM γ am μ ++ (r)) (Pr (some (.int x0)) (wM γ am μ0 ++ (r))) 0 0 := by
  refine Ct_of hl (by decide +kernel) rfl (Nat.le_of_ble_eq_true rfl) (L := [some (.ref (am 0)), some (.int p1), some (.int p2)]) rfl ?_
  intro X Q K hQ
  generalize ((wM γ am μ ++ (r), Q) : MX) = M at K hQ ⊢
  unfold sp_X10_site at hR
  have b49 : ∀ (y11 : Int32) (y12 : Int32) (y13 : Int32) (μ14 : St), some (x0, μ0) = sp_X10_site_49  y11 y12 y13 μ14 → V l γ X M (wM γ am μ14 ++ (r)) [some (.ref (am 0)), some (.int y11), some (.int y12)] 0 0 49 [.int y13, .ref (am 0)] := by
    intro  y11 y12 y13 μ14 hR
    unfold sp_X10_site_49 at hR
    refine r_iconst 49 (2 : Int32) K (dk_of tX10_site 27 rfl) (by decide) ?_
    obtain ⟨x15, μ16, hc, hR⟩ := o2 hR
    refine r_cVi 50 0 [.int y13, .int (2 : Int32)] [] x15 (wM γ am μ16 ++ (r)) K (ct_X10_fails hl hc.symm) cs_X10_131 ⟨rfl, rfl, rfl⟩ (dk_of tX10_site 28 rfl) rfl rfl rfl rfl rfl rfl ?_
    refine r_if_eq 53 58 K (dk_of tX10_site 29 rfl) (by decide) hR (fun hR => ?_) (fun hR => ?_)
    · refine r_aload_n 58 0 K (dk_of tX10_site 32 rfl) rfl rfl ?_
      refine r_getf (C := RX10) (T := TX10) (N := 29) 59 0 23 K (dk_of tX10_site 33 rfl) w1051 gwX10 rfl rfl (by decide) rfl ?_
      refine r_iconst 62 (2 : Int32) K (dk_of tX10_site 34 rfl) (by decide) ?_
      refine r_aload_n 63 0 K (dk_of tX10_site 35 rfl) rfl rfl ?_
      refine r_getf (C := RX10) (T := TX10) (N := 29) 64 0 22 K (dk_of tX10_site 36 rfl) w1050 gwX10 rfl rfl (by decide) rfl ?_
      refine r_imul 67 K (dk_of tX10_site 37 rfl) ?_
      refine r_iload_n 68 1 K (dk_of tX10_site 38 rfl) rfl rfl ?_
      refine r_iastR 69 16 K (dk_of tX10_site 39 rfl) rfl sM_16 hR (fun hR => ?_)
      refine r_nmS (fun μ17 : St => wM γ am μ17 ++ (r)) hR (fun μ17 hR => ?_)
      refine r_aload_n 70 0 K (dk_of tX10_site 40 rfl) rfl rfl ?_
      refine r_getf (C := RX10) (T := TX10) (N := 29) 71 0 23 K (dk_of tX10_site 41 rfl) w1051 gwX10 rfl rfl (by decide) rfl ?_
      refine r_iconst 74 (2 : Int32) K (dk_of tX10_site 42 rfl) (by decide) ?_
      refine r_aload_n 75 0 K (dk_of tX10_site 43 rfl) rfl rfl ?_
      refine r_getf (C := RX10) (T := TX10) (N := 29) 76 0 22 K (dk_of tX10_site 44 rfl) w1050 gwX10 rfl rfl (by decide) rfl ?_
      refine r_imul 79 K (dk_of tX10_site 45 rfl) ?_
      refine r_iconst 80 (1 : Int32) K (dk_of tX10_site 46 rfl) (by decide) ?_
      refine r_iadd 81 K (dk_of tX10_site 47 rfl) ?_
      refine r_iload_n 82 2 K (dk_of tX10_site 48 rfl) rfl rfl ?_
      refine r_iastR 83 16 K (dk_of tX10_site 49 rfl) rfl sM_16 hR (fun hR => ?_)
      refine r_nmS (fun μ18 : St => wM γ am μ18 ++ (r)) hR (fun μ18 hR => ?_)
      refine r_aload_n 84 0 K (dk_of tX10_site 50 rfl) rfl rfl ?_
      refine r_dup 85 K (dk_of tX10_site 51 rfl) rfl ?_
      refine r_getf (C := RX10) (T := TX10) (N := 29) 86 0 22 K (dk_of tX10_site 52 rfl) w1050 gwX10 rfl rfl (by decide) rfl ?_
      refine r_iconst 89 (1 : Int32) K (dk_of tX10_site 53 rfl) (by decide) ?_
      refine r_iadd 90 K (dk_of tX10_site 54 rfl) ?_
      refine r_putf (C := RX10) (T := TX10) (N := 29) 91 0 22 K (dk_of tX10_site 55 rfl) w1050 gwX10 tyX10_ok nmX10 rfl rfl (by decide) rfl rfl rfl rfl (Nat.le_of_ble_eq_true rfl) sM_0_22 ?_
      refine r_nmS (fun μ19 : St => wM γ am μ19 ++ (r)) hR (fun μ19 hR => ?_)
      refine r_aload_n 94 0 K (dk_of tX10_site 56 rfl) rfl rfl ?_
      refine r_getf (C := RX10) (T := TX10) (N := 29) 95 0 22 K (dk_of tX10_site 57 rfl) w1050 gwX10 rfl rfl (by decide) rfl ?_
      refine r_iconst 98 (1 : Int32) K (dk_of tX10_site 58 rfl) (by decide) ?_
      refine r_isub 99 K (dk_of tX10_site 59 rfl) ?_
      exact r_iret 100 K hQ (dk_of tX10_site 60 rfl) (Nat.zero_le _) (Nat.zero_le _) (lfi (fun u9 : St => wM γ am u9 ++ (r)) hR)
    · refine r_iconst 56 (0 : Int32) K (dk_of tX10_site 30 rfl) (by decide) ?_
      exact r_iret 57 K hQ (dk_of tX10_site 31 rfl) (Nat.zero_le _) (Nat.zero_le _) (lfi (fun u9 : St => wM γ am u9 ++ (r)) hR)
  have b26 : ∀ (y5 : Int32) (y6 : Int32) (y7 : Int32) (μ8 : St), some (x0, μ0) = sp_X10_site_26  y5 y6 y7 μ8 → V l γ X M (wM γ am μ8 ++ (r)) [some (.ref (am 0)), some (.int y5), some (.int y6)] 0 0 26 [.int y7, .ref (am 0)] := by
    intro  y5 y6 y7 μ8 hR
    unfold sp_X10_site_26 at hR
    refine r_iconst 26 (1 : Int32) K (dk_of tX10_site 14 rfl) (by decide) ?_
    obtain ⟨x9, μ10, hc, hR⟩ := o2 hR
    refine r_cVi 27 0 [.int y7, .int (1 : Int32)] [] x9 (wM γ am μ10 ++ (r)) K (ct_X10_fails hl hc.symm) cs_X10_131 ⟨rfl, rfl, rfl⟩ (dk_of tX10_site 15 rfl) rfl rfl rfl rfl rfl rfl ?_
    refine r_if_eq 30 35 K (dk_of tX10_site 16 rfl) (by decide) hR (fun hR => ?_) (fun hR => ?_)
    · refine r_aload_n 35 0 K (dk_of tX10_site 19 rfl) rfl rfl ?_
      refine r_aload_n 36 0 K (dk_of tX10_site 20 rfl) rfl rfl ?_
      refine r_getf (C := RX10) (T := TX10) (N := 29) 37 0 22 K (dk_of tX10_site 21 rfl) w1050 gwX10 rfl rfl (by decide) rfl ?_
      refine r_iconst 40 (3 : Int32) K (dk_of tX10_site 22 rfl) (by decide) ?_
      refine r_ic_ge 41 48 K (dk_of tX10_site 23 rfl) (by decide) hR (fun hR => ?_) (fun hR => ?_)
      · refine r_iconst 48 (0 : Int32) K (dk_of tX10_site 26 rfl) (by decide) ?_
        exact b49 y5 y6 (0 : Int32) μ10 hR
      · refine r_iconst 44 (1 : Int32) K (dk_of tX10_site 24 rfl) (by decide) ?_
        refine r_goto 45 49 K (dk_of tX10_site 25 rfl) (by decide) ?_
        exact b49 y5 y6 (1 : Int32) μ10 hR
    · refine r_iconst 33 (0 : Int32) K (dk_of tX10_site 17 rfl) (by decide) ?_
      exact r_iret 34 K hQ (dk_of tX10_site 18 rfl) (Nat.zero_le _) (Nat.zero_le _) (lfi (fun u9 : St => wM γ am u9 ++ (r)) hR)
  have b25 : ∀ (y2 : Int32) (y3 : Int32) (μ4 : St), some (x0, μ0) = sp_X10_site_25  y2 y3 μ4 → V l γ X M (wM γ am μ4 ++ (r)) [some (.ref (am 0)), some (.int y2), some (.int y3)] 0 0 25 [.ref (am 0)] := by
    intro  y2 y3 μ4 hR
    unfold sp_X10_site_25 at hR
    refine r_iconst 25 (0 : Int32) K (dk_of tX10_site 13 rfl) (by decide) ?_
    exact b26 y2 y3 (0 : Int32) μ4 hR
  refine r_aload_n 0 0 K (dk_of tX10_site 0 rfl) rfl rfl ?_
  refine r_iload_n 1 1 K (dk_of tX10_site 1 rfl) rfl rfl ?_
  refine r_iconst 2 (0 : Int32) K (dk_of tX10_site 2 rfl) (by decide) ?_
  refine r_ldc 3 100000 K (dk_of tX10_site 3 rfl) w1146 ?_
  obtain ⟨x1, hc, hR⟩ := o1 hR
  refine r_cSi 5 [.int p1, .int (0 : Int32), .int (100000 : Int32)] [.ref (am 0)] x1 (wM γ am μ ++ (r)) K (ct_X10_in hl hc.symm) cs_X10_66 ⟨rfl, rfl, rfl⟩ (dk_of tX10_site 4 rfl) rfl rfl rfl rfl ?_
  refine r_if_eq 8 25 K (dk_of tX10_site 5 rfl) (by decide) hR (fun hR => ?_) (fun hR => ?_)
  · exact b25 p1 p2 μ hR
  · refine r_iload_n 11 2 K (dk_of tX10_site 6 rfl) rfl rfl ?_
    refine r_iconst 12 (0 : Int32) K (dk_of tX10_site 7 rfl) (by decide) ?_
    refine r_ldc 13 100000 K (dk_of tX10_site 8 rfl) w1146 ?_
    obtain ⟨x20, hc, hR⟩ := o1 hR
    refine r_cSi 15 [.int p2, .int (0 : Int32), .int (100000 : Int32)] [.ref (am 0)] x20 (wM γ am μ ++ (r)) K (ct_X10_in hl hc.symm) cs_X10_66 ⟨rfl, rfl, rfl⟩ (dk_of tX10_site 9 rfl) rfl rfl rfl rfl ?_
    refine r_if_eq 18 25 K (dk_of tX10_site 10 rfl) (by decide) hR (fun hR => ?_) (fun hR => ?_)
    · exact b25 p1 p2 μ hR
    · refine r_iconst 21 (1 : Int32) K (dk_of tX10_site 11 rfl) (by decide) ?_
      refine r_goto 22 26 K (dk_of tX10_site 12 rfl) (by decide) ?_
      exact b26 p1 p2 (1 : Int32) μ hR

def sp_X10_deliver_85  (y20 : Int32) (y21 : Int32) (y22 : Int32) (y23 : Int32) (μ24 : St) : Option (Int32 × St) := b2 (sp_X10_fails y23 (3 : Int32) μ24) (fun (x25 : Int32) (μ26 : St) => if x25 = 0 then (if y21 < 0 ∨ 2 ≤ y21.toNatClampNeg then none else (if y21 < 0 ∨ 2 ≤ y21.toNatClampNeg then none else (sl (stU μ26 15 y21.toNatClampNeg ((μ26 15 y21.toNatClampNeg) - y22)) (fun μ27 : St => sl (stU μ27 0 21 ((μ27 0 21) + y22)) (fun μ28 : St => if (((2 : Int32) * y20) + y21) < 0 ∨ 6 ≤ (((2 : Int32) * y20) + y21).toNatClampNeg then none else (if (((2 : Int32) * y20) + y21) < 0 ∨ 6 ≤ (((2 : Int32) * y20) + y21).toNatClampNeg then none else (sl (stU μ28 16 (((2 : Int32) * y20) + y21).toNatClampNeg ((μ28 16 (((2 : Int32) * y20) + y21).toNatClampNeg) - y22)) (fun μ29 : St => if (((2 : Int32) * y20) + y21) < 0 ∨ 6 ≤ (((2 : Int32) * y20) + y21).toNatClampNeg then none else (some ((μ29 16 (((2 : Int32) * y20) + y21).toNatClampNeg), μ29)))))))))) else (some ((0 : Int32), μ26)))
def sp_X10_deliver_84  (y16 : Int32) (y17 : Int32) (y18 : Int32) (μ19 : St) : Option (Int32 × St) := sp_X10_deliver_85 y16 y17 y18 (0 : Int32) μ19
def sp_X10_deliver_46  (y9 : Int32) (y10 : Int32) (y11 : Int32) (y12 : Int32) (μ13 : St) : Option (Int32 × St) := b2 (sp_X10_fails y12 (2 : Int32) μ13) (fun (x14 : Int32) (μ15 : St) => if x14 = 0 then (if y10 < 0 ∨ 2 ≤ y10.toNatClampNeg then none else (if (μ15 15 y10.toNatClampNeg) < y11 then (sp_X10_deliver_84 y9 y10 y11 μ15) else (if (((2 : Int32) * y9) + y10) < 0 ∨ 6 ≤ (((2 : Int32) * y9) + y10).toNatClampNeg then none else (if (μ15 16 (((2 : Int32) * y9) + y10).toNatClampNeg) < y11 then (sp_X10_deliver_84 y9 y10 y11 μ15) else (sp_X10_deliver_85 y9 y10 y11 (1 : Int32) μ15))))) else (some ((0 : Int32), μ15)))
def sp_X10_deliver_45  (y5 : Int32) (y6 : Int32) (y7 : Int32) (μ8 : St) : Option (Int32 × St) := sp_X10_deliver_46 y5 y6 y7 (0 : Int32) μ8
def sp_X10_deliver (p1 : Int32) (p2 : Int32) (p3 : Int32) (μ : St) : Option (Int32 × St) := b1 (sp_X10_in p1 (0 : Int32) ((μ 0 22) - (1 : Int32))) (fun (x1 : Int32) => b2 (sp_X10_fails x1 (1 : Int32) μ) (fun (x2 : Int32) (μ3 : St) => if x2 = 0 then (b1 (sp_X10_in p2 (0 : Int32) (1 : Int32)) (fun (x4 : Int32) => if x4 = 0 then (sp_X10_deliver_45 p1 p2 p3 μ3) else (b1 (sp_X10_in p3 (1 : Int32) (100000 : Int32)) (fun (x30 : Int32) => if x30 = 0 then (sp_X10_deliver_45 p1 p2 p3 μ3) else (sp_X10_deliver_46 p1 p2 p3 (1 : Int32) μ3))))) else (some ((0 : Int32), μ3))))
set_option maxHeartbeats 4000000 in
set_option maxRecDepth 100000 in
theorem ct_X10_deliver {l : Launch} (hl : l.stackTraces = false) {γ : Gd} {am : Nat → Nat} {μ : St} {r : va_W} {p1 : Int32} {p2 : Int32} {p3 : Int32} {x0 : Int32} {μ0 : St} (hR : some (x0, μ0) = sp_X10_deliver p1 p2 p3 μ) : Ct l γ yX10_deliver (Cond.code yX10_deliver cX10_deliver 4 (some .int)) ({ frames := 1, cells := 0, slots := 0, locals := 22 } : Room) [.ref (am 0), .int p1, .int p2, .int p3] (wM γ am μ ++ (r)) (Pr (some (.int x0)) (wM γ am μ0 ++ (r))) 0 0 := by
  refine Ct_of hl (by decide +kernel) rfl (Nat.le_of_ble_eq_true rfl) (L := [some (.ref (am 0)), some (.int p1), some (.int p2), some (.int p3)]) rfl ?_
  intro X Q K hQ
  generalize ((wM γ am μ ++ (r), Q) : MX) = M at K hQ ⊢
  unfold sp_X10_deliver at hR
  have b85 : ∀ (y20 : Int32) (y21 : Int32) (y22 : Int32) (y23 : Int32) (μ24 : St), some (x0, μ0) = sp_X10_deliver_85  y20 y21 y22 y23 μ24 → V l γ X M (wM γ am μ24 ++ (r)) [some (.ref (am 0)), some (.int y20), some (.int y21), some (.int y22)] 0 0 85 [.int y23, .ref (am 0)] := by
    intro  y20 y21 y22 y23 μ24 hR
    unfold sp_X10_deliver_85 at hR
    refine r_iconst 85 (3 : Int32) K (dk_of tX10_deliver 52 rfl) (by decide) ?_
    obtain ⟨x25, μ26, hc, hR⟩ := o2 hR
    refine r_cVi 86 0 [.int y23, .int (3 : Int32)] [] x25 (wM γ am μ26 ++ (r)) K (ct_X10_fails hl hc.symm) cs_X10_131 ⟨rfl, rfl, rfl⟩ (dk_of tX10_deliver 53 rfl) rfl rfl rfl rfl rfl rfl ?_
    refine r_if_eq 89 94 K (dk_of tX10_deliver 54 rfl) (by decide) hR (fun hR => ?_) (fun hR => ?_)
    · refine r_aload_n 94 0 K (dk_of tX10_deliver 57 rfl) rfl rfl ?_
      refine r_getf (C := RX10) (T := TX10) (N := 29) 95 0 20 K (dk_of tX10_deliver 58 rfl) w1048 gwX10 rfl rfl (by decide) rfl ?_
      refine r_iload_n 98 2 K (dk_of tX10_deliver 59 rfl) rfl rfl ?_
      refine r_dup2 99 K (dk_of tX10_deliver 60 rfl) rfl rfl ?_
      refine r_ialdR 100 15 K (dk_of tX10_deliver 61 rfl) rfl hR (fun hR => ?_)
      refine r_iload_n 101 3 K (dk_of tX10_deliver 62 rfl) rfl rfl ?_
      refine r_isub 102 K (dk_of tX10_deliver 63 rfl) ?_
      refine r_iastR 103 15 K (dk_of tX10_deliver 64 rfl) rfl sM_15 hR (fun hR => ?_)
      refine r_nmS (fun μ27 : St => wM γ am μ27 ++ (r)) hR (fun μ27 hR => ?_)
      refine r_aload_n 104 0 K (dk_of tX10_deliver 65 rfl) rfl rfl ?_
      refine r_dup 105 K (dk_of tX10_deliver 66 rfl) rfl ?_
      refine r_getf (C := RX10) (T := TX10) (N := 29) 106 0 21 K (dk_of tX10_deliver 67 rfl) w1049 gwX10 rfl rfl (by decide) rfl ?_
      refine r_iload_n 109 3 K (dk_of tX10_deliver 68 rfl) rfl rfl ?_
      refine r_iadd 110 K (dk_of tX10_deliver 69 rfl) ?_
      refine r_putf (C := RX10) (T := TX10) (N := 29) 111 0 21 K (dk_of tX10_deliver 70 rfl) w1049 gwX10 tyX10_ok nmX10 rfl rfl (by decide) rfl rfl rfl rfl (Nat.le_of_ble_eq_true rfl) sM_0_21 ?_
      refine r_nmS (fun μ28 : St => wM γ am μ28 ++ (r)) hR (fun μ28 hR => ?_)
      refine r_aload_n 114 0 K (dk_of tX10_deliver 71 rfl) rfl rfl ?_
      refine r_getf (C := RX10) (T := TX10) (N := 29) 115 0 23 K (dk_of tX10_deliver 72 rfl) w1051 gwX10 rfl rfl (by decide) rfl ?_
      refine r_iconst 118 (2 : Int32) K (dk_of tX10_deliver 73 rfl) (by decide) ?_
      refine r_iload_n 119 1 K (dk_of tX10_deliver 74 rfl) rfl rfl ?_
      refine r_imul 120 K (dk_of tX10_deliver 75 rfl) ?_
      refine r_iload_n 121 2 K (dk_of tX10_deliver 76 rfl) rfl rfl ?_
      refine r_iadd 122 K (dk_of tX10_deliver 77 rfl) ?_
      refine r_dup2 123 K (dk_of tX10_deliver 78 rfl) rfl rfl ?_
      refine r_ialdR 124 16 K (dk_of tX10_deliver 79 rfl) rfl hR (fun hR => ?_)
      refine r_iload_n 125 3 K (dk_of tX10_deliver 80 rfl) rfl rfl ?_
      refine r_isub 126 K (dk_of tX10_deliver 81 rfl) ?_
      refine r_iastR 127 16 K (dk_of tX10_deliver 82 rfl) rfl sM_16 hR (fun hR => ?_)
      refine r_nmS (fun μ29 : St => wM γ am μ29 ++ (r)) hR (fun μ29 hR => ?_)
      refine r_aload_n 128 0 K (dk_of tX10_deliver 83 rfl) rfl rfl ?_
      refine r_getf (C := RX10) (T := TX10) (N := 29) 129 0 23 K (dk_of tX10_deliver 84 rfl) w1051 gwX10 rfl rfl (by decide) rfl ?_
      refine r_iconst 132 (2 : Int32) K (dk_of tX10_deliver 85 rfl) (by decide) ?_
      refine r_iload_n 133 1 K (dk_of tX10_deliver 86 rfl) rfl rfl ?_
      refine r_imul 134 K (dk_of tX10_deliver 87 rfl) ?_
      refine r_iload_n 135 2 K (dk_of tX10_deliver 88 rfl) rfl rfl ?_
      refine r_iadd 136 K (dk_of tX10_deliver 89 rfl) ?_
      refine r_ialdR 137 16 K (dk_of tX10_deliver 90 rfl) rfl hR (fun hR => ?_)
      exact r_iret 138 K hQ (dk_of tX10_deliver 91 rfl) (Nat.zero_le _) (Nat.zero_le _) (lfi (fun u9 : St => wM γ am u9 ++ (r)) hR)
    · refine r_iconst 92 (0 : Int32) K (dk_of tX10_deliver 55 rfl) (by decide) ?_
      exact r_iret 93 K hQ (dk_of tX10_deliver 56 rfl) (Nat.zero_le _) (Nat.zero_le _) (lfi (fun u9 : St => wM γ am u9 ++ (r)) hR)
  have b84 : ∀ (y16 : Int32) (y17 : Int32) (y18 : Int32) (μ19 : St), some (x0, μ0) = sp_X10_deliver_84  y16 y17 y18 μ19 → V l γ X M (wM γ am μ19 ++ (r)) [some (.ref (am 0)), some (.int y16), some (.int y17), some (.int y18)] 0 0 84 [.ref (am 0)] := by
    intro  y16 y17 y18 μ19 hR
    unfold sp_X10_deliver_84 at hR
    refine r_iconst 84 (0 : Int32) K (dk_of tX10_deliver 51 rfl) (by decide) ?_
    exact b85 y16 y17 y18 (0 : Int32) μ19 hR
  have b46 : ∀ (y9 : Int32) (y10 : Int32) (y11 : Int32) (y12 : Int32) (μ13 : St), some (x0, μ0) = sp_X10_deliver_46  y9 y10 y11 y12 μ13 → V l γ X M (wM γ am μ13 ++ (r)) [some (.ref (am 0)), some (.int y9), some (.int y10), some (.int y11)] 0 0 46 [.int y12, .ref (am 0)] := by
    intro  y9 y10 y11 y12 μ13 hR
    unfold sp_X10_deliver_46 at hR
    refine r_iconst 46 (2 : Int32) K (dk_of tX10_deliver 27 rfl) (by decide) ?_
    obtain ⟨x14, μ15, hc, hR⟩ := o2 hR
    refine r_cVi 47 0 [.int y12, .int (2 : Int32)] [] x14 (wM γ am μ15 ++ (r)) K (ct_X10_fails hl hc.symm) cs_X10_131 ⟨rfl, rfl, rfl⟩ (dk_of tX10_deliver 28 rfl) rfl rfl rfl rfl rfl rfl ?_
    refine r_if_eq 50 55 K (dk_of tX10_deliver 29 rfl) (by decide) hR (fun hR => ?_) (fun hR => ?_)
    · refine r_aload_n 55 0 K (dk_of tX10_deliver 32 rfl) rfl rfl ?_
      refine r_aload_n 56 0 K (dk_of tX10_deliver 33 rfl) rfl rfl ?_
      refine r_getf (C := RX10) (T := TX10) (N := 29) 57 0 20 K (dk_of tX10_deliver 34 rfl) w1048 gwX10 rfl rfl (by decide) rfl ?_
      refine r_iload_n 60 2 K (dk_of tX10_deliver 35 rfl) rfl rfl ?_
      refine r_ialdR 61 15 K (dk_of tX10_deliver 36 rfl) rfl hR (fun hR => ?_)
      refine r_iload_n 62 3 K (dk_of tX10_deliver 37 rfl) rfl rfl ?_
      refine r_ic_lt 63 84 K (dk_of tX10_deliver 38 rfl) (by decide) hR (fun hR => ?_) (fun hR => ?_)
      · exact b84 y9 y10 y11 μ15 hR
      · refine r_aload_n 66 0 K (dk_of tX10_deliver 39 rfl) rfl rfl ?_
        refine r_getf (C := RX10) (T := TX10) (N := 29) 67 0 23 K (dk_of tX10_deliver 40 rfl) w1051 gwX10 rfl rfl (by decide) rfl ?_
        refine r_iconst 70 (2 : Int32) K (dk_of tX10_deliver 41 rfl) (by decide) ?_
        refine r_iload_n 71 1 K (dk_of tX10_deliver 42 rfl) rfl rfl ?_
        refine r_imul 72 K (dk_of tX10_deliver 43 rfl) ?_
        refine r_iload_n 73 2 K (dk_of tX10_deliver 44 rfl) rfl rfl ?_
        refine r_iadd 74 K (dk_of tX10_deliver 45 rfl) ?_
        refine r_ialdR 75 16 K (dk_of tX10_deliver 46 rfl) rfl hR (fun hR => ?_)
        refine r_iload_n 76 3 K (dk_of tX10_deliver 47 rfl) rfl rfl ?_
        refine r_ic_lt 77 84 K (dk_of tX10_deliver 48 rfl) (by decide) hR (fun hR => ?_) (fun hR => ?_)
        · exact b84 y9 y10 y11 μ15 hR
        · refine r_iconst 80 (1 : Int32) K (dk_of tX10_deliver 49 rfl) (by decide) ?_
          refine r_goto 81 85 K (dk_of tX10_deliver 50 rfl) (by decide) ?_
          exact b85 y9 y10 y11 (1 : Int32) μ15 hR
    · refine r_iconst 53 (0 : Int32) K (dk_of tX10_deliver 30 rfl) (by decide) ?_
      exact r_iret 54 K hQ (dk_of tX10_deliver 31 rfl) (Nat.zero_le _) (Nat.zero_le _) (lfi (fun u9 : St => wM γ am u9 ++ (r)) hR)
  have b45 : ∀ (y5 : Int32) (y6 : Int32) (y7 : Int32) (μ8 : St), some (x0, μ0) = sp_X10_deliver_45  y5 y6 y7 μ8 → V l γ X M (wM γ am μ8 ++ (r)) [some (.ref (am 0)), some (.int y5), some (.int y6), some (.int y7)] 0 0 45 [.ref (am 0)] := by
    intro  y5 y6 y7 μ8 hR
    unfold sp_X10_deliver_45 at hR
    refine r_iconst 45 (0 : Int32) K (dk_of tX10_deliver 26 rfl) (by decide) ?_
    exact b46 y5 y6 y7 (0 : Int32) μ8 hR
  refine r_aload_n 0 0 K (dk_of tX10_deliver 0 rfl) rfl rfl ?_
  refine r_iload_n 1 1 K (dk_of tX10_deliver 1 rfl) rfl rfl ?_
  refine r_iconst 2 (0 : Int32) K (dk_of tX10_deliver 2 rfl) (by decide) ?_
  refine r_aload_n 3 0 K (dk_of tX10_deliver 3 rfl) rfl rfl ?_
  refine r_getf (C := RX10) (T := TX10) (N := 29) 4 0 22 K (dk_of tX10_deliver 4 rfl) w1050 gwX10 rfl rfl (by decide) rfl ?_
  refine r_iconst 7 (1 : Int32) K (dk_of tX10_deliver 5 rfl) (by decide) ?_
  refine r_isub 8 K (dk_of tX10_deliver 6 rfl) ?_
  obtain ⟨x1, hc, hR⟩ := o1 hR
  refine r_cSi 9 [.int p1, .int (0 : Int32), .int ((μ 0 22) - (1 : Int32))] [.ref (am 0)] x1 (wM γ am μ ++ (r)) K (ct_X10_in hl hc.symm) cs_X10_66 ⟨rfl, rfl, rfl⟩ (dk_of tX10_deliver 7 rfl) rfl rfl rfl rfl ?_
  refine r_iconst 12 (1 : Int32) K (dk_of tX10_deliver 8 rfl) (by decide) ?_
  obtain ⟨x2, μ3, hc, hR⟩ := o2 hR
  refine r_cVi 13 0 [.int x1, .int (1 : Int32)] [] x2 (wM γ am μ3 ++ (r)) K (ct_X10_fails hl hc.symm) cs_X10_131 ⟨rfl, rfl, rfl⟩ (dk_of tX10_deliver 9 rfl) rfl rfl rfl rfl rfl rfl ?_
  refine r_if_eq 16 21 K (dk_of tX10_deliver 10 rfl) (by decide) hR (fun hR => ?_) (fun hR => ?_)
  · refine r_aload_n 21 0 K (dk_of tX10_deliver 13 rfl) rfl rfl ?_
    refine r_iload_n 22 2 K (dk_of tX10_deliver 14 rfl) rfl rfl ?_
    refine r_iconst 23 (0 : Int32) K (dk_of tX10_deliver 15 rfl) (by decide) ?_
    refine r_iconst 24 (1 : Int32) K (dk_of tX10_deliver 16 rfl) (by decide) ?_
    obtain ⟨x4, hc, hR⟩ := o1 hR
    refine r_cSi 25 [.int p2, .int (0 : Int32), .int (1 : Int32)] [.ref (am 0)] x4 (wM γ am μ3 ++ (r)) K (ct_X10_in hl hc.symm) cs_X10_66 ⟨rfl, rfl, rfl⟩ (dk_of tX10_deliver 17 rfl) rfl rfl rfl rfl ?_
    refine r_if_eq 28 45 K (dk_of tX10_deliver 18 rfl) (by decide) hR (fun hR => ?_) (fun hR => ?_)
    · exact b45 p1 p2 p3 μ3 hR
    · refine r_iload_n 31 3 K (dk_of tX10_deliver 19 rfl) rfl rfl ?_
      refine r_iconst 32 (1 : Int32) K (dk_of tX10_deliver 20 rfl) (by decide) ?_
      refine r_ldc 33 100000 K (dk_of tX10_deliver 21 rfl) w1146 ?_
      obtain ⟨x30, hc, hR⟩ := o1 hR
      refine r_cSi 35 [.int p3, .int (1 : Int32), .int (100000 : Int32)] [.ref (am 0)] x30 (wM γ am μ3 ++ (r)) K (ct_X10_in hl hc.symm) cs_X10_66 ⟨rfl, rfl, rfl⟩ (dk_of tX10_deliver 22 rfl) rfl rfl rfl rfl ?_
      refine r_if_eq 38 45 K (dk_of tX10_deliver 23 rfl) (by decide) hR (fun hR => ?_) (fun hR => ?_)
      · exact b45 p1 p2 p3 μ3 hR
      · refine r_iconst 41 (1 : Int32) K (dk_of tX10_deliver 24 rfl) (by decide) ?_
        refine r_goto 42 46 K (dk_of tX10_deliver 25 rfl) (by decide) ?_
        exact b46 p1 p2 p3 (1 : Int32) μ3 hR
  · refine r_iconst 19 (0 : Int32) K (dk_of tX10_deliver 11 rfl) (by decide) ?_
    exact r_iret 20 K hQ (dk_of tX10_deliver 12 rfl) (Nat.zero_le _) (Nat.zero_le _) (lfi (fun u9 : St => wM γ am u9 ++ (r)) hR)

def sp_X10_waste (p1 : Int32) (μ : St) : Option (Int32 × St) := b1 (sp_X10_in p1 (0 : Int32) (1 : Int32)) (fun (x1 : Int32) => b2 (sp_X10_fails x1 (1 : Int32) μ) (fun (x2 : Int32) (μ3 : St) => if x2 = 0 then (if p1 < 0 ∨ 2 ≤ p1.toNatClampNeg then none else (some ((μ3 15 p1.toNatClampNeg), μ3))) else (some ((0 : Int32), μ3))))
set_option maxHeartbeats 4000000 in
set_option maxRecDepth 100000 in
theorem ct_X10_waste {l : Launch} (hl : l.stackTraces = false) {γ : Gd} {am : Nat → Nat} {μ : St} {r : va_W} {p1 : Int32} {x0 : Int32} {μ0 : St} (hR : some (x0, μ0) = sp_X10_waste p1 μ) : Ct l γ yX10_waste (Cond.code yX10_waste cX10_waste 2 (some .int)) ({ frames := 1, cells := 0, slots := 0, locals := 22 } : Room) [.ref (am 0), .int p1] (wM γ am μ ++ (r)) (Pr (some (.int x0)) (wM γ am μ0 ++ (r))) 0 0 := by
  refine Ct_of hl (by decide +kernel) rfl (Nat.le_of_ble_eq_true rfl) (L := [some (.ref (am 0)), some (.int p1)]) rfl ?_
  intro X Q K hQ
  generalize ((wM γ am μ ++ (r), Q) : MX) = M at K hQ ⊢
  unfold sp_X10_waste at hR
  refine r_aload_n 0 0 K (dk_of tX10_waste 0 rfl) rfl rfl ?_
  refine r_iload_n 1 1 K (dk_of tX10_waste 1 rfl) rfl rfl ?_
  refine r_iconst 2 (0 : Int32) K (dk_of tX10_waste 2 rfl) (by decide) ?_
  refine r_iconst 3 (1 : Int32) K (dk_of tX10_waste 3 rfl) (by decide) ?_
  obtain ⟨x1, hc, hR⟩ := o1 hR
  refine r_cSi 4 [.int p1, .int (0 : Int32), .int (1 : Int32)] [.ref (am 0)] x1 (wM γ am μ ++ (r)) K (ct_X10_in hl hc.symm) cs_X10_66 ⟨rfl, rfl, rfl⟩ (dk_of tX10_waste 4 rfl) rfl rfl rfl rfl ?_
  refine r_iconst 7 (1 : Int32) K (dk_of tX10_waste 5 rfl) (by decide) ?_
  obtain ⟨x2, μ3, hc, hR⟩ := o2 hR
  refine r_cVi 8 0 [.int x1, .int (1 : Int32)] [] x2 (wM γ am μ3 ++ (r)) K (ct_X10_fails hl hc.symm) cs_X10_131 ⟨rfl, rfl, rfl⟩ (dk_of tX10_waste 6 rfl) rfl rfl rfl rfl rfl rfl ?_
  refine r_if_eq 11 16 K (dk_of tX10_waste 7 rfl) (by decide) hR (fun hR => ?_) (fun hR => ?_)
  · refine r_aload_n 16 0 K (dk_of tX10_waste 10 rfl) rfl rfl ?_
    refine r_getf (C := RX10) (T := TX10) (N := 29) 17 0 20 K (dk_of tX10_waste 11 rfl) w1048 gwX10 rfl rfl (by decide) rfl ?_
    refine r_iload_n 20 1 K (dk_of tX10_waste 12 rfl) rfl rfl ?_
    refine r_ialdR 21 15 K (dk_of tX10_waste 13 rfl) rfl hR (fun hR => ?_)
    exact r_iret 22 K hQ (dk_of tX10_waste 14 rfl) (Nat.zero_le _) (Nat.zero_le _) (lfi (fun u9 : St => wM γ am u9 ++ (r)) hR)
  · refine r_iconst 14 (0 : Int32) K (dk_of tX10_waste 8 rfl) (by decide) ?_
    exact r_iret 15 K hQ (dk_of tX10_waste 9 rfl) (Nat.zero_le _) (Nat.zero_le _) (lfi (fun u9 : St => wM γ am u9 ++ (r)) hR)

def sp_X10_claim_32  (y4 : Int32) (y5 : Int32) (μ6 : St) : Option (Int32 × St) := b2 (sp_X10_fails y5 (2 : Int32) μ6) (fun (x7 : Int32) (μ8 : St) => if x7 = 0 then (if (μ8 0 24) < 0 ∨ 20 ≤ (μ8 0 24).toNatClampNeg then none else (sl (stU μ8 17 (μ8 0 24).toNatClampNeg y4) (fun μ9 : St => sl (stU μ9 0 24 ((μ9 0 24) + (1 : Int32))) (fun μ10 : St => some (((μ10 0 24) - (1 : Int32)), μ10))))) else (some ((0 : Int32), μ8)))
def sp_X10_claim (p1 : Int32) (μ : St) : Option (Int32 × St) := b1 (sp_X10_in p1 (1 : Int32) (1000000 : Int32)) (fun (x1 : Int32) => b2 (sp_X10_fails x1 (1 : Int32) μ) (fun (x2 : Int32) (μ3 : St) => if x2 = 0 then (if (20 : Int32) ≤ (μ3 0 24) then (sp_X10_claim_32 p1 (0 : Int32) μ3) else (sp_X10_claim_32 p1 (1 : Int32) μ3)) else (some ((0 : Int32), μ3))))
set_option maxHeartbeats 4000000 in
set_option maxRecDepth 100000 in
theorem ct_X10_claim {l : Launch} (hl : l.stackTraces = false) {γ : Gd} {am : Nat → Nat} {μ : St} {r : va_W} {p1 : Int32} {x0 : Int32} {μ0 : St} (hR : some (x0, μ0) = sp_X10_claim p1 μ) : Ct l γ yX10_claim (Cond.code yX10_claim cX10_claim 2 (some .int)) ({ frames := 1, cells := 0, slots := 0, locals := 22 } : Room) [.ref (am 0), .int p1] (wM γ am μ ++ (r)) (Pr (some (.int x0)) (wM γ am μ0 ++ (r))) 0 0 := by
  refine Ct_of hl (by decide +kernel) rfl (Nat.le_of_ble_eq_true rfl) (L := [some (.ref (am 0)), some (.int p1)]) rfl ?_
  intro X Q K hQ
  generalize ((wM γ am μ ++ (r), Q) : MX) = M at K hQ ⊢
  unfold sp_X10_claim at hR
  have b32 : ∀ (y4 : Int32) (y5 : Int32) (μ6 : St), some (x0, μ0) = sp_X10_claim_32  y4 y5 μ6 → V l γ X M (wM γ am μ6 ++ (r)) [some (.ref (am 0)), some (.int y4)] 0 0 32 [.int y5, .ref (am 0)] := by
    intro  y4 y5 μ6 hR
    unfold sp_X10_claim_32 at hR
    refine r_iconst 32 (2 : Int32) K (dk_of tX10_claim 18 rfl) (by decide) ?_
    obtain ⟨x7, μ8, hc, hR⟩ := o2 hR
    refine r_cVi 33 0 [.int y5, .int (2 : Int32)] [] x7 (wM γ am μ8 ++ (r)) K (ct_X10_fails hl hc.symm) cs_X10_131 ⟨rfl, rfl, rfl⟩ (dk_of tX10_claim 19 rfl) rfl rfl rfl rfl rfl rfl ?_
    refine r_if_eq 36 41 K (dk_of tX10_claim 20 rfl) (by decide) hR (fun hR => ?_) (fun hR => ?_)
    · refine r_aload_n 41 0 K (dk_of tX10_claim 23 rfl) rfl rfl ?_
      refine r_getf (C := RX10) (T := TX10) (N := 29) 42 0 25 K (dk_of tX10_claim 24 rfl) w1053 gwX10 rfl rfl (by decide) rfl ?_
      refine r_aload_n 45 0 K (dk_of tX10_claim 25 rfl) rfl rfl ?_
      refine r_getf (C := RX10) (T := TX10) (N := 29) 46 0 24 K (dk_of tX10_claim 26 rfl) w1052 gwX10 rfl rfl (by decide) rfl ?_
      refine r_iload_n 49 1 K (dk_of tX10_claim 27 rfl) rfl rfl ?_
      refine r_iastR 50 17 K (dk_of tX10_claim 28 rfl) rfl sM_17 hR (fun hR => ?_)
      refine r_nmS (fun μ9 : St => wM γ am μ9 ++ (r)) hR (fun μ9 hR => ?_)
      refine r_aload_n 51 0 K (dk_of tX10_claim 29 rfl) rfl rfl ?_
      refine r_dup 52 K (dk_of tX10_claim 30 rfl) rfl ?_
      refine r_getf (C := RX10) (T := TX10) (N := 29) 53 0 24 K (dk_of tX10_claim 31 rfl) w1052 gwX10 rfl rfl (by decide) rfl ?_
      refine r_iconst 56 (1 : Int32) K (dk_of tX10_claim 32 rfl) (by decide) ?_
      refine r_iadd 57 K (dk_of tX10_claim 33 rfl) ?_
      refine r_putf (C := RX10) (T := TX10) (N := 29) 58 0 24 K (dk_of tX10_claim 34 rfl) w1052 gwX10 tyX10_ok nmX10 rfl rfl (by decide) rfl rfl rfl rfl (Nat.le_of_ble_eq_true rfl) sM_0_24 ?_
      refine r_nmS (fun μ10 : St => wM γ am μ10 ++ (r)) hR (fun μ10 hR => ?_)
      refine r_aload_n 61 0 K (dk_of tX10_claim 35 rfl) rfl rfl ?_
      refine r_getf (C := RX10) (T := TX10) (N := 29) 62 0 24 K (dk_of tX10_claim 36 rfl) w1052 gwX10 rfl rfl (by decide) rfl ?_
      refine r_iconst 65 (1 : Int32) K (dk_of tX10_claim 37 rfl) (by decide) ?_
      refine r_isub 66 K (dk_of tX10_claim 38 rfl) ?_
      exact r_iret 67 K hQ (dk_of tX10_claim 39 rfl) (Nat.zero_le _) (Nat.zero_le _) (lfi (fun u9 : St => wM γ am u9 ++ (r)) hR)
    · refine r_iconst 39 (0 : Int32) K (dk_of tX10_claim 21 rfl) (by decide) ?_
      exact r_iret 40 K hQ (dk_of tX10_claim 22 rfl) (Nat.zero_le _) (Nat.zero_le _) (lfi (fun u9 : St => wM γ am u9 ++ (r)) hR)
  refine r_aload_n 0 0 K (dk_of tX10_claim 0 rfl) rfl rfl ?_
  refine r_iload_n 1 1 K (dk_of tX10_claim 1 rfl) rfl rfl ?_
  refine r_iconst 2 (1 : Int32) K (dk_of tX10_claim 2 rfl) (by decide) ?_
  refine r_ldc 3 1000000 K (dk_of tX10_claim 3 rfl) w1315 ?_
  obtain ⟨x1, hc, hR⟩ := o1 hR
  refine r_cSi 5 [.int p1, .int (1 : Int32), .int (1000000 : Int32)] [.ref (am 0)] x1 (wM γ am μ ++ (r)) K (ct_X10_in hl hc.symm) cs_X10_66 ⟨rfl, rfl, rfl⟩ (dk_of tX10_claim 4 rfl) rfl rfl rfl rfl ?_
  refine r_iconst 8 (1 : Int32) K (dk_of tX10_claim 5 rfl) (by decide) ?_
  obtain ⟨x2, μ3, hc, hR⟩ := o2 hR
  refine r_cVi 9 0 [.int x1, .int (1 : Int32)] [] x2 (wM γ am μ3 ++ (r)) K (ct_X10_fails hl hc.symm) cs_X10_131 ⟨rfl, rfl, rfl⟩ (dk_of tX10_claim 6 rfl) rfl rfl rfl rfl rfl rfl ?_
  refine r_if_eq 12 17 K (dk_of tX10_claim 7 rfl) (by decide) hR (fun hR => ?_) (fun hR => ?_)
  · refine r_aload_n 17 0 K (dk_of tX10_claim 10 rfl) rfl rfl ?_
    refine r_aload_n 18 0 K (dk_of tX10_claim 11 rfl) rfl rfl ?_
    refine r_getf (C := RX10) (T := TX10) (N := 29) 19 0 24 K (dk_of tX10_claim 12 rfl) w1052 gwX10 rfl rfl (by decide) rfl ?_
    refine r_bipush 22 (20 : Int32) K (dk_of tX10_claim 13 rfl) (by decide) ?_
    refine r_ic_ge 24 31 K (dk_of tX10_claim 14 rfl) (by decide) hR (fun hR => ?_) (fun hR => ?_)
    · refine r_iconst 31 (0 : Int32) K (dk_of tX10_claim 17 rfl) (by decide) ?_
      exact b32 p1 (0 : Int32) μ3 hR
    · refine r_iconst 27 (1 : Int32) K (dk_of tX10_claim 15 rfl) (by decide) ?_
      refine r_goto 28 32 K (dk_of tX10_claim 16 rfl) (by decide) ?_
      exact b32 p1 (1 : Int32) μ3 hR
  · refine r_iconst 15 (0 : Int32) K (dk_of tX10_claim 8 rfl) (by decide) ?_
    exact r_iret 16 K hQ (dk_of tX10_claim 9 rfl) (Nat.zero_le _) (Nat.zero_le _) (lfi (fun u9 : St => wM γ am u9 ++ (r)) hR)

def sp_X10_layers_26  (y5 : Int32) (y6 : Int32) (y7 : Int32) (μ8 : St) : Option (Int32 × St) := b2 (sp_X10_fails y7 (1 : Int32) μ8) (fun (x9 : Int32) (μ10 : St) => if x9 = 0 then (sl (((μ10 0 26) + (μ10 0 27))) (fun x11 : Int32 => sl (stU μ10 0 26 y5) (fun μ12 : St => sl (stU μ12 0 27 y6) (fun μ13 : St => some (x11, μ13))))) else (some ((0 : Int32), μ10)))
def sp_X10_layers_25  (y2 : Int32) (y3 : Int32) (μ4 : St) : Option (Int32 × St) := sp_X10_layers_26 y2 y3 (0 : Int32) μ4
def sp_X10_layers (p1 : Int32) (p2 : Int32) (μ : St) : Option (Int32 × St) := b1 (sp_X10_in p1 (0 : Int32) (10000000 : Int32)) (fun (x1 : Int32) => if x1 = 0 then (sp_X10_layers_25 p1 p2 μ) else (b1 (sp_X10_in p2 (0 : Int32) (10000000 : Int32)) (fun (x14 : Int32) => if x14 = 0 then (sp_X10_layers_25 p1 p2 μ) else (sp_X10_layers_26 p1 p2 (1 : Int32) μ))))
set_option maxHeartbeats 4000000 in
set_option maxRecDepth 100000 in
theorem ct_X10_layers {l : Launch} (hl : l.stackTraces = false) {γ : Gd} {am : Nat → Nat} {μ : St} {r : va_W} {p1 : Int32} {p2 : Int32} {x0 : Int32} {μ0 : St} (hR : some (x0, μ0) = sp_X10_layers p1 p2 μ) : Ct l γ yX10_layers (Cond.code yX10_layers cX10_layers 4 (some .int)) ({ frames := 1, cells := 0, slots := 0, locals := 22 } : Room) [.ref (am 0), .int p1, .int p2] (wM γ am μ ++ (r)) (Pr (some (.int x0)) (wM γ am μ0 ++ (r))) 0 0 := by
  refine Ct_of hl (by decide +kernel) rfl (Nat.le_of_ble_eq_true rfl) (L := [some (.ref (am 0)), some (.int p1), some (.int p2), none]) rfl ?_
  intro X Q K hQ
  generalize ((wM γ am μ ++ (r), Q) : MX) = M at K hQ ⊢
  unfold sp_X10_layers at hR
  have b26 : ∀ (y5 : Int32) (y6 : Int32) (y7 : Int32) (μ8 : St), some (x0, μ0) = sp_X10_layers_26  y5 y6 y7 μ8 → V l γ X M (wM γ am μ8 ++ (r)) [some (.ref (am 0)), some (.int y5), some (.int y6), none] 0 0 26 [.int y7, .ref (am 0)] := by
    intro  y5 y6 y7 μ8 hR
    unfold sp_X10_layers_26 at hR
    refine r_iconst 26 (1 : Int32) K (dk_of tX10_layers 14 rfl) (by decide) ?_
    obtain ⟨x9, μ10, hc, hR⟩ := o2 hR
    refine r_cVi 27 0 [.int y7, .int (1 : Int32)] [] x9 (wM γ am μ10 ++ (r)) K (ct_X10_fails hl hc.symm) cs_X10_131 ⟨rfl, rfl, rfl⟩ (dk_of tX10_layers 15 rfl) rfl rfl rfl rfl rfl rfl ?_
    refine r_if_eq 30 35 K (dk_of tX10_layers 16 rfl) (by decide) hR (fun hR => ?_) (fun hR => ?_)
    · refine r_aload_n 35 0 K (dk_of tX10_layers 19 rfl) rfl rfl ?_
      refine r_getf (C := RX10) (T := TX10) (N := 29) 36 0 26 K (dk_of tX10_layers 20 rfl) w1054 gwX10 rfl rfl (by decide) rfl ?_
      refine r_aload_n 39 0 K (dk_of tX10_layers 21 rfl) rfl rfl ?_
      refine r_getf (C := RX10) (T := TX10) (N := 29) 40 0 27 K (dk_of tX10_layers 22 rfl) w1055 gwX10 rfl rfl (by decide) rfl ?_
      refine r_iadd 43 K (dk_of tX10_layers 23 rfl) ?_
      refine r_nmI hR (fun x11 hR => ?_)
      refine r_istore_n 44 3 [some (.ref (am 0)), some (.int y5), some (.int y6), some (.int x11)] K (dk_of tX10_layers 24 rfl) rfl rfl rfl (by decide) ?_
      refine r_aload_n 45 0 K (dk_of tX10_layers 25 rfl) rfl rfl ?_
      refine r_iload_n 46 1 K (dk_of tX10_layers 26 rfl) rfl rfl ?_
      refine r_putf (C := RX10) (T := TX10) (N := 29) 47 0 26 K (dk_of tX10_layers 27 rfl) w1054 gwX10 tyX10_ok nmX10 rfl rfl (by decide) rfl rfl rfl rfl (Nat.le_of_ble_eq_true rfl) sM_0_26 ?_
      refine r_nmS (fun μ12 : St => wM γ am μ12 ++ (r)) hR (fun μ12 hR => ?_)
      refine r_aload_n 50 0 K (dk_of tX10_layers 28 rfl) rfl rfl ?_
      refine r_iload_n 51 2 K (dk_of tX10_layers 29 rfl) rfl rfl ?_
      refine r_putf (C := RX10) (T := TX10) (N := 29) 52 0 27 K (dk_of tX10_layers 30 rfl) w1055 gwX10 tyX10_ok nmX10 rfl rfl (by decide) rfl rfl rfl rfl (Nat.le_of_ble_eq_true rfl) sM_0_27 ?_
      refine r_nmS (fun μ13 : St => wM γ am μ13 ++ (r)) hR (fun μ13 hR => ?_)
      refine r_iload_n 55 3 K (dk_of tX10_layers 31 rfl) rfl rfl ?_
      exact r_iret 56 K hQ (dk_of tX10_layers 32 rfl) (Nat.zero_le _) (Nat.zero_le _) (lfi (fun u9 : St => wM γ am u9 ++ (r)) hR)
    · refine r_iconst 33 (0 : Int32) K (dk_of tX10_layers 17 rfl) (by decide) ?_
      exact r_iret 34 K hQ (dk_of tX10_layers 18 rfl) (Nat.zero_le _) (Nat.zero_le _) (lfi (fun u9 : St => wM γ am u9 ++ (r)) hR)
  have b25 : ∀ (y2 : Int32) (y3 : Int32) (μ4 : St), some (x0, μ0) = sp_X10_layers_25  y2 y3 μ4 → V l γ X M (wM γ am μ4 ++ (r)) [some (.ref (am 0)), some (.int y2), some (.int y3), none] 0 0 25 [.ref (am 0)] := by
    intro  y2 y3 μ4 hR
    unfold sp_X10_layers_25 at hR
    refine r_iconst 25 (0 : Int32) K (dk_of tX10_layers 13 rfl) (by decide) ?_
    exact b26 y2 y3 (0 : Int32) μ4 hR
  refine r_aload_n 0 0 K (dk_of tX10_layers 0 rfl) rfl rfl ?_
  refine r_iload_n 1 1 K (dk_of tX10_layers 1 rfl) rfl rfl ?_
  refine r_iconst 2 (0 : Int32) K (dk_of tX10_layers 2 rfl) (by decide) ?_
  refine r_ldc 3 10000000 K (dk_of tX10_layers 3 rfl) w1320 ?_
  obtain ⟨x1, hc, hR⟩ := o1 hR
  refine r_cSi 5 [.int p1, .int (0 : Int32), .int (10000000 : Int32)] [.ref (am 0)] x1 (wM γ am μ ++ (r)) K (ct_X10_in hl hc.symm) cs_X10_66 ⟨rfl, rfl, rfl⟩ (dk_of tX10_layers 4 rfl) rfl rfl rfl rfl ?_
  refine r_if_eq 8 25 K (dk_of tX10_layers 5 rfl) (by decide) hR (fun hR => ?_) (fun hR => ?_)
  · exact b25 p1 p2 μ hR
  · refine r_iload_n 11 2 K (dk_of tX10_layers 6 rfl) rfl rfl ?_
    refine r_iconst 12 (0 : Int32) K (dk_of tX10_layers 7 rfl) (by decide) ?_
    refine r_ldc 13 10000000 K (dk_of tX10_layers 8 rfl) w1320 ?_
    obtain ⟨x14, hc, hR⟩ := o1 hR
    refine r_cSi 15 [.int p2, .int (0 : Int32), .int (10000000 : Int32)] [.ref (am 0)] x14 (wM γ am μ ++ (r)) K (ct_X10_in hl hc.symm) cs_X10_66 ⟨rfl, rfl, rfl⟩ (dk_of tX10_layers 9 rfl) rfl rfl rfl rfl ?_
    refine r_if_eq 18 25 K (dk_of tX10_layers 10 rfl) (by decide) hR (fun hR => ?_) (fun hR => ?_)
    · exact b25 p1 p2 μ hR
    · refine r_iconst 21 (1 : Int32) K (dk_of tX10_layers 11 rfl) (by decide) ?_
      refine r_goto 22 26 K (dk_of tX10_layers 12 rfl) (by decide) ?_
      exact b26 p1 p2 (1 : Int32) μ hR

def sp_X10_due_127  (y14 : Int32) (y15 : Int32) (y16 : Int32) (μ17 : St) : Option (Int32 × St) := if y14 = 0 then (some (y16, μ17)) else (some ((y15 - y16), μ17))
def sp_X10_due_42 (y7 : Int32) (y8 : Int32) : Nat → Int32 → Int32 → St → Option (Int32 × St)
  | 0, _, _, _ => none
  | n + 1, y9, y10, μ11 => if (μ11 0 24) ≤ y10 then (b1 (sp_X10_least ((μ11 0 26) + (μ11 0 27)) y9) (fun (x12 : Int32) => if y7 < 0 ∨ 20 ≤ y7.toNatClampNeg then none else (if y9.toInt64 = 0 then none else (sl (((((μ11 17 y7.toNatClampNeg).toInt64) * x12.toInt64) / y9.toInt64).toInt32) (fun x13 : Int32 => if x12 = 0 then (sp_X10_due_127 y8 x13 (0 : Int32) μ11) else (b1 (sp_X10_least (μ11 0 26) x12) (fun (x18 : Int32) => if x12.toInt64 = 0 then none else (sp_X10_due_127 y8 x13 (((x13.toInt64 * x18.toInt64) / x12.toInt64).toInt32) μ11)))))))) else (if y10 < 0 ∨ 20 ≤ y10.toNatClampNeg then none else (sl ((y9 + (μ11 17 y10.toNatClampNeg))) (fun x19 : Int32 => sp_X10_due_42 y7 y8 n x19 (y10 + 1) μ11)))
def sp_X10_due (p1 : Int32) (p2 : Int32) (μ : St) : Option (Int32 × St) := b1 (sp_X10_in p1 (0 : Int32) ((μ 0 24) - (1 : Int32))) (fun (x1 : Int32) => b2 (sp_X10_fails x1 (1 : Int32) μ) (fun (x2 : Int32) (μ3 : St) => if x2 = 0 then (b1 (sp_X10_in p2 (0 : Int32) (1 : Int32)) (fun (x4 : Int32) => b2 (sp_X10_fails x4 (2 : Int32) μ3) (fun (x5 : Int32) (μ6 : St) => if x5 = 0 then (sp_X10_due_42 p1 p2 200 (0 : Int32) (0 : Int32) μ6) else (some ((0 : Int32), μ6))))) else (some ((0 : Int32), μ3))))
set_option maxHeartbeats 4000000 in
set_option maxRecDepth 100000 in
theorem ct_X10_due {l : Launch} (hl : l.stackTraces = false) {γ : Gd} {am : Nat → Nat} {μ : St} {r : va_W} {p1 : Int32} {p2 : Int32} {x0 : Int32} {μ0 : St} (hR : some (x0, μ0) = sp_X10_due p1 p2 μ) : Ct l γ yX10_due (Cond.code yX10_due cX10_due 7 (some .int)) ({ frames := 1, cells := 0, slots := 0, locals := 22 } : Room) [.ref (am 0), .int p1, .int p2] (wM γ am μ ++ (r)) (Pr (some (.int x0)) (wM γ am μ0 ++ (r))) 0 0 := by
  refine Ct_of hl (by decide +kernel) rfl (Nat.le_of_ble_eq_true rfl) (L := [some (.ref (am 0)), some (.int p1), some (.int p2), none, none, none, none]) rfl ?_
  intro X Q K hQ
  generalize ((wM γ am μ ++ (r), Q) : MX) = M at K hQ ⊢
  unfold sp_X10_due at hR
  have b127 : ∀ (y14 : Int32) (y15 : Int32) (y16 : Int32) (μ17 : St), some (x0, μ0) = sp_X10_due_127  y14 y15 y16 μ17 → V l γ X M (wM γ am μ17 ++ (r)) [none, none, some (.int y14), none, none, some (.int y15), none] 0 0 127 [.int y16] := by
    intro  y14 y15 y16 μ17 hR
    unfold sp_X10_due_127 at hR
    refine r_istore 127 6 [none, none, some (.int y14), none, none, some (.int y15), some (.int y16)] K (dk_of tX10_due 77 rfl) rfl rfl (by decide) ?_
    refine r_iload_n 129 2 K (dk_of tX10_due 78 rfl) rfl rfl ?_
    refine r_if_ne 130 138 K (dk_of tX10_due 79 rfl) (by decide) hR (fun hR => ?_) (fun hR => ?_)
    · refine r_iload 133 6 K (dk_of tX10_due 80 rfl) rfl ?_
      refine r_goto 135 143 K (dk_of tX10_due 81 rfl) (by decide) ?_
      exact r_iret 143 K hQ (dk_of tX10_due 85 rfl) (Nat.zero_le _) (Nat.zero_le _) (lfi (fun u9 : St => wM γ am u9 ++ (r)) hR)
    · refine r_iload 138 5 K (dk_of tX10_due 82 rfl) rfl ?_
      refine r_iload 140 6 K (dk_of tX10_due 83 rfl) rfl ?_
      refine r_isub 142 K (dk_of tX10_due 84 rfl) ?_
      exact r_iret 143 K hQ (dk_of tX10_due 85 rfl) (Nat.zero_le _) (Nat.zero_le _) (lfi (fun u9 : St => wM γ am u9 ++ (r)) hR)
  have b42 : ∀ (y7 : Int32) (y8 : Int32) (n : Nat) (y9 : Int32) (y10 : Int32) (μ11 : St), some (x0, μ0) = sp_X10_due_42 y7 y8 n y9 y10 μ11 → V l γ X M (wM γ am μ11 ++ (r)) [some (.ref (am 0)), some (.int y7), some (.int y8), some (.int y9), some (.int y10), none, none] 0 0 42 [] := by
    intro y7 y8 n
    induction n with
    | zero => intro y9 y10 μ11 hR; exact nn_ hR
    | succ n ih42 =>
      intro y9 y10 μ11 hR
      rw [sp_X10_due_42] at hR
      refine r_iload 42 4 K (dk_of tX10_due 27 rfl) rfl ?_
      refine r_aload_n 44 0 K (dk_of tX10_due 28 rfl) rfl rfl ?_
      refine r_getf (C := RX10) (T := TX10) (N := 29) 45 0 24 K (dk_of tX10_due 29 rfl) w1052 gwX10 rfl rfl (by decide) rfl ?_
      refine r_ic_ge 48 67 K (dk_of tX10_due 30 rfl) (by decide) hR (fun hR => ?_) (fun hR => ?_)
      · refine r_aload_n 67 0 K (dk_of tX10_due 40 rfl) rfl rfl ?_
        refine r_getf (C := RX10) (T := TX10) (N := 29) 68 0 26 K (dk_of tX10_due 41 rfl) w1054 gwX10 rfl rfl (by decide) rfl ?_
        refine r_aload_n 71 0 K (dk_of tX10_due 42 rfl) rfl rfl ?_
        refine r_getf (C := RX10) (T := TX10) (N := 29) 72 0 27 K (dk_of tX10_due 43 rfl) w1055 gwX10 rfl rfl (by decide) rfl ?_
        refine r_iadd 75 K (dk_of tX10_due 44 rfl) ?_
        refine r_iload_n 76 3 K (dk_of tX10_due 45 rfl) rfl rfl ?_
        obtain ⟨x12, hc, hR⟩ := o1 hR
        refine r_cSi 77 [.int ((μ11 0 26) + (μ11 0 27)), .int y9] [] x12 (wM γ am μ11 ++ (r)) K (ct_X10_least hl hc.symm) cs_X10_88 ⟨rfl, rfl, rfl⟩ (dk_of tX10_due 46 rfl) rfl rfl rfl rfl ?_
        refine r_istore 80 4 [some (.ref (am 0)), some (.int y7), some (.int y8), some (.int y9), some (.int x12), none, none] K (dk_of tX10_due 47 rfl) rfl rfl (by decide) ?_
        refine r_aload_n 82 0 K (dk_of tX10_due 48 rfl) rfl rfl ?_
        refine r_getf (C := RX10) (T := TX10) (N := 29) 83 0 25 K (dk_of tX10_due 49 rfl) w1053 gwX10 rfl rfl (by decide) rfl ?_
        refine r_iload_n 86 1 K (dk_of tX10_due 50 rfl) rfl rfl ?_
        refine r_ialdR 87 17 K (dk_of tX10_due 51 rfl) rfl hR (fun hR => ?_)
        refine r_i2l 88 K (dk_of tX10_due 52 rfl) ?_
        refine r_iload 89 4 K (dk_of tX10_due 53 rfl) rfl ?_
        refine r_i2l 91 K (dk_of tX10_due 54 rfl) ?_
        refine r_lmul 92 K (dk_of tX10_due 55 rfl) ?_
        refine r_iload_n 93 3 K (dk_of tX10_due 56 rfl) rfl rfl ?_
        refine r_i2l 94 K (dk_of tX10_due 57 rfl) ?_
        refine r_ldivR 95 K (dk_of tX10_due 58 rfl) hR (fun hR => ?_)
        refine r_l2i 96 K (dk_of tX10_due 59 rfl) ?_
        refine r_nmI hR (fun x13 hR => ?_)
        refine r_istore 97 5 [some (.ref (am 0)), some (.int y7), some (.int y8), some (.int y9), some (.int x12), some (.int x13), none] K (dk_of tX10_due 60 rfl) rfl rfl (by decide) ?_
        refine r_iload 99 4 K (dk_of tX10_due 61 rfl) rfl ?_
        refine r_if_ne 101 108 K (dk_of tX10_due 62 rfl) (by decide) hR (fun hR => ?_) (fun hR => ?_)
        · refine r_iconst 104 (0 : Int32) K (dk_of tX10_due 63 rfl) (by decide) ?_
          refine r_goto 105 127 K (dk_of tX10_due 64 rfl) (by decide) ?_
          exact r_msk [false, false, true, false, false, true, true] [none, none, some (.int y8), none, none, some (.int x13), none] rfl (b127 y8 x13 (0 : Int32) μ11 hR)
        · refine r_iload 108 5 K (dk_of tX10_due 65 rfl) rfl ?_
          refine r_i2l 110 K (dk_of tX10_due 66 rfl) ?_
          refine r_aload_n 111 0 K (dk_of tX10_due 67 rfl) rfl rfl ?_
          refine r_getf (C := RX10) (T := TX10) (N := 29) 112 0 26 K (dk_of tX10_due 68 rfl) w1054 gwX10 rfl rfl (by decide) rfl ?_
          refine r_iload 115 4 K (dk_of tX10_due 69 rfl) rfl ?_
          obtain ⟨x18, hc, hR⟩ := o1 hR
          refine r_cSi 117 [.int (μ11 0 26), .int x12] [.long x13.toInt64] x18 (wM γ am μ11 ++ (r)) K (ct_X10_least hl hc.symm) cs_X10_88 ⟨rfl, rfl, rfl⟩ (dk_of tX10_due 70 rfl) rfl rfl rfl rfl ?_
          refine r_i2l 120 K (dk_of tX10_due 71 rfl) ?_
          refine r_lmul 121 K (dk_of tX10_due 72 rfl) ?_
          refine r_iload 122 4 K (dk_of tX10_due 73 rfl) rfl ?_
          refine r_i2l 124 K (dk_of tX10_due 74 rfl) ?_
          refine r_ldivR 125 K (dk_of tX10_due 75 rfl) hR (fun hR => ?_)
          refine r_l2i 126 K (dk_of tX10_due 76 rfl) ?_
          exact r_msk [false, false, true, false, false, true, true] [none, none, some (.int y8), none, none, some (.int x13), none] rfl (b127 y8 x13 (((x13.toInt64 * x18.toInt64) / x12.toInt64).toInt32) μ11 hR)
      · refine r_iload_n 51 3 K (dk_of tX10_due 31 rfl) rfl rfl ?_
        refine r_aload_n 52 0 K (dk_of tX10_due 32 rfl) rfl rfl ?_
        refine r_getf (C := RX10) (T := TX10) (N := 29) 53 0 25 K (dk_of tX10_due 33 rfl) w1053 gwX10 rfl rfl (by decide) rfl ?_
        refine r_iload 56 4 K (dk_of tX10_due 34 rfl) rfl ?_
        refine r_ialdR 58 17 K (dk_of tX10_due 35 rfl) rfl hR (fun hR => ?_)
        refine r_iadd 59 K (dk_of tX10_due 36 rfl) ?_
        refine r_nmI hR (fun x19 hR => ?_)
        refine r_istore_n 60 3 [some (.ref (am 0)), some (.int y7), some (.int y8), some (.int x19), some (.int y10), none, none] K (dk_of tX10_due 37 rfl) rfl rfl rfl (by decide) ?_
        refine r_iinc 61 4 (y10 + 1) [some (.ref (am 0)), some (.int y7), some (.int y8), some (.int x19), some (.int (y10 + 1)), none, none] K (dk_of tX10_due 38 rfl) rfl rfl rfl rfl (by decide) ?_
        refine r_goto 64 42 K (dk_of tX10_due 39 rfl) (by decide) ?_
        exact ih42 x19 (y10 + 1) μ11 hR
  refine r_aload_n 0 0 K (dk_of tX10_due 0 rfl) rfl rfl ?_
  refine r_iload_n 1 1 K (dk_of tX10_due 1 rfl) rfl rfl ?_
  refine r_iconst 2 (0 : Int32) K (dk_of tX10_due 2 rfl) (by decide) ?_
  refine r_aload_n 3 0 K (dk_of tX10_due 3 rfl) rfl rfl ?_
  refine r_getf (C := RX10) (T := TX10) (N := 29) 4 0 24 K (dk_of tX10_due 4 rfl) w1052 gwX10 rfl rfl (by decide) rfl ?_
  refine r_iconst 7 (1 : Int32) K (dk_of tX10_due 5 rfl) (by decide) ?_
  refine r_isub 8 K (dk_of tX10_due 6 rfl) ?_
  obtain ⟨x1, hc, hR⟩ := o1 hR
  refine r_cSi 9 [.int p1, .int (0 : Int32), .int ((μ 0 24) - (1 : Int32))] [.ref (am 0)] x1 (wM γ am μ ++ (r)) K (ct_X10_in hl hc.symm) cs_X10_66 ⟨rfl, rfl, rfl⟩ (dk_of tX10_due 7 rfl) rfl rfl rfl rfl ?_
  refine r_iconst 12 (1 : Int32) K (dk_of tX10_due 8 rfl) (by decide) ?_
  obtain ⟨x2, μ3, hc, hR⟩ := o2 hR
  refine r_cVi 13 0 [.int x1, .int (1 : Int32)] [] x2 (wM γ am μ3 ++ (r)) K (ct_X10_fails hl hc.symm) cs_X10_131 ⟨rfl, rfl, rfl⟩ (dk_of tX10_due 9 rfl) rfl rfl rfl rfl rfl rfl ?_
  refine r_if_eq 16 21 K (dk_of tX10_due 10 rfl) (by decide) hR (fun hR => ?_) (fun hR => ?_)
  · refine r_aload_n 21 0 K (dk_of tX10_due 13 rfl) rfl rfl ?_
    refine r_iload_n 22 2 K (dk_of tX10_due 14 rfl) rfl rfl ?_
    refine r_iconst 23 (0 : Int32) K (dk_of tX10_due 15 rfl) (by decide) ?_
    refine r_iconst 24 (1 : Int32) K (dk_of tX10_due 16 rfl) (by decide) ?_
    obtain ⟨x4, hc, hR⟩ := o1 hR
    refine r_cSi 25 [.int p2, .int (0 : Int32), .int (1 : Int32)] [.ref (am 0)] x4 (wM γ am μ3 ++ (r)) K (ct_X10_in hl hc.symm) cs_X10_66 ⟨rfl, rfl, rfl⟩ (dk_of tX10_due 17 rfl) rfl rfl rfl rfl ?_
    refine r_iconst 28 (2 : Int32) K (dk_of tX10_due 18 rfl) (by decide) ?_
    obtain ⟨x5, μ6, hc, hR⟩ := o2 hR
    refine r_cVi 29 0 [.int x4, .int (2 : Int32)] [] x5 (wM γ am μ6 ++ (r)) K (ct_X10_fails hl hc.symm) cs_X10_131 ⟨rfl, rfl, rfl⟩ (dk_of tX10_due 19 rfl) rfl rfl rfl rfl rfl rfl ?_
    refine r_if_eq 32 37 K (dk_of tX10_due 20 rfl) (by decide) hR (fun hR => ?_) (fun hR => ?_)
    · refine r_iconst 37 (0 : Int32) K (dk_of tX10_due 23 rfl) (by decide) ?_
      refine r_istore_n 38 3 [some (.ref (am 0)), some (.int p1), some (.int p2), some (.int (0 : Int32)), none, none, none] K (dk_of tX10_due 24 rfl) rfl rfl rfl (by decide) ?_
      refine r_iconst 39 (0 : Int32) K (dk_of tX10_due 25 rfl) (by decide) ?_
      refine r_istore 40 4 [some (.ref (am 0)), some (.int p1), some (.int p2), some (.int (0 : Int32)), some (.int (0 : Int32)), none, none] K (dk_of tX10_due 26 rfl) rfl rfl (by decide) ?_
      exact b42 p1 p2 200 (0 : Int32) (0 : Int32) μ6 hR
    · refine r_iconst 35 (0 : Int32) K (dk_of tX10_due 21 rfl) (by decide) ?_
      exact r_iret 36 K hQ (dk_of tX10_due 22 rfl) (Nat.zero_le _) (Nat.zero_le _) (lfi (fun u9 : St => wM γ am u9 ++ (r)) hR)
  · refine r_iconst 19 (0 : Int32) K (dk_of tX10_due 11 rfl) (by decide) ?_
    exact r_iret 20 K hQ (dk_of tX10_due 12 rfl) (Nat.zero_le _) (Nat.zero_le _) (lfi (fun u9 : St => wM γ am u9 ++ (r)) hR)

def sp_X10_ahead_107 (y16 : Int32) : Nat → Int32 → St → Option (Int32 × St)
  | 0, _, _ => none
  | n + 1, y17, μ18 => if (174 : Int32) ≤ y17 then (some (y16, μ18)) else (if y17 < 0 ∨ 174 ≤ y17.toNatClampNeg then none else (if y17 < 0 ∨ 174 ≤ y17.toNatClampNeg then none else (sl (stU μ18 1 y17.toNatClampNeg (μ18 2 y17.toNatClampNeg)) (fun μ19 : St => sp_X10_ahead_107 y16 n (y17 + 1) μ19))))
def sp_X10_ahead_60 (y11 : Int32) (y12 : Int32) : Nat → Int32 → St → Option (Int32 × St)
  | 0, _, _ => none
  | n + 1, y13, μ14 => if y12 ≤ y13 then (if ((0 : Int32) + y11) < 0 ∨ 174 ≤ ((0 : Int32) + y11).toNatClampNeg then none else (if ((24 : Int32) + y11) < 0 ∨ 174 ≤ ((24 : Int32) + y11).toNatClampNeg then none else (if ((48 : Int32) + y11) < 0 ∨ 174 ≤ ((48 : Int32) + y11).toNatClampNeg then none else (sl ((((μ14 1 ((0 : Int32) + y11).toNatClampNeg) + (μ14 1 ((24 : Int32) + y11).toNatClampNeg)) + (μ14 1 ((48 : Int32) + y11).toNatClampNeg))) (fun x15 : Int32 => sp_X10_ahead_107 x15 200 (0 : Int32) μ14))))) else (b1 (sp_X10_hour μ14) (fun (μ20 : St) => sp_X10_ahead_60 y11 y12 n (y13 + 1) μ20))
def sp_X10_ahead_33 (y7 : Int32) (y8 : Int32) : Nat → Int32 → St → Option (Int32 × St)
  | 0, _, _ => none
  | n + 1, y9, μ10 => if (174 : Int32) ≤ y9 then (sp_X10_ahead_60 y7 y8 200 (0 : Int32) μ10) else (if y9 < 0 ∨ 174 ≤ y9.toNatClampNeg then none else (if y9 < 0 ∨ 174 ≤ y9.toNatClampNeg then none else (sl (stU μ10 2 y9.toNatClampNeg (μ10 1 y9.toNatClampNeg)) (fun μ21 : St => sp_X10_ahead_33 y7 y8 n (y9 + 1) μ21))))
def sp_X10_ahead (p1 : Int32) (p2 : Int32) (μ : St) : Option (Int32 × St) := b1 (sp_X10_isCell p1) (fun (x1 : Int32) => b2 (sp_X10_fails x1 (1 : Int32) μ) (fun (x2 : Int32) (μ3 : St) => if x2 = 0 then (b1 (sp_X10_in p2 (1 : Int32) (48 : Int32)) (fun (x4 : Int32) => b2 (sp_X10_fails x4 (2 : Int32) μ3) (fun (x5 : Int32) (μ6 : St) => if x5 = 0 then (sp_X10_ahead_33 p1 p2 200 (0 : Int32) μ6) else (some ((0 : Int32), μ6))))) else (some ((0 : Int32), μ3))))
set_option maxHeartbeats 4000000 in
set_option maxRecDepth 100000 in
theorem ct_X10_ahead {l : Launch} (hl : l.stackTraces = false) {γ : Gd} {am : Nat → Nat} {μ : St} {r : va_W} {p1 : Int32} {p2 : Int32} {x0 : Int32} {μ0 : St} (hR : some (x0, μ0) = sp_X10_ahead p1 p2 μ) : Ct l γ yX10_ahead (Cond.code yX10_ahead cX10_ahead 5 (some .int)) ({ frames := 6, cells := 0, slots := 0, locals := 135 } : Room) [.ref (am 0), .int p1, .int p2] (wM γ am μ ++ (r)) (Pr (some (.int x0)) (wM γ am μ0 ++ (r))) 0 0 := by
  refine Ct_of hl (by decide +kernel) rfl (Nat.le_of_ble_eq_true rfl) (L := [some (.ref (am 0)), some (.int p1), some (.int p2), none, none]) rfl ?_
  intro X Q K hQ
  generalize ((wM γ am μ ++ (r), Q) : MX) = M at K hQ ⊢
  unfold sp_X10_ahead at hR
  have b107 : ∀ (y16 : Int32) (n : Nat) (y17 : Int32) (μ18 : St), some (x0, μ0) = sp_X10_ahead_107 y16 n y17 μ18 → V l γ X M (wM γ am μ18 ++ (r)) [some (.ref (am 0)), none, none, some (.int y16), some (.int y17)] 0 0 107 [] := by
    intro y16 n
    induction n with
    | zero => intro y17 μ18 hR; exact nn_ hR
    | succ n ih107 =>
      intro y17 μ18 hR
      rw [sp_X10_ahead_107] at hR
      refine r_iload 107 4 K (dk_of tX10_ahead 65 rfl) rfl ?_
      refine r_sipush 109 (174 : Int32) K (dk_of tX10_ahead 66 rfl) (by decide) ?_
      refine r_ic_ge 112 135 K (dk_of tX10_ahead 67 rfl) (by decide) hR (fun hR => ?_) (fun hR => ?_)
      · refine r_iload_n 135 3 K (dk_of tX10_ahead 78 rfl) rfl rfl ?_
        exact r_iret 136 K hQ (dk_of tX10_ahead 79 rfl) (Nat.zero_le _) (Nat.zero_le _) (lfi (fun u9 : St => wM γ am u9 ++ (r)) hR)
      · refine r_aload_n 115 0 K (dk_of tX10_ahead 68 rfl) rfl rfl ?_
        refine r_getf (C := RX10) (T := TX10) (N := 29) 116 0 0 K (dk_of tX10_ahead 69 rfl) w1028 gwX10 rfl rfl (by decide) rfl ?_
        refine r_iload 119 4 K (dk_of tX10_ahead 70 rfl) rfl ?_
        refine r_aload_n 121 0 K (dk_of tX10_ahead 71 rfl) rfl rfl ?_
        refine r_getf (C := RX10) (T := TX10) (N := 29) 122 0 1 K (dk_of tX10_ahead 72 rfl) w1029 gwX10 rfl rfl (by decide) rfl ?_
        refine r_iload 125 4 K (dk_of tX10_ahead 73 rfl) rfl ?_
        refine r_ialdR 127 2 K (dk_of tX10_ahead 74 rfl) rfl hR (fun hR => ?_)
        refine r_iastR 128 1 K (dk_of tX10_ahead 75 rfl) rfl sM_1 hR (fun hR => ?_)
        refine r_nmS (fun μ19 : St => wM γ am μ19 ++ (r)) hR (fun μ19 hR => ?_)
        refine r_iinc 129 4 (y17 + 1) [some (.ref (am 0)), none, none, some (.int y16), some (.int (y17 + 1))] K (dk_of tX10_ahead 76 rfl) rfl rfl rfl rfl (by decide) ?_
        refine r_goto 132 107 K (dk_of tX10_ahead 77 rfl) (by decide) ?_
        exact ih107 (y17 + 1) μ19 hR
  have b60 : ∀ (y11 : Int32) (y12 : Int32) (n : Nat) (y13 : Int32) (μ14 : St), some (x0, μ0) = sp_X10_ahead_60 y11 y12 n y13 μ14 → V l γ X M (wM γ am μ14 ++ (r)) [some (.ref (am 0)), some (.int y11), some (.int y12), some (.int y13), none] 0 0 60 [] := by
    intro y11 y12 n
    induction n with
    | zero => intro y13 μ14 hR; exact nn_ hR
    | succ n ih60 =>
      intro y13 μ14 hR
      rw [sp_X10_ahead_60] at hR
      refine r_iload_n 60 3 K (dk_of tX10_ahead 35 rfl) rfl rfl ?_
      refine r_iload_n 61 2 K (dk_of tX10_ahead 36 rfl) rfl rfl ?_
      refine r_ic_ge 62 75 K (dk_of tX10_ahead 37 rfl) (by decide) hR (fun hR => ?_) (fun hR => ?_)
      · refine r_aload_n 75 0 K (dk_of tX10_ahead 42 rfl) rfl rfl ?_
        refine r_getf (C := RX10) (T := TX10) (N := 29) 76 0 0 K (dk_of tX10_ahead 43 rfl) w1028 gwX10 rfl rfl (by decide) rfl ?_
        refine r_iconst 79 (0 : Int32) K (dk_of tX10_ahead 44 rfl) (by decide) ?_
        refine r_iload_n 80 1 K (dk_of tX10_ahead 45 rfl) rfl rfl ?_
        refine r_iadd 81 K (dk_of tX10_ahead 46 rfl) ?_
        refine r_ialdR 82 1 K (dk_of tX10_ahead 47 rfl) rfl hR (fun hR => ?_)
        refine r_aload_n 83 0 K (dk_of tX10_ahead 48 rfl) rfl rfl ?_
        refine r_getf (C := RX10) (T := TX10) (N := 29) 84 0 0 K (dk_of tX10_ahead 49 rfl) w1028 gwX10 rfl rfl (by decide) rfl ?_
        refine r_bipush 87 (24 : Int32) K (dk_of tX10_ahead 50 rfl) (by decide) ?_
        refine r_iload_n 89 1 K (dk_of tX10_ahead 51 rfl) rfl rfl ?_
        refine r_iadd 90 K (dk_of tX10_ahead 52 rfl) ?_
        refine r_ialdR 91 1 K (dk_of tX10_ahead 53 rfl) rfl hR (fun hR => ?_)
        refine r_iadd 92 K (dk_of tX10_ahead 54 rfl) ?_
        refine r_aload_n 93 0 K (dk_of tX10_ahead 55 rfl) rfl rfl ?_
        refine r_getf (C := RX10) (T := TX10) (N := 29) 94 0 0 K (dk_of tX10_ahead 56 rfl) w1028 gwX10 rfl rfl (by decide) rfl ?_
        refine r_bipush 97 (48 : Int32) K (dk_of tX10_ahead 57 rfl) (by decide) ?_
        refine r_iload_n 99 1 K (dk_of tX10_ahead 58 rfl) rfl rfl ?_
        refine r_iadd 100 K (dk_of tX10_ahead 59 rfl) ?_
        refine r_ialdR 101 1 K (dk_of tX10_ahead 60 rfl) rfl hR (fun hR => ?_)
        refine r_iadd 102 K (dk_of tX10_ahead 61 rfl) ?_
        refine r_nmI hR (fun x15 hR => ?_)
        refine r_istore_n 103 3 [some (.ref (am 0)), some (.int y11), some (.int y12), some (.int x15), none] K (dk_of tX10_ahead 62 rfl) rfl rfl rfl (by decide) ?_
        refine r_iconst 104 (0 : Int32) K (dk_of tX10_ahead 63 rfl) (by decide) ?_
        refine r_istore 105 4 [some (.ref (am 0)), some (.int y11), some (.int y12), some (.int x15), some (.int (0 : Int32))] K (dk_of tX10_ahead 64 rfl) rfl rfl (by decide) ?_
        exact r_msk [true, false, false, true, true] [some (.ref (am 0)), none, none, some (.int x15), some (.int (0 : Int32))] rfl (b107 x15 200 (0 : Int32) μ14 hR)
      · refine r_aload_n 65 0 K (dk_of tX10_ahead 38 rfl) rfl rfl ?_
        obtain ⟨μ20, hc, hR⟩ := o1 hR
        refine r_cVv 66 0 [] [] (wM γ am μ20 ++ (r)) K (ct_X10_hour hl hc.symm) cs_X10_139 ⟨rfl, rfl, rfl⟩ (dk_of tX10_ahead 39 rfl) rfl rfl rfl rfl rfl rfl ?_
        refine r_iinc 69 3 (y13 + 1) [some (.ref (am 0)), some (.int y11), some (.int y12), some (.int (y13 + 1)), none] K (dk_of tX10_ahead 40 rfl) rfl rfl rfl rfl (by decide) ?_
        refine r_goto 72 60 K (dk_of tX10_ahead 41 rfl) (by decide) ?_
        exact ih60 (y13 + 1) μ20 hR
  have b33 : ∀ (y7 : Int32) (y8 : Int32) (n : Nat) (y9 : Int32) (μ10 : St), some (x0, μ0) = sp_X10_ahead_33 y7 y8 n y9 μ10 → V l γ X M (wM γ am μ10 ++ (r)) [some (.ref (am 0)), some (.int y7), some (.int y8), some (.int y9), none] 0 0 33 [] := by
    intro y7 y8 n
    induction n with
    | zero => intro y9 μ10 hR; exact nn_ hR
    | succ n ih33 =>
      intro y9 μ10 hR
      rw [sp_X10_ahead_33] at hR
      refine r_iload_n 33 3 K (dk_of tX10_ahead 20 rfl) rfl rfl ?_
      refine r_sipush 34 (174 : Int32) K (dk_of tX10_ahead 21 rfl) (by decide) ?_
      refine r_ic_ge 37 58 K (dk_of tX10_ahead 22 rfl) (by decide) hR (fun hR => ?_) (fun hR => ?_)
      · refine r_iconst 58 (0 : Int32) K (dk_of tX10_ahead 33 rfl) (by decide) ?_
        refine r_istore_n 59 3 [some (.ref (am 0)), some (.int y7), some (.int y8), some (.int (0 : Int32)), none] K (dk_of tX10_ahead 34 rfl) rfl rfl rfl (by decide) ?_
        exact b60 y7 y8 200 (0 : Int32) μ10 hR
      · refine r_aload_n 40 0 K (dk_of tX10_ahead 23 rfl) rfl rfl ?_
        refine r_getf (C := RX10) (T := TX10) (N := 29) 41 0 1 K (dk_of tX10_ahead 24 rfl) w1029 gwX10 rfl rfl (by decide) rfl ?_
        refine r_iload_n 44 3 K (dk_of tX10_ahead 25 rfl) rfl rfl ?_
        refine r_aload_n 45 0 K (dk_of tX10_ahead 26 rfl) rfl rfl ?_
        refine r_getf (C := RX10) (T := TX10) (N := 29) 46 0 0 K (dk_of tX10_ahead 27 rfl) w1028 gwX10 rfl rfl (by decide) rfl ?_
        refine r_iload_n 49 3 K (dk_of tX10_ahead 28 rfl) rfl rfl ?_
        refine r_ialdR 50 1 K (dk_of tX10_ahead 29 rfl) rfl hR (fun hR => ?_)
        refine r_iastR 51 2 K (dk_of tX10_ahead 30 rfl) rfl sM_2 hR (fun hR => ?_)
        refine r_nmS (fun μ21 : St => wM γ am μ21 ++ (r)) hR (fun μ21 hR => ?_)
        refine r_iinc 52 3 (y9 + 1) [some (.ref (am 0)), some (.int y7), some (.int y8), some (.int (y9 + 1)), none] K (dk_of tX10_ahead 31 rfl) rfl rfl rfl rfl (by decide) ?_
        refine r_goto 55 33 K (dk_of tX10_ahead 32 rfl) (by decide) ?_
        exact ih33 (y9 + 1) μ21 hR
  refine r_aload_n 0 0 K (dk_of tX10_ahead 0 rfl) rfl rfl ?_
  refine r_iload_n 1 1 K (dk_of tX10_ahead 1 rfl) rfl rfl ?_
  obtain ⟨x1, hc, hR⟩ := o1 hR
  refine r_cSi 2 [.int p1] [.ref (am 0)] x1 (wM γ am μ ++ (r)) K (ct_X10_isCell hl hc.symm) cs_X10_76 ⟨rfl, rfl, rfl⟩ (dk_of tX10_ahead 2 rfl) rfl rfl rfl rfl ?_
  refine r_iconst 5 (1 : Int32) K (dk_of tX10_ahead 3 rfl) (by decide) ?_
  obtain ⟨x2, μ3, hc, hR⟩ := o2 hR
  refine r_cVi 6 0 [.int x1, .int (1 : Int32)] [] x2 (wM γ am μ3 ++ (r)) K (ct_X10_fails hl hc.symm) cs_X10_131 ⟨rfl, rfl, rfl⟩ (dk_of tX10_ahead 4 rfl) rfl rfl rfl rfl rfl rfl ?_
  refine r_if_eq 9 14 K (dk_of tX10_ahead 5 rfl) (by decide) hR (fun hR => ?_) (fun hR => ?_)
  · refine r_aload_n 14 0 K (dk_of tX10_ahead 8 rfl) rfl rfl ?_
    refine r_iload_n 15 2 K (dk_of tX10_ahead 9 rfl) rfl rfl ?_
    refine r_iconst 16 (1 : Int32) K (dk_of tX10_ahead 10 rfl) (by decide) ?_
    refine r_bipush 17 (48 : Int32) K (dk_of tX10_ahead 11 rfl) (by decide) ?_
    obtain ⟨x4, hc, hR⟩ := o1 hR
    refine r_cSi 19 [.int p2, .int (1 : Int32), .int (48 : Int32)] [.ref (am 0)] x4 (wM γ am μ3 ++ (r)) K (ct_X10_in hl hc.symm) cs_X10_66 ⟨rfl, rfl, rfl⟩ (dk_of tX10_ahead 12 rfl) rfl rfl rfl rfl ?_
    refine r_iconst 22 (2 : Int32) K (dk_of tX10_ahead 13 rfl) (by decide) ?_
    obtain ⟨x5, μ6, hc, hR⟩ := o2 hR
    refine r_cVi 23 0 [.int x4, .int (2 : Int32)] [] x5 (wM γ am μ6 ++ (r)) K (ct_X10_fails hl hc.symm) cs_X10_131 ⟨rfl, rfl, rfl⟩ (dk_of tX10_ahead 14 rfl) rfl rfl rfl rfl rfl rfl ?_
    refine r_if_eq 26 31 K (dk_of tX10_ahead 15 rfl) (by decide) hR (fun hR => ?_) (fun hR => ?_)
    · refine r_iconst 31 (0 : Int32) K (dk_of tX10_ahead 18 rfl) (by decide) ?_
      refine r_istore_n 32 3 [some (.ref (am 0)), some (.int p1), some (.int p2), some (.int (0 : Int32)), none] K (dk_of tX10_ahead 19 rfl) rfl rfl rfl (by decide) ?_
      exact b33 p1 p2 200 (0 : Int32) μ6 hR
    · refine r_iconst 29 (0 : Int32) K (dk_of tX10_ahead 16 rfl) (by decide) ?_
      exact r_iret 30 K hQ (dk_of tX10_ahead 17 rfl) (Nat.zero_le _) (Nat.zero_le _) (lfi (fun u9 : St => wM γ am u9 ++ (r)) hR)
  · refine r_iconst 12 (0 : Int32) K (dk_of tX10_ahead 6 rfl) (by decide) ?_
    exact r_iret 13 K hQ (dk_of tX10_ahead 7 rfl) (Nat.zero_le _) (Nat.zero_le _) (lfi (fun u9 : St => wM γ am u9 ++ (r)) hR)

def sp_X10_floats_12 (μ : St) (y2 : Int32) (y3 : Int32) : Nat → Int32 → Int32 → Option (Int32)
  | 0, _, _ => none
  | n + 1, y4, y5 => if (μ 0 7) ≤ y5 then (sl ((y4 - (y4 / (20 : Int32)))) (fun x6 : Int32 => if ((24 : Int32) + y2) < 0 ∨ 174 ≤ ((24 : Int32) + y2).toNatClampNeg then none else (sl (((μ 1 ((24 : Int32) + y2).toNatClampNeg) + (x6 / (10 : Int32)))) (fun x7 : Int32 => if y3 = 0 then (some (x6 - (x6 / (10 : Int32)))) else (some (x7 - (x7 / (50 : Int32)))))))) else (if y5 < 0 ∨ 4 ≤ y5.toNatClampNeg then none else (if (μ 6 y5.toNatClampNeg) = y2 then (b1 (sp_X10_leak y5 ((μ 1 (168 : Int32).toNatClampNeg) + (1 : Int32)) μ) (fun (x8 : Int32) => sl ((y4 + x8)) (fun x9 : Int32 => sp_X10_floats_12 μ y2 y3 n x9 (y5 + 1)))) else (sl ((y4 + (0 : Int32))) (fun x10 : Int32 => sp_X10_floats_12 μ y2 y3 n x10 (y5 + 1)))))
def sp_X10_floats (p1 : Int32) (p2 : Int32) (μ : St) : Option (Int32) := if ((0 : Int32) + p1) < 0 ∨ 174 ≤ ((0 : Int32) + p1).toNatClampNeg then none else (sl ((μ 1 ((0 : Int32) + p1).toNatClampNeg)) (fun x1 : Int32 => sp_X10_floats_12 μ p1 p2 200 x1 (0 : Int32)))
set_option maxHeartbeats 4000000 in
set_option maxRecDepth 100000 in
theorem ct_X10_floats {l : Launch} (hl : l.stackTraces = false) {γ : Gd} {am : Nat → Nat} {μ : St} {r : va_W} {p1 : Int32} {p2 : Int32} {x0 : Int32} (hR : some x0 = sp_X10_floats p1 p2 μ) : Ct l γ yX10_floats (Cond.code yX10_floats cX10_floats 5 (some .int)) ({ frames := 2, cells := 0, slots := 0, locals := 44 } : Room) [.ref (am 0), .int p1, .int p2] (wM γ am μ ++ (r)) (Pr (some (.int x0)) (wM γ am μ ++ (r))) 0 0 := by
  refine Ct_of hl (by decide +kernel) rfl (Nat.le_of_ble_eq_true rfl) (L := [some (.ref (am 0)), some (.int p1), some (.int p2), none, none]) rfl ?_
  intro X Q K hQ
  generalize ((wM γ am μ ++ (r), Q) : MX) = M at K hQ ⊢
  unfold sp_X10_floats at hR
  have b12 : ∀ (y2 : Int32) (y3 : Int32) (n : Nat) (y4 : Int32) (y5 : Int32), some x0 = sp_X10_floats_12 μ y2 y3 n y4 y5 → V l γ X M (wM γ am μ ++ (r)) [some (.ref (am 0)), some (.int y2), some (.int y3), some (.int y4), some (.int y5)] 0 0 12 [] := by
    intro y2 y3 n
    induction n with
    | zero => intro y4 y5 hR; exact nn_ hR
    | succ n ih12 =>
      intro y4 y5 hR
      rw [sp_X10_floats_12] at hR
      refine r_iload 12 4 K (dk_of tX10_floats 9 rfl) rfl ?_
      refine r_aload_n 14 0 K (dk_of tX10_floats 10 rfl) rfl rfl ?_
      refine r_getf (C := RX10) (T := TX10) (N := 29) 15 0 7 K (dk_of tX10_floats 11 rfl) w1035 gwX10 rfl rfl (by decide) rfl ?_
      refine r_ic_ge 18 61 K (dk_of tX10_floats 12 rfl) (by decide) hR (fun hR => ?_) (fun hR => ?_)
      · refine r_iload_n 61 3 K (dk_of tX10_floats 35 rfl) rfl rfl ?_
        refine r_iload_n 62 3 K (dk_of tX10_floats 36 rfl) rfl rfl ?_
        refine r_bipush 63 (20 : Int32) K (dk_of tX10_floats 37 rfl) (by decide) ?_
        refine r_idiv 65 K (dk_of tX10_floats 38 rfl) (by decide) ?_
        refine r_isub 66 K (dk_of tX10_floats 39 rfl) ?_
        refine r_nmI hR (fun x6 hR => ?_)
        refine r_istore_n 67 3 [some (.ref (am 0)), some (.int y2), some (.int y3), some (.int x6), some (.int y5)] K (dk_of tX10_floats 40 rfl) rfl rfl rfl (by decide) ?_
        refine r_aload_n 68 0 K (dk_of tX10_floats 41 rfl) rfl rfl ?_
        refine r_getf (C := RX10) (T := TX10) (N := 29) 69 0 0 K (dk_of tX10_floats 42 rfl) w1028 gwX10 rfl rfl (by decide) rfl ?_
        refine r_bipush 72 (24 : Int32) K (dk_of tX10_floats 43 rfl) (by decide) ?_
        refine r_iload_n 74 1 K (dk_of tX10_floats 44 rfl) rfl rfl ?_
        refine r_iadd 75 K (dk_of tX10_floats 45 rfl) ?_
        refine r_ialdR 76 1 K (dk_of tX10_floats 46 rfl) rfl hR (fun hR => ?_)
        refine r_iload_n 77 3 K (dk_of tX10_floats 47 rfl) rfl rfl ?_
        refine r_bipush 78 (10 : Int32) K (dk_of tX10_floats 48 rfl) (by decide) ?_
        refine r_idiv 80 K (dk_of tX10_floats 49 rfl) (by decide) ?_
        refine r_iadd 81 K (dk_of tX10_floats 50 rfl) ?_
        refine r_nmI hR (fun x7 hR => ?_)
        refine r_istore 82 4 [some (.ref (am 0)), some (.int y2), some (.int y3), some (.int x6), some (.int x7)] K (dk_of tX10_floats 51 rfl) rfl rfl (by decide) ?_
        refine r_iload_n 84 2 K (dk_of tX10_floats 52 rfl) rfl rfl ?_
        refine r_if_eq 85 99 K (dk_of tX10_floats 53 rfl) (by decide) hR (fun hR => ?_) (fun hR => ?_)
        · refine r_iload_n 99 3 K (dk_of tX10_floats 60 rfl) rfl rfl ?_
          refine r_iload_n 100 3 K (dk_of tX10_floats 61 rfl) rfl rfl ?_
          refine r_bipush 101 (10 : Int32) K (dk_of tX10_floats 62 rfl) (by decide) ?_
          refine r_idiv 103 K (dk_of tX10_floats 63 rfl) (by decide) ?_
          refine r_isub 104 K (dk_of tX10_floats 64 rfl) ?_
          exact r_iret 105 K hQ (dk_of tX10_floats 65 rfl) (Nat.zero_le _) (Nat.zero_le _) (lfi0 hR)
        · refine r_iload 88 4 K (dk_of tX10_floats 54 rfl) rfl ?_
          refine r_iload 90 4 K (dk_of tX10_floats 55 rfl) rfl ?_
          refine r_bipush 92 (50 : Int32) K (dk_of tX10_floats 56 rfl) (by decide) ?_
          refine r_idiv 94 K (dk_of tX10_floats 57 rfl) (by decide) ?_
          refine r_isub 95 K (dk_of tX10_floats 58 rfl) ?_
          refine r_goto 96 105 K (dk_of tX10_floats 59 rfl) (by decide) ?_
          exact r_iret 105 K hQ (dk_of tX10_floats 65 rfl) (Nat.zero_le _) (Nat.zero_le _) (lfi0 hR)
      · refine r_iload_n 21 3 K (dk_of tX10_floats 13 rfl) rfl rfl ?_
        refine r_aload_n 22 0 K (dk_of tX10_floats 14 rfl) rfl rfl ?_
        refine r_getf (C := RX10) (T := TX10) (N := 29) 23 0 8 K (dk_of tX10_floats 15 rfl) w1036 gwX10 rfl rfl (by decide) rfl ?_
        refine r_iload 26 4 K (dk_of tX10_floats 16 rfl) rfl ?_
        refine r_ialdR 28 6 K (dk_of tX10_floats 17 rfl) rfl hR (fun hR => ?_)
        refine r_iload_n 29 1 K (dk_of tX10_floats 18 rfl) rfl rfl ?_
        refine r_ic_ne 30 52 K (dk_of tX10_floats 19 rfl) (by decide) hR (fun hR => ?_) (fun hR => ?_)
        · refine r_aload_n 33 0 K (dk_of tX10_floats 20 rfl) rfl rfl ?_
          refine r_iload 34 4 K (dk_of tX10_floats 21 rfl) rfl ?_
          refine r_aload_n 36 0 K (dk_of tX10_floats 22 rfl) rfl rfl ?_
          refine r_getf (C := RX10) (T := TX10) (N := 29) 37 0 0 K (dk_of tX10_floats 23 rfl) w1028 gwX10 rfl rfl (by decide) rfl ?_
          refine r_sipush 40 (168 : Int32) K (dk_of tX10_floats 24 rfl) (by decide) ?_
          refine r_iald 43 1 K (dk_of tX10_floats 25 rfl) rfl (vpd (by decide)) ?_
          refine r_iconst 44 (1 : Int32) K (dk_of tX10_floats 26 rfl) (by decide) ?_
          refine r_iadd 45 K (dk_of tX10_floats 27 rfl) ?_
          obtain ⟨x8, hc, hR⟩ := o1 hR
          refine r_cVi 46 0 [.int y5, .int ((μ 1 (168 : Int32).toNatClampNeg) + (1 : Int32))] [.int y4] x8 (wM γ am μ ++ (r)) K (ct_X10_leak hl hc.symm) cs_X10_106 ⟨rfl, rfl, rfl⟩ (dk_of tX10_floats 28 rfl) rfl rfl rfl rfl rfl rfl ?_
          refine r_goto 49 53 K (dk_of tX10_floats 29 rfl) (by decide) ?_
          refine r_iadd 53 K (dk_of tX10_floats 31 rfl) ?_
          refine r_nmI hR (fun x9 hR => ?_)
          refine r_istore_n 54 3 [some (.ref (am 0)), some (.int y2), some (.int y3), some (.int x9), some (.int y5)] K (dk_of tX10_floats 32 rfl) rfl rfl rfl (by decide) ?_
          refine r_iinc 55 4 (y5 + 1) [some (.ref (am 0)), some (.int y2), some (.int y3), some (.int x9), some (.int (y5 + 1))] K (dk_of tX10_floats 33 rfl) rfl rfl rfl rfl (by decide) ?_
          refine r_goto 58 12 K (dk_of tX10_floats 34 rfl) (by decide) ?_
          exact ih12 x9 (y5 + 1) hR
        · refine r_iconst 52 (0 : Int32) K (dk_of tX10_floats 30 rfl) (by decide) ?_
          refine r_iadd 53 K (dk_of tX10_floats 31 rfl) ?_
          refine r_nmI hR (fun x10 hR => ?_)
          refine r_istore_n 54 3 [some (.ref (am 0)), some (.int y2), some (.int y3), some (.int x10), some (.int y5)] K (dk_of tX10_floats 32 rfl) rfl rfl rfl (by decide) ?_
          refine r_iinc 55 4 (y5 + 1) [some (.ref (am 0)), some (.int y2), some (.int y3), some (.int x10), some (.int (y5 + 1))] K (dk_of tX10_floats 33 rfl) rfl rfl rfl rfl (by decide) ?_
          refine r_goto 58 12 K (dk_of tX10_floats 34 rfl) (by decide) ?_
          exact ih12 x10 (y5 + 1) hR
  refine r_aload_n 0 0 K (dk_of tX10_floats 0 rfl) rfl rfl ?_
  refine r_getf (C := RX10) (T := TX10) (N := 29) 1 0 0 K (dk_of tX10_floats 1 rfl) w1028 gwX10 rfl rfl (by decide) rfl ?_
  refine r_iconst 4 (0 : Int32) K (dk_of tX10_floats 2 rfl) (by decide) ?_
  refine r_iload_n 5 1 K (dk_of tX10_floats 3 rfl) rfl rfl ?_
  refine r_iadd 6 K (dk_of tX10_floats 4 rfl) ?_
  refine r_ialdR 7 1 K (dk_of tX10_floats 5 rfl) rfl hR (fun hR => ?_)
  refine r_nmI hR (fun x1 hR => ?_)
  refine r_istore_n 8 3 [some (.ref (am 0)), some (.int p1), some (.int p2), some (.int x1), none] K (dk_of tX10_floats 6 rfl) rfl rfl rfl (by decide) ?_
  refine r_iconst 9 (0 : Int32) K (dk_of tX10_floats 7 rfl) (by decide) ?_
  refine r_istore 10 4 [some (.ref (am 0)), some (.int p1), some (.int p2), some (.int x1), some (.int (0 : Int32))] K (dk_of tX10_floats 8 rfl) rfl rfl (by decide) ?_
  exact b12 p1 p2 200 x1 (0 : Int32) hR

def sp_X10_goes_155 (μ : St) (y19 : Int32) (y20 : Int32) (y21 : Int32) : Option (Int32) := if y19 = 0 then (some y20) else (some y21)
def sp_X10_goes_97 (μ : St) (y10 : Int32) (y11 : Int32) (y12 : Int32) (y13 : Int32) (y14 : Int32) : Option (Int32) := b1 (sp_X10_least y12 y14) (fun (x15 : Int32) => b1 (sp_X10_least y13 (y14 - x15)) (fun (x16 : Int32) => b1 (sp_X10_borderOf y10 (μ 0 5)) (fun (x17 : Int32) => b1 (sp_X10_boomOn x17 μ) (fun (x18 : Int32) => if x18 = (-1 : Int32) then (sp_X10_goes_155 μ y11 x15 x16) else (if x18 < 0 ∨ 20 ≤ x18.toNatClampNeg then none else (if (μ 11 x18.toNatClampNeg) < (μ 0 6) then (sp_X10_goes_155 μ y11 x15 x16) else (some (0 : Int32))))))))
def sp_X10_goes_73 (μ : St) (y6 : Int32) (y7 : Int32) (y8 : Int32) (y9 : Int32) : Option (Int32) := sp_X10_goes_97 μ y6 y7 y8 y9 (y8 + y9)
def sp_X10_goes (p1 : Int32) (p2 : Int32) (μ : St) : Option (Int32) := if p1 = (-1 : Int32) then (some (0 : Int32)) else (if p1 < 0 ∨ 24 ≤ p1.toNatClampNeg then none else (if (μ 3 p1.toNatClampNeg) = 0 then (b1 (sp_X10_floats p1 (0 : Int32) μ) (fun (x1 : Int32) => sl (((x1 * (μ 0 6)) / (10 : Int32))) (fun x2 : Int32 => b1 (sp_X10_floats p1 (1 : Int32) μ) (fun (x3 : Int32) => sl (((x3 * (μ 0 6)) / (10 : Int32))) (fun x4 : Int32 => b1 (sp_X10_beside p1 (μ 0 5)) (fun (x5 : Int32) => if x5 = (-1 : Int32) then (sp_X10_goes_73 μ p1 p2 x2 x4) else (if x5 < 0 ∨ 24 ≤ x5.toNatClampNeg then none else (if (μ 3 x5.toNatClampNeg) = 0 then (sp_X10_goes_73 μ p1 p2 x2 x4) else (b1 (sp_X10_holds x5 μ) (fun (x22 : Int32) => if ((48 : Int32) + x5) < 0 ∨ 174 ≤ ((48 : Int32) + x5).toNatClampNeg then none else (sp_X10_goes_97 μ p1 p2 x2 x4 (x22 - (μ 1 ((48 : Int32) + x5).toNatClampNeg))))))))))))) else (some (0 : Int32))))
set_option maxHeartbeats 4000000 in
set_option maxRecDepth 100000 in
theorem ct_X10_goes {l : Launch} (hl : l.stackTraces = false) {γ : Gd} {am : Nat → Nat} {μ : St} {r : va_W} {p1 : Int32} {p2 : Int32} {x0 : Int32} (hR : some x0 = sp_X10_goes p1 p2 μ) : Ct l γ yX10_goes (Cond.code yX10_goes cX10_goes 8 (some .int)) ({ frames := 4, cells := 0, slots := 0, locals := 86 } : Room) [.ref (am 0), .int p1, .int p2] (wM γ am μ ++ (r)) (Pr (some (.int x0)) (wM γ am μ ++ (r))) 0 0 := by
  refine Ct_of hl (by decide +kernel) rfl (Nat.le_of_ble_eq_true rfl) (L := [some (.ref (am 0)), some (.int p1), some (.int p2), none, none, none, none, none]) rfl ?_
  intro X Q K hQ
  generalize ((wM γ am μ ++ (r), Q) : MX) = M at K hQ ⊢
  unfold sp_X10_goes at hR
  have b155 : ∀ (y19 : Int32) (y20 : Int32) (y21 : Int32), some x0 = sp_X10_goes_155 μ y19 y20 y21 → V l γ X M (wM γ am μ ++ (r)) [none, none, some (.int y19), some (.int y20), some (.int y21), none, none, none] 0 0 155 [] := by
    intro  y19 y20 y21 hR
    unfold sp_X10_goes_155 at hR
    refine r_iload_n 155 2 K (dk_of tX10_goes 87 rfl) rfl rfl ?_
    refine r_if_eq 156 164 K (dk_of tX10_goes 88 rfl) (by decide) hR (fun hR => ?_) (fun hR => ?_)
    · refine r_iload_n 164 3 K (dk_of tX10_goes 91 rfl) rfl rfl ?_
      exact r_iret 165 K hQ (dk_of tX10_goes 92 rfl) (Nat.zero_le _) (Nat.zero_le _) (lfi0 hR)
    · refine r_iload 159 4 K (dk_of tX10_goes 89 rfl) rfl ?_
      refine r_goto 161 165 K (dk_of tX10_goes 90 rfl) (by decide) ?_
      exact r_iret 165 K hQ (dk_of tX10_goes 92 rfl) (Nat.zero_le _) (Nat.zero_le _) (lfi0 hR)
  have b97 : ∀ (y10 : Int32) (y11 : Int32) (y12 : Int32) (y13 : Int32) (y14 : Int32), some x0 = sp_X10_goes_97 μ y10 y11 y12 y13 y14 → V l γ X M (wM γ am μ ++ (r)) [some (.ref (am 0)), some (.int y10), some (.int y11), some (.int y12), some (.int y13), none, none, none] 0 0 97 [.int y14] := by
    intro  y10 y11 y12 y13 y14 hR
    unfold sp_X10_goes_97 at hR
    refine r_istore 97 6 [some (.ref (am 0)), some (.int y10), some (.int y11), some (.int y12), some (.int y13), none, some (.int y14), none] K (dk_of tX10_goes 57 rfl) rfl rfl (by decide) ?_
    refine r_iload_n 99 3 K (dk_of tX10_goes 58 rfl) rfl rfl ?_
    refine r_iload 100 6 K (dk_of tX10_goes 59 rfl) rfl ?_
    obtain ⟨x15, hc, hR⟩ := o1 hR
    refine r_cSi 102 [.int y12, .int y14] [] x15 (wM γ am μ ++ (r)) K (ct_X10_least hl hc.symm) cs_X10_88 ⟨rfl, rfl, rfl⟩ (dk_of tX10_goes 60 rfl) rfl rfl rfl rfl ?_
    refine r_istore_n 105 3 [some (.ref (am 0)), some (.int y10), some (.int y11), some (.int x15), some (.int y13), none, some (.int y14), none] K (dk_of tX10_goes 61 rfl) rfl rfl rfl (by decide) ?_
    refine r_iload 106 4 K (dk_of tX10_goes 62 rfl) rfl ?_
    refine r_iload 108 6 K (dk_of tX10_goes 63 rfl) rfl ?_
    refine r_iload_n 110 3 K (dk_of tX10_goes 64 rfl) rfl rfl ?_
    refine r_isub 111 K (dk_of tX10_goes 65 rfl) ?_
    obtain ⟨x16, hc, hR⟩ := o1 hR
    refine r_cSi 112 [.int y13, .int (y14 - x15)] [] x16 (wM γ am μ ++ (r)) K (ct_X10_least hl hc.symm) cs_X10_88 ⟨rfl, rfl, rfl⟩ (dk_of tX10_goes 66 rfl) rfl rfl rfl rfl ?_
    refine r_istore 115 4 [some (.ref (am 0)), some (.int y10), some (.int y11), some (.int x15), some (.int x16), none, some (.int y14), none] K (dk_of tX10_goes 67 rfl) rfl rfl (by decide) ?_
    refine r_aload_n 117 0 K (dk_of tX10_goes 68 rfl) rfl rfl ?_
    refine r_iload_n 118 1 K (dk_of tX10_goes 69 rfl) rfl rfl ?_
    refine r_aload_n 119 0 K (dk_of tX10_goes 70 rfl) rfl rfl ?_
    refine r_getf (C := RX10) (T := TX10) (N := 29) 120 0 5 K (dk_of tX10_goes 71 rfl) w1033 gwX10 rfl rfl (by decide) rfl ?_
    obtain ⟨x17, hc, hR⟩ := o1 hR
    refine r_cSi 123 [.int y10, .int (μ 0 5)] [.ref (am 0)] x17 (wM γ am μ ++ (r)) K (ct_X10_borderOf hl hc.symm) cs_X10_100 ⟨rfl, rfl, rfl⟩ (dk_of tX10_goes 72 rfl) rfl rfl rfl rfl ?_
    obtain ⟨x18, hc, hR⟩ := o1 hR
    refine r_cVi 126 0 [.int x17] [] x18 (wM γ am μ ++ (r)) K (ct_X10_boomOn hl hc.symm) cs_X10_103 ⟨rfl, rfl, rfl⟩ (dk_of tX10_goes 73 rfl) rfl rfl rfl rfl rfl rfl ?_
    refine r_istore 129 7 [some (.ref (am 0)), some (.int y10), some (.int y11), some (.int x15), some (.int x16), none, some (.int y14), some (.int x18)] K (dk_of tX10_goes 74 rfl) rfl rfl (by decide) ?_
    refine r_iload 131 7 K (dk_of tX10_goes 75 rfl) rfl ?_
    refine r_iconst 133 (-1) K (dk_of tX10_goes 76 rfl) (by decide) ?_
    refine r_ic_eq 134 155 K (dk_of tX10_goes 77 rfl) (by decide) hR (fun hR => ?_) (fun hR => ?_)
    · exact r_msk [false, false, true, true, true, true, false, false] [none, none, some (.int y11), some (.int x15), some (.int x16), none, none, none] rfl (b155 y11 x15 x16 hR)
    · refine r_aload_n 137 0 K (dk_of tX10_goes 78 rfl) rfl rfl ?_
      refine r_getf (C := RX10) (T := TX10) (N := 29) 138 0 14 K (dk_of tX10_goes 79 rfl) w1042 gwX10 rfl rfl (by decide) rfl ?_
      refine r_iload 141 7 K (dk_of tX10_goes 80 rfl) rfl ?_
      refine r_ialdR 143 11 K (dk_of tX10_goes 81 rfl) rfl hR (fun hR => ?_)
      refine r_aload_n 144 0 K (dk_of tX10_goes 82 rfl) rfl rfl ?_
      refine r_getf (C := RX10) (T := TX10) (N := 29) 145 0 6 K (dk_of tX10_goes 83 rfl) w1034 gwX10 rfl rfl (by decide) rfl ?_
      refine r_ic_lt 148 155 K (dk_of tX10_goes 84 rfl) (by decide) hR (fun hR => ?_) (fun hR => ?_)
      · exact r_msk [false, false, true, true, true, true, false, false] [none, none, some (.int y11), some (.int x15), some (.int x16), none, none, none] rfl (b155 y11 x15 x16 hR)
      · refine r_iconst 151 (0 : Int32) K (dk_of tX10_goes 85 rfl) (by decide) ?_
        refine r_goto 152 165 K (dk_of tX10_goes 86 rfl) (by decide) ?_
        exact r_iret 165 K hQ (dk_of tX10_goes 92 rfl) (Nat.zero_le _) (Nat.zero_le _) (lfi0 hR)
  have b73 : ∀ (y6 : Int32) (y7 : Int32) (y8 : Int32) (y9 : Int32), some x0 = sp_X10_goes_73 μ y6 y7 y8 y9 → V l γ X M (wM γ am μ ++ (r)) [some (.ref (am 0)), some (.int y6), some (.int y7), some (.int y8), some (.int y9), none, none, none] 0 0 73 [] := by
    intro  y6 y7 y8 y9 hR
    unfold sp_X10_goes_73 at hR
    refine r_iload_n 73 3 K (dk_of tX10_goes 43 rfl) rfl rfl ?_
    refine r_iload 74 4 K (dk_of tX10_goes 44 rfl) rfl ?_
    refine r_iadd 76 K (dk_of tX10_goes 45 rfl) ?_
    refine r_goto 77 97 K (dk_of tX10_goes 46 rfl) (by decide) ?_
    exact b97 y6 y7 y8 y9 (y8 + y9) hR
  refine r_iload_n 0 1 K (dk_of tX10_goes 0 rfl) rfl rfl ?_
  refine r_iconst 1 (-1) K (dk_of tX10_goes 1 rfl) (by decide) ?_
  refine r_ic_eq 2 14 K (dk_of tX10_goes 2 rfl) (by decide) hR (fun hR => ?_) (fun hR => ?_)
  · refine r_iconst 14 (0 : Int32) K (dk_of tX10_goes 8 rfl) (by decide) ?_
    exact r_iret 15 K hQ (dk_of tX10_goes 9 rfl) (Nat.zero_le _) (Nat.zero_le _) (lfi0 hR)
  · refine r_aload_n 5 0 K (dk_of tX10_goes 3 rfl) rfl rfl ?_
    refine r_getf (C := RX10) (T := TX10) (N := 29) 6 0 2 K (dk_of tX10_goes 4 rfl) w1030 gwX10 rfl rfl (by decide) rfl ?_
    refine r_iload_n 9 1 K (dk_of tX10_goes 5 rfl) rfl rfl ?_
    refine r_ialdR 10 3 K (dk_of tX10_goes 6 rfl) rfl hR (fun hR => ?_)
    refine r_if_eq 11 16 K (dk_of tX10_goes 7 rfl) (by decide) hR (fun hR => ?_) (fun hR => ?_)
    · refine r_aload_n 16 0 K (dk_of tX10_goes 10 rfl) rfl rfl ?_
      refine r_iload_n 17 1 K (dk_of tX10_goes 11 rfl) rfl rfl ?_
      refine r_iconst 18 (0 : Int32) K (dk_of tX10_goes 12 rfl) (by decide) ?_
      obtain ⟨x1, hc, hR⟩ := o1 hR
      refine r_cVi 19 0 [.int p1, .int (0 : Int32)] [] x1 (wM γ am μ ++ (r)) K (ct_X10_floats hl hc.symm) cs_X10_182 ⟨rfl, rfl, rfl⟩ (dk_of tX10_goes 13 rfl) rfl rfl rfl rfl rfl rfl ?_
      refine r_aload_n 22 0 K (dk_of tX10_goes 14 rfl) rfl rfl ?_
      refine r_getf (C := RX10) (T := TX10) (N := 29) 23 0 6 K (dk_of tX10_goes 15 rfl) w1034 gwX10 rfl rfl (by decide) rfl ?_
      refine r_imul 26 K (dk_of tX10_goes 16 rfl) ?_
      refine r_bipush 27 (10 : Int32) K (dk_of tX10_goes 17 rfl) (by decide) ?_
      refine r_idiv 29 K (dk_of tX10_goes 18 rfl) (by decide) ?_
      refine r_nmI hR (fun x2 hR => ?_)
      refine r_istore_n 30 3 [some (.ref (am 0)), some (.int p1), some (.int p2), some (.int x2), none, none, none, none] K (dk_of tX10_goes 19 rfl) rfl rfl rfl (by decide) ?_
      refine r_aload_n 31 0 K (dk_of tX10_goes 20 rfl) rfl rfl ?_
      refine r_iload_n 32 1 K (dk_of tX10_goes 21 rfl) rfl rfl ?_
      refine r_iconst 33 (1 : Int32) K (dk_of tX10_goes 22 rfl) (by decide) ?_
      obtain ⟨x3, hc, hR⟩ := o1 hR
      refine r_cVi 34 0 [.int p1, .int (1 : Int32)] [] x3 (wM γ am μ ++ (r)) K (ct_X10_floats hl hc.symm) cs_X10_182 ⟨rfl, rfl, rfl⟩ (dk_of tX10_goes 23 rfl) rfl rfl rfl rfl rfl rfl ?_
      refine r_aload_n 37 0 K (dk_of tX10_goes 24 rfl) rfl rfl ?_
      refine r_getf (C := RX10) (T := TX10) (N := 29) 38 0 6 K (dk_of tX10_goes 25 rfl) w1034 gwX10 rfl rfl (by decide) rfl ?_
      refine r_imul 41 K (dk_of tX10_goes 26 rfl) ?_
      refine r_bipush 42 (10 : Int32) K (dk_of tX10_goes 27 rfl) (by decide) ?_
      refine r_idiv 44 K (dk_of tX10_goes 28 rfl) (by decide) ?_
      refine r_nmI hR (fun x4 hR => ?_)
      refine r_istore 45 4 [some (.ref (am 0)), some (.int p1), some (.int p2), some (.int x2), some (.int x4), none, none, none] K (dk_of tX10_goes 29 rfl) rfl rfl (by decide) ?_
      refine r_iload_n 47 1 K (dk_of tX10_goes 30 rfl) rfl rfl ?_
      refine r_aload_n 48 0 K (dk_of tX10_goes 31 rfl) rfl rfl ?_
      refine r_getf (C := RX10) (T := TX10) (N := 29) 49 0 5 K (dk_of tX10_goes 32 rfl) w1033 gwX10 rfl rfl (by decide) rfl ?_
      obtain ⟨x5, hc, hR⟩ := o1 hR
      refine r_cSi 52 [.int p1, .int (μ 0 5)] [] x5 (wM γ am μ ++ (r)) K (ct_X10_beside hl hc.symm) cs_X10_80 ⟨rfl, rfl, rfl⟩ (dk_of tX10_goes 33 rfl) rfl rfl rfl rfl ?_
      refine r_istore 55 5 [some (.ref (am 0)), some (.int p1), some (.int p2), some (.int x2), some (.int x4), some (.int x5), none, none] K (dk_of tX10_goes 34 rfl) rfl rfl (by decide) ?_
      refine r_iload 57 5 K (dk_of tX10_goes 35 rfl) rfl ?_
      refine r_iconst 59 (-1) K (dk_of tX10_goes 36 rfl) (by decide) ?_
      refine r_ic_eq 60 73 K (dk_of tX10_goes 37 rfl) (by decide) hR (fun hR => ?_) (fun hR => ?_)
      · exact r_msk [true, true, true, true, true, false, true, true] [some (.ref (am 0)), some (.int p1), some (.int p2), some (.int x2), some (.int x4), none, none, none] rfl (b73 p1 p2 x2 x4 hR)
      · refine r_aload_n 63 0 K (dk_of tX10_goes 38 rfl) rfl rfl ?_
        refine r_getf (C := RX10) (T := TX10) (N := 29) 64 0 2 K (dk_of tX10_goes 39 rfl) w1030 gwX10 rfl rfl (by decide) rfl ?_
        refine r_iload 67 5 K (dk_of tX10_goes 40 rfl) rfl ?_
        refine r_ialdR 69 3 K (dk_of tX10_goes 41 rfl) rfl hR (fun hR => ?_)
        refine r_if_ne 70 80 K (dk_of tX10_goes 42 rfl) (by decide) hR (fun hR => ?_) (fun hR => ?_)
        · exact r_msk [true, true, true, true, true, false, true, true] [some (.ref (am 0)), some (.int p1), some (.int p2), some (.int x2), some (.int x4), none, none, none] rfl (b73 p1 p2 x2 x4 hR)
        · refine r_aload_n 80 0 K (dk_of tX10_goes 47 rfl) rfl rfl ?_
          refine r_iload 81 5 K (dk_of tX10_goes 48 rfl) rfl ?_
          obtain ⟨x22, hc, hR⟩ := o1 hR
          refine r_cVi 83 0 [.int x5] [] x22 (wM γ am μ ++ (r)) K (ct_X10_holds hl hc.symm) cs_X10_97 ⟨rfl, rfl, rfl⟩ (dk_of tX10_goes 49 rfl) rfl rfl rfl rfl rfl rfl ?_
          refine r_aload_n 86 0 K (dk_of tX10_goes 50 rfl) rfl rfl ?_
          refine r_getf (C := RX10) (T := TX10) (N := 29) 87 0 0 K (dk_of tX10_goes 51 rfl) w1028 gwX10 rfl rfl (by decide) rfl ?_
          refine r_bipush 90 (48 : Int32) K (dk_of tX10_goes 52 rfl) (by decide) ?_
          refine r_iload 92 5 K (dk_of tX10_goes 53 rfl) rfl ?_
          refine r_iadd 94 K (dk_of tX10_goes 54 rfl) ?_
          refine r_ialdR 95 1 K (dk_of tX10_goes 55 rfl) rfl hR (fun hR => ?_)
          refine r_isub 96 K (dk_of tX10_goes 56 rfl) ?_
          exact r_msk [true, true, true, true, true, false, true, true] [some (.ref (am 0)), some (.int p1), some (.int p2), some (.int x2), some (.int x4), none, none, none] rfl (b97 p1 p2 x2 x4 (x22 - (μ 1 ((48 : Int32) + x5).toNatClampNeg)) hR)
    · refine r_iconst 14 (0 : Int32) K (dk_of tX10_goes 8 rfl) (by decide) ?_
      exact r_iret 15 K hQ (dk_of tX10_goes 9 rfl) (Nat.zero_le _) (Nat.zero_le _) (lfi0 hR)

def sp_X10_strands (p1 : Int32) (μ : St) : Option (Int32) := b1 (sp_X10_beside p1 ((μ 0 5) ^^^ (1 : Int32))) (fun (x1 : Int32) => if ((48 : Int32) + p1) < 0 ∨ 174 ≤ ((48 : Int32) + p1).toNatClampNeg then none else (b1 (sp_X10_goes x1 (0 : Int32) μ) (fun (x2 : Int32) => b1 (sp_X10_goes x1 (1 : Int32) μ) (fun (x3 : Int32) => some (((μ 1 ((48 : Int32) + p1).toNatClampNeg) + x2) + x3)))))
set_option maxHeartbeats 4000000 in
set_option maxRecDepth 100000 in
theorem ct_X10_strands {l : Launch} (hl : l.stackTraces = false) {γ : Gd} {am : Nat → Nat} {μ : St} {r : va_W} {p1 : Int32} {x0 : Int32} (hR : some x0 = sp_X10_strands p1 μ) : Ct l γ yX10_strands (Cond.code yX10_strands cX10_strands 3 (some .int)) ({ frames := 5, cells := 0, slots := 0, locals := 113 } : Room) [.ref (am 0), .int p1] (wM γ am μ ++ (r)) (Pr (some (.int x0)) (wM γ am μ ++ (r))) 0 0 := by
  refine Ct_of hl (by decide +kernel) rfl (Nat.le_of_ble_eq_true rfl) (L := [some (.ref (am 0)), some (.int p1), none]) rfl ?_
  intro X Q K hQ
  generalize ((wM γ am μ ++ (r), Q) : MX) = M at K hQ ⊢
  unfold sp_X10_strands at hR
  refine r_iload_n 0 1 K (dk_of tX10_strands 0 rfl) rfl rfl ?_
  refine r_aload_n 1 0 K (dk_of tX10_strands 1 rfl) rfl rfl ?_
  refine r_getf (C := RX10) (T := TX10) (N := 29) 2 0 5 K (dk_of tX10_strands 2 rfl) w1033 gwX10 rfl rfl (by decide) rfl ?_
  refine r_iconst 5 (1 : Int32) K (dk_of tX10_strands 3 rfl) (by decide) ?_
  refine r_ixor 6 K (dk_of tX10_strands 4 rfl) ?_
  obtain ⟨x1, hc, hR⟩ := o1 hR
  refine r_cSi 7 [.int p1, .int ((μ 0 5) ^^^ (1 : Int32))] [] x1 (wM γ am μ ++ (r)) K (ct_X10_beside hl hc.symm) cs_X10_80 ⟨rfl, rfl, rfl⟩ (dk_of tX10_strands 5 rfl) rfl rfl rfl rfl ?_
  refine r_istore_n 10 2 [some (.ref (am 0)), some (.int p1), some (.int x1)] K (dk_of tX10_strands 6 rfl) rfl rfl rfl (by decide) ?_
  refine r_aload_n 11 0 K (dk_of tX10_strands 7 rfl) rfl rfl ?_
  refine r_getf (C := RX10) (T := TX10) (N := 29) 12 0 0 K (dk_of tX10_strands 8 rfl) w1028 gwX10 rfl rfl (by decide) rfl ?_
  refine r_bipush 15 (48 : Int32) K (dk_of tX10_strands 9 rfl) (by decide) ?_
  refine r_iload_n 17 1 K (dk_of tX10_strands 10 rfl) rfl rfl ?_
  refine r_iadd 18 K (dk_of tX10_strands 11 rfl) ?_
  refine r_ialdR 19 1 K (dk_of tX10_strands 12 rfl) rfl hR (fun hR => ?_)
  refine r_aload_n 20 0 K (dk_of tX10_strands 13 rfl) rfl rfl ?_
  refine r_iload_n 21 2 K (dk_of tX10_strands 14 rfl) rfl rfl ?_
  refine r_iconst 22 (0 : Int32) K (dk_of tX10_strands 15 rfl) (by decide) ?_
  obtain ⟨x2, hc, hR⟩ := o1 hR
  refine r_cVi 23 0 [.int x1, .int (0 : Int32)] [.int (μ 1 ((48 : Int32) + p1).toNatClampNeg)] x2 (wM γ am μ ++ (r)) K (ct_X10_goes hl hc.symm) cs_X10_186 ⟨rfl, rfl, rfl⟩ (dk_of tX10_strands 16 rfl) rfl rfl rfl rfl rfl rfl ?_
  refine r_iadd 26 K (dk_of tX10_strands 17 rfl) ?_
  refine r_aload_n 27 0 K (dk_of tX10_strands 18 rfl) rfl rfl ?_
  refine r_iload_n 28 2 K (dk_of tX10_strands 19 rfl) rfl rfl ?_
  refine r_iconst 29 (1 : Int32) K (dk_of tX10_strands 20 rfl) (by decide) ?_
  obtain ⟨x3, hc, hR⟩ := o1 hR
  refine r_cVi 30 0 [.int x1, .int (1 : Int32)] [.int ((μ 1 ((48 : Int32) + p1).toNatClampNeg) + x2)] x3 (wM γ am μ ++ (r)) K (ct_X10_goes hl hc.symm) cs_X10_186 ⟨rfl, rfl, rfl⟩ (dk_of tX10_strands 21 rfl) rfl rfl rfl rfl rfl rfl ?_
  refine r_iadd 33 K (dk_of tX10_strands 22 rfl) ?_
  exact r_iret 34 K hQ (dk_of tX10_strands 23 rfl) (Nat.zero_le _) (Nat.zero_le _) (lfi0 hR)

def sp_X10_nextAnew_223 (y23 : Int32) : Nat → Int32 → Int32 → Int32 → St → Option (Int32 × St)
  | 0, _, _, _, _ => none
  | n + 1, y24, y25, y26, μ27 => if (μ27 0 10) ≤ y26 then (some ((y24 + y25), μ27)) else (if y26 < 0 ∨ 20 ≤ y26.toNatClampNeg then none else (if (μ27 8 y26.toNatClampNeg) = (1 : Int32) then (if y26 < 0 ∨ 20 ≤ y26.toNatClampNeg then none else (if (μ27 9 y26.toNatClampNeg) = y23 then (if y26 < 0 ∨ 20 ≤ y26.toNatClampNeg then none else (if ((148 : Int32) + y26) < 0 ∨ 174 ≤ ((148 : Int32) + y26).toNatClampNeg then none else (sl (((μ27 12 y26.toNatClampNeg) - (μ27 1 ((148 : Int32) + y26).toNatClampNeg))) (fun x28 : Int32 => if y26 < 0 ∨ 20 ≤ y26.toNatClampNeg then none else (b1 (sp_X10_least (μ27 11 y26.toNatClampNeg) y24) (fun (x29 : Int32) => b1 (sp_X10_least x29 x28) (fun (x30 : Int32) => if y26 < 0 ∨ 20 ≤ y26.toNatClampNeg then none else (b1 (sp_X10_least (((μ27 11 y26.toNatClampNeg) - x30) / (2 : Int32)) y25) (fun (x31 : Int32) => b1 (sp_X10_least x31 (x28 - x30)) (fun (x32 : Int32) => sl ((y24 - x30)) (fun x33 : Int32 => sl ((y25 - x32)) (fun x34 : Int32 => sp_X10_nextAnew_223 y23 n x33 x34 (y26 + 1) μ27)))))))))))) else (sp_X10_nextAnew_223 y23 n y24 y25 (y26 + 1) μ27))) else (sp_X10_nextAnew_223 y23 n y24 y25 (y26 + 1) μ27)))
def sp_X10_nextAnew_137 (y17 : Int32) (y18 : Int32) (y19 : Int32) : Nat → Int32 → Int32 → St → Option (Int32 × St)
  | 0, _, _, _ => none
  | n + 1, y20, y21, μ22 => if (4 : Int32) ≤ y21 then (sp_X10_nextAnew_223 y17 200 y19 y20 (0 : Int32) μ22) else (if y18 = 0 then (sp_X10_nextAnew_223 y17 200 y19 y20 (0 : Int32) μ22) else (b1 (sp_X10_beside y17 y21) (fun (x35 : Int32) => if x35 = (-1 : Int32) then (if (0 : Int32) = 0 then (sl ((y20 + (0 : Int32))) (fun x36 : Int32 => sp_X10_nextAnew_137 y17 y18 y19 n x36 (y21 + 1) μ22)) else (b1 (sp_X10_strands x35 μ22) (fun (x37 : Int32) => b1 (sp_X10_back x35 x37 μ22) (fun (x38 : Int32) => sl ((y20 + x38)) (fun x39 : Int32 => sp_X10_nextAnew_137 y17 y18 y19 n x39 (y21 + 1) μ22))))) else (if x35 < 0 ∨ 24 ≤ x35.toNatClampNeg then none else (if (μ22 3 x35.toNatClampNeg) = 0 then (if (0 : Int32) = 0 then (sl ((y20 + (0 : Int32))) (fun x40 : Int32 => sp_X10_nextAnew_137 y17 y18 y19 n x40 (y21 + 1) μ22)) else (b1 (sp_X10_strands x35 μ22) (fun (x41 : Int32) => b1 (sp_X10_back x35 x41 μ22) (fun (x42 : Int32) => sl ((y20 + x42)) (fun x43 : Int32 => sp_X10_nextAnew_137 y17 y18 y19 n x43 (y21 + 1) μ22))))) else (b1 (sp_X10_lowestWater x35 μ22) (fun (x44 : Int32) => if x44 = y17 then (if (1 : Int32) = 0 then (sl ((y20 + (0 : Int32))) (fun x45 : Int32 => sp_X10_nextAnew_137 y17 y18 y19 n x45 (y21 + 1) μ22)) else (b1 (sp_X10_strands x35 μ22) (fun (x46 : Int32) => b1 (sp_X10_back x35 x46 μ22) (fun (x47 : Int32) => sl ((y20 + x47)) (fun x48 : Int32 => sp_X10_nextAnew_137 y17 y18 y19 n x48 (y21 + 1) μ22))))) else (if (0 : Int32) = 0 then (sl ((y20 + (0 : Int32))) (fun x49 : Int32 => sp_X10_nextAnew_137 y17 y18 y19 n x49 (y21 + 1) μ22)) else (b1 (sp_X10_strands x35 μ22) (fun (x50 : Int32) => b1 (sp_X10_back x35 x50 μ22) (fun (x51 : Int32) => sl ((y20 + x51)) (fun x52 : Int32 => sp_X10_nextAnew_137 y17 y18 y19 n x52 (y21 + 1) μ22))))))))))))
def sp_X10_nextAnew_37  (y5 : Int32) (y6 : Int32) (μ7 : St) : Option (Int32 × St) := if y5 < 0 ∨ 24 ≤ y5.toNatClampNeg then none else (if (μ7 3 y5.toNatClampNeg) = 0 then (b1 (sp_X10_beside y5 ((μ7 0 5) ^^^ (1 : Int32))) (fun (x8 : Int32) => b1 (sp_X10_floats y5 (0 : Int32) μ7) (fun (x9 : Int32) => b1 (sp_X10_goes y5 (0 : Int32) μ7) (fun (x10 : Int32) => b1 (sp_X10_goes x8 (0 : Int32) μ7) (fun (x11 : Int32) => sl (((x9 - x10) + x11)) (fun x12 : Int32 => b1 (sp_X10_floats y5 (1 : Int32) μ7) (fun (x13 : Int32) => b1 (sp_X10_goes y5 (1 : Int32) μ7) (fun (x14 : Int32) => b1 (sp_X10_goes x8 (1 : Int32) μ7) (fun (x15 : Int32) => sl (((x13 - x14) + x15)) (fun x16 : Int32 => sp_X10_nextAnew_137 y5 y6 x12 200 x16 (0 : Int32) μ7)))))))))) else (b1 (sp_X10_strands y5 μ7) (fun (x53 : Int32) => if y6 = 0 then (some (x53, μ7)) else (b1 (sp_X10_lowestWater y5 μ7) (fun (x54 : Int32) => if x54 = (-1 : Int32) then (some (x53, μ7)) else (b1 (sp_X10_back y5 x53 μ7) (fun (x55 : Int32) => some ((x53 - x55), μ7))))))))
def sp_X10_nextAnew (p1 : Int32) (μ : St) : Option (Int32 × St) := b1 (sp_X10_isCell p1) (fun (x1 : Int32) => b2 (sp_X10_fails x1 (1 : Int32) μ) (fun (x2 : Int32) (μ3 : St) => if x2 = 0 then (b1 (sp_X10_tide ((μ3 1 (168 : Int32).toNatClampNeg) + (1 : Int32))) (fun (x4 : Int32) => if x4 = (6 : Int32) then (sp_X10_nextAnew_37 p1 (1 : Int32) μ3) else (sp_X10_nextAnew_37 p1 (0 : Int32) μ3))) else (some ((0 : Int32), μ3))))
set_option maxHeartbeats 4000000 in
set_option maxRecDepth 100000 in
theorem ct_X10_nextAnew {l : Launch} (hl : l.stackTraces = false) {γ : Gd} {am : Nat → Nat} {μ : St} {r : va_W} {p1 : Int32} {x0 : Int32} {μ0 : St} (hR : some (x0, μ0) = sp_X10_nextAnew p1 μ) : Ct l γ yX10_nextAnew (Cond.code yX10_nextAnew cX10_nextAnew 10 (some .int)) ({ frames := 6, cells := 0, slots := 0, locals := 135 } : Room) [.ref (am 0), .int p1] (wM γ am μ ++ (r)) (Pr (some (.int x0)) (wM γ am μ0 ++ (r))) 0 0 := by
  refine Ct_of hl (by decide +kernel) rfl (Nat.le_of_ble_eq_true rfl) (L := [some (.ref (am 0)), some (.int p1), none, none, none, none, none, none, none, none]) rfl ?_
  intro X Q K hQ
  generalize ((wM γ am μ ++ (r), Q) : MX) = M at K hQ ⊢
  unfold sp_X10_nextAnew at hR
  have b223 : ∀ (y23 : Int32) (n : Nat) (y24 : Int32) (y25 : Int32) (y26 : Int32) (μ27 : St), some (x0, μ0) = sp_X10_nextAnew_223 y23 n y24 y25 y26 μ27 → V l γ X M (wM γ am μ27 ++ (r)) [some (.ref (am 0)), some (.int y23), none, none, some (.int y24), some (.int y25), some (.int y26), none, none, none] 0 0 223 [] := by
    intro y23 n
    induction n with
    | zero => intro y24 y25 y26 μ27 hR; exact nn_ hR
    | succ n ih223 =>
      intro y24 y25 y26 μ27 hR
      rw [sp_X10_nextAnew_223] at hR
      refine r_iload 223 6 K (dk_of tX10_nextAnew_1 28 rfl) rfl ?_
      refine r_aload_n 225 0 K (dk_of tX10_nextAnew_1 29 rfl) rfl rfl ?_
      refine r_getf (C := RX10) (T := TX10) (N := 29) 226 0 10 K (dk_of tX10_nextAnew_1 30 rfl) w1038 gwX10 rfl rfl (by decide) rfl ?_
      refine r_ic_ge 229 341 K (dk_of tX10_nextAnew_1 31 rfl) (by decide) hR (fun hR => ?_) (fun hR => ?_)
      · refine r_iload 341 4 K (dk_of tX10_nextAnew_1 90 rfl) rfl ?_
        refine r_iload 343 5 K (dk_of tX10_nextAnew_1 91 rfl) rfl ?_
        refine r_iadd 345 K (dk_of tX10_nextAnew_1 92 rfl) ?_
        exact r_iret 346 K hQ (dk_of tX10_nextAnew_1 93 rfl) (Nat.zero_le _) (Nat.zero_le _) (lfi (fun u9 : St => wM γ am u9 ++ (r)) hR)
      · refine r_aload_n 232 0 K (dk_of tX10_nextAnew_1 32 rfl) rfl rfl ?_
        refine r_getf (C := RX10) (T := TX10) (N := 29) 233 0 11 K (dk_of tX10_nextAnew_1 33 rfl) w1039 gwX10 rfl rfl (by decide) rfl ?_
        refine r_iload 236 6 K (dk_of tX10_nextAnew_1 34 rfl) rfl ?_
        refine r_ialdR 238 8 K (dk_of tX10_nextAnew_1 35 rfl) rfl hR (fun hR => ?_)
        refine r_iconst 239 (1 : Int32) K (dk_of tX10_nextAnew_1 36 rfl) (by decide) ?_
        refine r_ic_ne 240 335 K (dk_of tX10_nextAnew_1 37 rfl) (by decide) hR (fun hR => ?_) (fun hR => ?_)
        · refine r_aload_n 243 0 K (dk_of tX10_nextAnew_1 38 rfl) rfl rfl ?_
          refine r_getf (C := RX10) (T := TX10) (N := 29) 244 0 12 K (dk_of tX10_nextAnew_1 39 rfl) w1040 gwX10 rfl rfl (by decide) rfl ?_
          refine r_iload 247 6 K (dk_of tX10_nextAnew_1 40 rfl) rfl ?_
          refine r_ialdR 249 9 K (dk_of tX10_nextAnew_1 41 rfl) rfl hR (fun hR => ?_)
          refine r_iload_n 250 1 K (dk_of tX10_nextAnew_1 42 rfl) rfl rfl ?_
          refine r_ic_ne 251 335 K (dk_of tX10_nextAnew_1 43 rfl) (by decide) hR (fun hR => ?_) (fun hR => ?_)
          · refine r_aload_n 254 0 K (dk_of tX10_nextAnew_1 44 rfl) rfl rfl ?_
            refine r_getf (C := RX10) (T := TX10) (N := 29) 255 0 15 K (dk_of tX10_nextAnew_1 45 rfl) w1043 gwX10 rfl rfl (by decide) rfl ?_
            refine r_iload 258 6 K (dk_of tX10_nextAnew_1 46 rfl) rfl ?_
            refine r_ialdR 260 12 K (dk_of tX10_nextAnew_1 47 rfl) rfl hR (fun hR => ?_)
            refine r_aload_n 261 0 K (dk_of tX10_nextAnew_1 48 rfl) rfl rfl ?_
            refine r_getf (C := RX10) (T := TX10) (N := 29) 262 0 0 K (dk_of tX10_nextAnew_1 49 rfl) w1028 gwX10 rfl rfl (by decide) rfl ?_
            refine r_sipush 265 (148 : Int32) K (dk_of tX10_nextAnew_1 50 rfl) (by decide) ?_
            refine r_iload 268 6 K (dk_of tX10_nextAnew_1 51 rfl) rfl ?_
            refine r_iadd 270 K (dk_of tX10_nextAnew_1 52 rfl) ?_
            refine r_ialdR 271 1 K (dk_of tX10_nextAnew_1 53 rfl) rfl hR (fun hR => ?_)
            refine r_isub 272 K (dk_of tX10_nextAnew_1 54 rfl) ?_
            refine r_nmI hR (fun x28 hR => ?_)
            refine r_istore 273 7 [some (.ref (am 0)), some (.int y23), none, none, some (.int y24), some (.int y25), some (.int y26), some (.int x28), none, none] K (dk_of tX10_nextAnew_1 55 rfl) rfl rfl (by decide) ?_
            refine r_aload_n 275 0 K (dk_of tX10_nextAnew_1 56 rfl) rfl rfl ?_
            refine r_getf (C := RX10) (T := TX10) (N := 29) 276 0 14 K (dk_of tX10_nextAnew_1 57 rfl) w1042 gwX10 rfl rfl (by decide) rfl ?_
            refine r_iload 279 6 K (dk_of tX10_nextAnew_1 58 rfl) rfl ?_
            refine r_ialdR 281 11 K (dk_of tX10_nextAnew_1 59 rfl) rfl hR (fun hR => ?_)
            refine r_iload 282 4 K (dk_of tX10_nextAnew_1 60 rfl) rfl ?_
            obtain ⟨x29, hc, hR⟩ := o1 hR
            refine r_cSi 284 [.int (μ27 11 y26.toNatClampNeg), .int y24] [] x29 (wM γ am μ27 ++ (r)) K (ct_X10_least hl hc.symm) cs_X10_88 ⟨rfl, rfl, rfl⟩ (dk_of tX10_nextAnew_1 61 rfl) rfl rfl rfl rfl ?_
            refine r_iload 287 7 K (dk_of tX10_nextAnew_1 62 rfl) rfl ?_
            obtain ⟨x30, hc, hR⟩ := o1 hR
            refine r_cSi 289 [.int x29, .int x28] [] x30 (wM γ am μ27 ++ (r)) K (ct_X10_least hl hc.symm) cs_X10_88 ⟨rfl, rfl, rfl⟩ (dk_of tX10_nextAnew_1 63 rfl) rfl rfl rfl rfl ?_
            refine r_istore 292 8 [some (.ref (am 0)), some (.int y23), none, none, some (.int y24), some (.int y25), some (.int y26), some (.int x28), some (.int x30), none] K (dk_of tX10_nextAnew_1 64 rfl) rfl rfl (by decide) ?_
            refine r_aload_n 294 0 K (dk_of tX10_nextAnew_1 65 rfl) rfl rfl ?_
            refine r_getf (C := RX10) (T := TX10) (N := 29) 295 0 14 K (dk_of tX10_nextAnew_1 66 rfl) w1042 gwX10 rfl rfl (by decide) rfl ?_
            refine r_iload 298 6 K (dk_of tX10_nextAnew_1 67 rfl) rfl ?_
            refine r_ialdR 300 11 K (dk_of tX10_nextAnew_1 68 rfl) rfl hR (fun hR => ?_)
            refine r_iload 301 8 K (dk_of tX10_nextAnew_1 69 rfl) rfl ?_
            refine r_isub 303 K (dk_of tX10_nextAnew_1 70 rfl) ?_
            refine r_iconst 304 (2 : Int32) K (dk_of tX10_nextAnew_1 71 rfl) (by decide) ?_
            refine r_idiv 305 K (dk_of tX10_nextAnew_1 72 rfl) (by decide) ?_
            refine r_iload 306 5 K (dk_of tX10_nextAnew_1 73 rfl) rfl ?_
            obtain ⟨x31, hc, hR⟩ := o1 hR
            refine r_cSi 308 [.int (((μ27 11 y26.toNatClampNeg) - x30) / (2 : Int32)), .int y25] [] x31 (wM γ am μ27 ++ (r)) K (ct_X10_least hl hc.symm) cs_X10_88 ⟨rfl, rfl, rfl⟩ (dk_of tX10_nextAnew_1 74 rfl) rfl rfl rfl rfl ?_
            refine r_iload 311 7 K (dk_of tX10_nextAnew_1 75 rfl) rfl ?_
            refine r_iload 313 8 K (dk_of tX10_nextAnew_1 76 rfl) rfl ?_
            refine r_isub 315 K (dk_of tX10_nextAnew_1 77 rfl) ?_
            obtain ⟨x32, hc, hR⟩ := o1 hR
            refine r_cSi 316 [.int x31, .int (x28 - x30)] [] x32 (wM γ am μ27 ++ (r)) K (ct_X10_least hl hc.symm) cs_X10_88 ⟨rfl, rfl, rfl⟩ (dk_of tX10_nextAnew_1 78 rfl) rfl rfl rfl rfl ?_
            refine r_istore 319 9 [some (.ref (am 0)), some (.int y23), none, none, some (.int y24), some (.int y25), some (.int y26), some (.int x28), some (.int x30), some (.int x32)] K (dk_of tX10_nextAnew_1 79 rfl) rfl rfl (by decide) ?_
            refine r_iload 321 4 K (dk_of tX10_nextAnew_1 80 rfl) rfl ?_
            refine r_iload 323 8 K (dk_of tX10_nextAnew_1 81 rfl) rfl ?_
            refine r_isub 325 K (dk_of tX10_nextAnew_1 82 rfl) ?_
            refine r_nmI hR (fun x33 hR => ?_)
            refine r_istore 326 4 [some (.ref (am 0)), some (.int y23), none, none, some (.int x33), some (.int y25), some (.int y26), some (.int x28), some (.int x30), some (.int x32)] K (dk_of tX10_nextAnew_1 83 rfl) rfl rfl (by decide) ?_
            refine r_iload 328 5 K (dk_of tX10_nextAnew_1 84 rfl) rfl ?_
            refine r_iload 330 9 K (dk_of tX10_nextAnew_1 85 rfl) rfl ?_
            refine r_isub 332 K (dk_of tX10_nextAnew_1 86 rfl) ?_
            refine r_nmI hR (fun x34 hR => ?_)
            refine r_istore 333 5 [some (.ref (am 0)), some (.int y23), none, none, some (.int x33), some (.int x34), some (.int y26), some (.int x28), some (.int x30), some (.int x32)] K (dk_of tX10_nextAnew_1 87 rfl) rfl rfl (by decide) ?_
            refine r_iinc 335 6 (y26 + 1) [some (.ref (am 0)), some (.int y23), none, none, some (.int x33), some (.int x34), some (.int (y26 + 1)), some (.int x28), some (.int x30), some (.int x32)] K (dk_of tX10_nextAnew_1 88 rfl) rfl rfl rfl rfl (by decide) ?_
            refine r_goto 338 223 K (dk_of tX10_nextAnew_1 89 rfl) (by decide) ?_
            exact r_msk [true, true, true, true, true, true, true, false, false, false] [some (.ref (am 0)), some (.int y23), none, none, some (.int x33), some (.int x34), some (.int (y26 + 1)), none, none, none] rfl (ih223 x33 x34 (y26 + 1) μ27 hR)
          · refine r_iinc 335 6 (y26 + 1) [some (.ref (am 0)), some (.int y23), none, none, some (.int y24), some (.int y25), some (.int (y26 + 1)), none, none, none] K (dk_of tX10_nextAnew_1 88 rfl) rfl rfl rfl rfl (by decide) ?_
            refine r_goto 338 223 K (dk_of tX10_nextAnew_1 89 rfl) (by decide) ?_
            exact ih223 y24 y25 (y26 + 1) μ27 hR
        · refine r_iinc 335 6 (y26 + 1) [some (.ref (am 0)), some (.int y23), none, none, some (.int y24), some (.int y25), some (.int (y26 + 1)), none, none, none] K (dk_of tX10_nextAnew_1 88 rfl) rfl rfl rfl rfl (by decide) ?_
          refine r_goto 338 223 K (dk_of tX10_nextAnew_1 89 rfl) (by decide) ?_
          exact ih223 y24 y25 (y26 + 1) μ27 hR
  have b137 : ∀ (y17 : Int32) (y18 : Int32) (y19 : Int32) (n : Nat) (y20 : Int32) (y21 : Int32) (μ22 : St), some (x0, μ0) = sp_X10_nextAnew_137 y17 y18 y19 n y20 y21 μ22 → V l γ X M (wM γ am μ22 ++ (r)) [some (.ref (am 0)), some (.int y17), some (.int y18), none, some (.int y19), some (.int y20), some (.int y21), none, none, none] 0 0 137 [] := by
    intro y17 y18 y19 n
    induction n with
    | zero => intro y20 y21 μ22 hR; exact nn_ hR
    | succ n ih137 =>
      intro y20 y21 μ22 hR
      rw [sp_X10_nextAnew_137] at hR
      refine r_iload 137 6 K (dk_of tX10_nextAnew_0 85 rfl) rfl ?_
      refine r_iconst 139 (4 : Int32) K (dk_of tX10_nextAnew_0 86 rfl) (by decide) ?_
      refine r_ic_ge 140 220 K (dk_of tX10_nextAnew_0 87 rfl) (by decide) hR (fun hR => ?_) (fun hR => ?_)
      · refine r_iconst 220 (0 : Int32) K (dk_of tX10_nextAnew_1 26 rfl) (by decide) ?_
        refine r_istore 221 6 [some (.ref (am 0)), some (.int y17), some (.int y18), none, some (.int y19), some (.int y20), some (.int (0 : Int32)), none, none, none] K (dk_of tX10_nextAnew_1 27 rfl) rfl rfl (by decide) ?_
        exact r_msk [true, true, false, true, true, true, true, true, true, true] [some (.ref (am 0)), some (.int y17), none, none, some (.int y19), some (.int y20), some (.int (0 : Int32)), none, none, none] rfl (b223 y17 200 y19 y20 (0 : Int32) μ22 hR)
      · refine r_iload_n 143 2 K (dk_of tX10_nextAnew_0 88 rfl) rfl rfl ?_
        refine r_if_eq 144 220 K (dk_of tX10_nextAnew_0 89 rfl) (by decide) hR (fun hR => ?_) (fun hR => ?_)
        · refine r_iconst 220 (0 : Int32) K (dk_of tX10_nextAnew_1 26 rfl) (by decide) ?_
          refine r_istore 221 6 [some (.ref (am 0)), some (.int y17), some (.int y18), none, some (.int y19), some (.int y20), some (.int (0 : Int32)), none, none, none] K (dk_of tX10_nextAnew_1 27 rfl) rfl rfl (by decide) ?_
          exact r_msk [true, true, false, true, true, true, true, true, true, true] [some (.ref (am 0)), some (.int y17), none, none, some (.int y19), some (.int y20), some (.int (0 : Int32)), none, none, none] rfl (b223 y17 200 y19 y20 (0 : Int32) μ22 hR)
        · refine r_iload_n 147 1 K (dk_of tX10_nextAnew_0 90 rfl) rfl rfl ?_
          refine r_iload 148 6 K (dk_of tX10_nextAnew_0 91 rfl) rfl ?_
          obtain ⟨x35, hc, hR⟩ := o1 hR
          refine r_cSi 150 [.int y17, .int y21] [] x35 (wM γ am μ22 ++ (r)) K (ct_X10_beside hl hc.symm) cs_X10_80 ⟨rfl, rfl, rfl⟩ (dk_of tX10_nextAnew_0 92 rfl) rfl rfl rfl rfl ?_
          refine r_istore 153 7 [some (.ref (am 0)), some (.int y17), some (.int y18), none, some (.int y19), some (.int y20), some (.int y21), some (.int x35), none, none] K (dk_of tX10_nextAnew_0 93 rfl) rfl rfl (by decide) ?_
          refine r_iload 155 7 K (dk_of tX10_nextAnew_0 94 rfl) rfl ?_
          refine r_iconst 157 (-1) K (dk_of tX10_nextAnew_0 95 rfl) (by decide) ?_
          refine r_ic_eq 158 185 K (dk_of tX10_nextAnew_0 96 rfl) (by decide) hR (fun hR => ?_) (fun hR => ?_)
          · refine r_iconst 185 (0 : Int32) K (dk_of tX10_nextAnew_1 9 rfl) (by decide) ?_
            refine r_istore 186 8 [some (.ref (am 0)), some (.int y17), some (.int y18), none, some (.int y19), some (.int y20), some (.int y21), some (.int x35), some (.int (0 : Int32)), none] K (dk_of tX10_nextAnew_1 10 rfl) rfl rfl (by decide) ?_
            refine r_iload 188 5 K (dk_of tX10_nextAnew_1 11 rfl) rfl ?_
            refine r_iload 190 8 K (dk_of tX10_nextAnew_1 12 rfl) rfl ?_
            refine r_if_eq 192 210 K (dk_of tX10_nextAnew_1 13 rfl) (by decide) hR (fun hR => ?_) (fun hR => ?_)
            · refine r_iconst 210 (0 : Int32) K (dk_of tX10_nextAnew_1 21 rfl) (by decide) ?_
              refine r_iadd 211 K (dk_of tX10_nextAnew_1 22 rfl) ?_
              refine r_nmI hR (fun x36 hR => ?_)
              refine r_istore 212 5 [some (.ref (am 0)), some (.int y17), some (.int y18), none, some (.int y19), some (.int x36), some (.int y21), some (.int x35), some (.int (0 : Int32)), none] K (dk_of tX10_nextAnew_1 23 rfl) rfl rfl (by decide) ?_
              refine r_iinc 214 6 (y21 + 1) [some (.ref (am 0)), some (.int y17), some (.int y18), none, some (.int y19), some (.int x36), some (.int (y21 + 1)), some (.int x35), some (.int (0 : Int32)), none] K (dk_of tX10_nextAnew_1 24 rfl) rfl rfl rfl rfl (by decide) ?_
              refine r_goto 217 137 K (dk_of tX10_nextAnew_1 25 rfl) (by decide) ?_
              exact r_msk [true, true, true, true, true, true, true, false, false, true] [some (.ref (am 0)), some (.int y17), some (.int y18), none, some (.int y19), some (.int x36), some (.int (y21 + 1)), none, none, none] rfl (ih137 x36 (y21 + 1) μ22 hR)
            · refine r_aload_n 195 0 K (dk_of tX10_nextAnew_1 14 rfl) rfl rfl ?_
              refine r_iload 196 7 K (dk_of tX10_nextAnew_1 15 rfl) rfl ?_
              refine r_aload_n 198 0 K (dk_of tX10_nextAnew_1 16 rfl) rfl rfl ?_
              refine r_iload 199 7 K (dk_of tX10_nextAnew_1 17 rfl) rfl ?_
              obtain ⟨x37, hc, hR⟩ := o1 hR
              refine r_cVi 201 0 [.int x35] [.int x35, .ref (am 0), .int y20] x37 (wM γ am μ22 ++ (r)) K (ct_X10_strands hl hc.symm) cs_X10_189 ⟨rfl, rfl, rfl⟩ (dk_of tX10_nextAnew_1 18 rfl) rfl rfl rfl rfl rfl rfl ?_
              obtain ⟨x38, hc, hR⟩ := o1 hR
              refine r_cVi 204 0 [.int x35, .int x37] [.int y20] x38 (wM γ am μ22 ++ (r)) K (ct_X10_back hl hc.symm) cs_X10_122 ⟨rfl, rfl, rfl⟩ (dk_of tX10_nextAnew_1 19 rfl) rfl rfl rfl rfl rfl rfl ?_
              refine r_goto 207 211 K (dk_of tX10_nextAnew_1 20 rfl) (by decide) ?_
              refine r_iadd 211 K (dk_of tX10_nextAnew_1 22 rfl) ?_
              refine r_nmI hR (fun x39 hR => ?_)
              refine r_istore 212 5 [some (.ref (am 0)), some (.int y17), some (.int y18), none, some (.int y19), some (.int x39), some (.int y21), some (.int x35), some (.int (0 : Int32)), none] K (dk_of tX10_nextAnew_1 23 rfl) rfl rfl (by decide) ?_
              refine r_iinc 214 6 (y21 + 1) [some (.ref (am 0)), some (.int y17), some (.int y18), none, some (.int y19), some (.int x39), some (.int (y21 + 1)), some (.int x35), some (.int (0 : Int32)), none] K (dk_of tX10_nextAnew_1 24 rfl) rfl rfl rfl rfl (by decide) ?_
              refine r_goto 217 137 K (dk_of tX10_nextAnew_1 25 rfl) (by decide) ?_
              exact r_msk [true, true, true, true, true, true, true, false, false, true] [some (.ref (am 0)), some (.int y17), some (.int y18), none, some (.int y19), some (.int x39), some (.int (y21 + 1)), none, none, none] rfl (ih137 x39 (y21 + 1) μ22 hR)
          · refine r_aload_n 161 0 K (dk_of tX10_nextAnew_0 97 rfl) rfl rfl ?_
            refine r_getf (C := RX10) (T := TX10) (N := 29) 162 0 2 K (dk_of tX10_nextAnew_0 98 rfl) w1030 gwX10 rfl rfl (by decide) rfl ?_
            refine r_iload 165 7 K (dk_of tX10_nextAnew_0 99 rfl) rfl ?_
            refine r_ialdR 167 3 K (dk_of tX10_nextAnew_1 0 rfl) rfl hR (fun hR => ?_)
            refine r_if_eq 168 185 K (dk_of tX10_nextAnew_1 1 rfl) (by decide) hR (fun hR => ?_) (fun hR => ?_)
            · refine r_iconst 185 (0 : Int32) K (dk_of tX10_nextAnew_1 9 rfl) (by decide) ?_
              refine r_istore 186 8 [some (.ref (am 0)), some (.int y17), some (.int y18), none, some (.int y19), some (.int y20), some (.int y21), some (.int x35), some (.int (0 : Int32)), none] K (dk_of tX10_nextAnew_1 10 rfl) rfl rfl (by decide) ?_
              refine r_iload 188 5 K (dk_of tX10_nextAnew_1 11 rfl) rfl ?_
              refine r_iload 190 8 K (dk_of tX10_nextAnew_1 12 rfl) rfl ?_
              refine r_if_eq 192 210 K (dk_of tX10_nextAnew_1 13 rfl) (by decide) hR (fun hR => ?_) (fun hR => ?_)
              · refine r_iconst 210 (0 : Int32) K (dk_of tX10_nextAnew_1 21 rfl) (by decide) ?_
                refine r_iadd 211 K (dk_of tX10_nextAnew_1 22 rfl) ?_
                refine r_nmI hR (fun x40 hR => ?_)
                refine r_istore 212 5 [some (.ref (am 0)), some (.int y17), some (.int y18), none, some (.int y19), some (.int x40), some (.int y21), some (.int x35), some (.int (0 : Int32)), none] K (dk_of tX10_nextAnew_1 23 rfl) rfl rfl (by decide) ?_
                refine r_iinc 214 6 (y21 + 1) [some (.ref (am 0)), some (.int y17), some (.int y18), none, some (.int y19), some (.int x40), some (.int (y21 + 1)), some (.int x35), some (.int (0 : Int32)), none] K (dk_of tX10_nextAnew_1 24 rfl) rfl rfl rfl rfl (by decide) ?_
                refine r_goto 217 137 K (dk_of tX10_nextAnew_1 25 rfl) (by decide) ?_
                exact r_msk [true, true, true, true, true, true, true, false, false, true] [some (.ref (am 0)), some (.int y17), some (.int y18), none, some (.int y19), some (.int x40), some (.int (y21 + 1)), none, none, none] rfl (ih137 x40 (y21 + 1) μ22 hR)
              · refine r_aload_n 195 0 K (dk_of tX10_nextAnew_1 14 rfl) rfl rfl ?_
                refine r_iload 196 7 K (dk_of tX10_nextAnew_1 15 rfl) rfl ?_
                refine r_aload_n 198 0 K (dk_of tX10_nextAnew_1 16 rfl) rfl rfl ?_
                refine r_iload 199 7 K (dk_of tX10_nextAnew_1 17 rfl) rfl ?_
                obtain ⟨x41, hc, hR⟩ := o1 hR
                refine r_cVi 201 0 [.int x35] [.int x35, .ref (am 0), .int y20] x41 (wM γ am μ22 ++ (r)) K (ct_X10_strands hl hc.symm) cs_X10_189 ⟨rfl, rfl, rfl⟩ (dk_of tX10_nextAnew_1 18 rfl) rfl rfl rfl rfl rfl rfl ?_
                obtain ⟨x42, hc, hR⟩ := o1 hR
                refine r_cVi 204 0 [.int x35, .int x41] [.int y20] x42 (wM γ am μ22 ++ (r)) K (ct_X10_back hl hc.symm) cs_X10_122 ⟨rfl, rfl, rfl⟩ (dk_of tX10_nextAnew_1 19 rfl) rfl rfl rfl rfl rfl rfl ?_
                refine r_goto 207 211 K (dk_of tX10_nextAnew_1 20 rfl) (by decide) ?_
                refine r_iadd 211 K (dk_of tX10_nextAnew_1 22 rfl) ?_
                refine r_nmI hR (fun x43 hR => ?_)
                refine r_istore 212 5 [some (.ref (am 0)), some (.int y17), some (.int y18), none, some (.int y19), some (.int x43), some (.int y21), some (.int x35), some (.int (0 : Int32)), none] K (dk_of tX10_nextAnew_1 23 rfl) rfl rfl (by decide) ?_
                refine r_iinc 214 6 (y21 + 1) [some (.ref (am 0)), some (.int y17), some (.int y18), none, some (.int y19), some (.int x43), some (.int (y21 + 1)), some (.int x35), some (.int (0 : Int32)), none] K (dk_of tX10_nextAnew_1 24 rfl) rfl rfl rfl rfl (by decide) ?_
                refine r_goto 217 137 K (dk_of tX10_nextAnew_1 25 rfl) (by decide) ?_
                exact r_msk [true, true, true, true, true, true, true, false, false, true] [some (.ref (am 0)), some (.int y17), some (.int y18), none, some (.int y19), some (.int x43), some (.int (y21 + 1)), none, none, none] rfl (ih137 x43 (y21 + 1) μ22 hR)
            · refine r_aload_n 171 0 K (dk_of tX10_nextAnew_1 2 rfl) rfl rfl ?_
              refine r_iload 172 7 K (dk_of tX10_nextAnew_1 3 rfl) rfl ?_
              obtain ⟨x44, hc, hR⟩ := o1 hR
              refine r_cVi 174 0 [.int x35] [] x44 (wM γ am μ22 ++ (r)) K (ct_X10_lowestWater hl hc.symm) cs_X10_119 ⟨rfl, rfl, rfl⟩ (dk_of tX10_nextAnew_1 4 rfl) rfl rfl rfl rfl rfl rfl ?_
              refine r_iload_n 177 1 K (dk_of tX10_nextAnew_1 5 rfl) rfl rfl ?_
              refine r_ic_ne 178 185 K (dk_of tX10_nextAnew_1 6 rfl) (by decide) hR (fun hR => ?_) (fun hR => ?_)
              · refine r_iconst 181 (1 : Int32) K (dk_of tX10_nextAnew_1 7 rfl) (by decide) ?_
                refine r_goto 182 186 K (dk_of tX10_nextAnew_1 8 rfl) (by decide) ?_
                refine r_istore 186 8 [some (.ref (am 0)), some (.int y17), some (.int y18), none, some (.int y19), some (.int y20), some (.int y21), some (.int x35), some (.int (1 : Int32)), none] K (dk_of tX10_nextAnew_1 10 rfl) rfl rfl (by decide) ?_
                refine r_iload 188 5 K (dk_of tX10_nextAnew_1 11 rfl) rfl ?_
                refine r_iload 190 8 K (dk_of tX10_nextAnew_1 12 rfl) rfl ?_
                refine r_if_eq 192 210 K (dk_of tX10_nextAnew_1 13 rfl) (by decide) hR (fun hR => ?_) (fun hR => ?_)
                · refine r_iconst 210 (0 : Int32) K (dk_of tX10_nextAnew_1 21 rfl) (by decide) ?_
                  refine r_iadd 211 K (dk_of tX10_nextAnew_1 22 rfl) ?_
                  refine r_nmI hR (fun x45 hR => ?_)
                  refine r_istore 212 5 [some (.ref (am 0)), some (.int y17), some (.int y18), none, some (.int y19), some (.int x45), some (.int y21), some (.int x35), some (.int (1 : Int32)), none] K (dk_of tX10_nextAnew_1 23 rfl) rfl rfl (by decide) ?_
                  refine r_iinc 214 6 (y21 + 1) [some (.ref (am 0)), some (.int y17), some (.int y18), none, some (.int y19), some (.int x45), some (.int (y21 + 1)), some (.int x35), some (.int (1 : Int32)), none] K (dk_of tX10_nextAnew_1 24 rfl) rfl rfl rfl rfl (by decide) ?_
                  refine r_goto 217 137 K (dk_of tX10_nextAnew_1 25 rfl) (by decide) ?_
                  exact r_msk [true, true, true, true, true, true, true, false, false, true] [some (.ref (am 0)), some (.int y17), some (.int y18), none, some (.int y19), some (.int x45), some (.int (y21 + 1)), none, none, none] rfl (ih137 x45 (y21 + 1) μ22 hR)
                · refine r_aload_n 195 0 K (dk_of tX10_nextAnew_1 14 rfl) rfl rfl ?_
                  refine r_iload 196 7 K (dk_of tX10_nextAnew_1 15 rfl) rfl ?_
                  refine r_aload_n 198 0 K (dk_of tX10_nextAnew_1 16 rfl) rfl rfl ?_
                  refine r_iload 199 7 K (dk_of tX10_nextAnew_1 17 rfl) rfl ?_
                  obtain ⟨x46, hc, hR⟩ := o1 hR
                  refine r_cVi 201 0 [.int x35] [.int x35, .ref (am 0), .int y20] x46 (wM γ am μ22 ++ (r)) K (ct_X10_strands hl hc.symm) cs_X10_189 ⟨rfl, rfl, rfl⟩ (dk_of tX10_nextAnew_1 18 rfl) rfl rfl rfl rfl rfl rfl ?_
                  obtain ⟨x47, hc, hR⟩ := o1 hR
                  refine r_cVi 204 0 [.int x35, .int x46] [.int y20] x47 (wM γ am μ22 ++ (r)) K (ct_X10_back hl hc.symm) cs_X10_122 ⟨rfl, rfl, rfl⟩ (dk_of tX10_nextAnew_1 19 rfl) rfl rfl rfl rfl rfl rfl ?_
                  refine r_goto 207 211 K (dk_of tX10_nextAnew_1 20 rfl) (by decide) ?_
                  refine r_iadd 211 K (dk_of tX10_nextAnew_1 22 rfl) ?_
                  refine r_nmI hR (fun x48 hR => ?_)
                  refine r_istore 212 5 [some (.ref (am 0)), some (.int y17), some (.int y18), none, some (.int y19), some (.int x48), some (.int y21), some (.int x35), some (.int (1 : Int32)), none] K (dk_of tX10_nextAnew_1 23 rfl) rfl rfl (by decide) ?_
                  refine r_iinc 214 6 (y21 + 1) [some (.ref (am 0)), some (.int y17), some (.int y18), none, some (.int y19), some (.int x48), some (.int (y21 + 1)), some (.int x35), some (.int (1 : Int32)), none] K (dk_of tX10_nextAnew_1 24 rfl) rfl rfl rfl rfl (by decide) ?_
                  refine r_goto 217 137 K (dk_of tX10_nextAnew_1 25 rfl) (by decide) ?_
                  exact r_msk [true, true, true, true, true, true, true, false, false, true] [some (.ref (am 0)), some (.int y17), some (.int y18), none, some (.int y19), some (.int x48), some (.int (y21 + 1)), none, none, none] rfl (ih137 x48 (y21 + 1) μ22 hR)
              · refine r_iconst 185 (0 : Int32) K (dk_of tX10_nextAnew_1 9 rfl) (by decide) ?_
                refine r_istore 186 8 [some (.ref (am 0)), some (.int y17), some (.int y18), none, some (.int y19), some (.int y20), some (.int y21), some (.int x35), some (.int (0 : Int32)), none] K (dk_of tX10_nextAnew_1 10 rfl) rfl rfl (by decide) ?_
                refine r_iload 188 5 K (dk_of tX10_nextAnew_1 11 rfl) rfl ?_
                refine r_iload 190 8 K (dk_of tX10_nextAnew_1 12 rfl) rfl ?_
                refine r_if_eq 192 210 K (dk_of tX10_nextAnew_1 13 rfl) (by decide) hR (fun hR => ?_) (fun hR => ?_)
                · refine r_iconst 210 (0 : Int32) K (dk_of tX10_nextAnew_1 21 rfl) (by decide) ?_
                  refine r_iadd 211 K (dk_of tX10_nextAnew_1 22 rfl) ?_
                  refine r_nmI hR (fun x49 hR => ?_)
                  refine r_istore 212 5 [some (.ref (am 0)), some (.int y17), some (.int y18), none, some (.int y19), some (.int x49), some (.int y21), some (.int x35), some (.int (0 : Int32)), none] K (dk_of tX10_nextAnew_1 23 rfl) rfl rfl (by decide) ?_
                  refine r_iinc 214 6 (y21 + 1) [some (.ref (am 0)), some (.int y17), some (.int y18), none, some (.int y19), some (.int x49), some (.int (y21 + 1)), some (.int x35), some (.int (0 : Int32)), none] K (dk_of tX10_nextAnew_1 24 rfl) rfl rfl rfl rfl (by decide) ?_
                  refine r_goto 217 137 K (dk_of tX10_nextAnew_1 25 rfl) (by decide) ?_
                  exact r_msk [true, true, true, true, true, true, true, false, false, true] [some (.ref (am 0)), some (.int y17), some (.int y18), none, some (.int y19), some (.int x49), some (.int (y21 + 1)), none, none, none] rfl (ih137 x49 (y21 + 1) μ22 hR)
                · refine r_aload_n 195 0 K (dk_of tX10_nextAnew_1 14 rfl) rfl rfl ?_
                  refine r_iload 196 7 K (dk_of tX10_nextAnew_1 15 rfl) rfl ?_
                  refine r_aload_n 198 0 K (dk_of tX10_nextAnew_1 16 rfl) rfl rfl ?_
                  refine r_iload 199 7 K (dk_of tX10_nextAnew_1 17 rfl) rfl ?_
                  obtain ⟨x50, hc, hR⟩ := o1 hR
                  refine r_cVi 201 0 [.int x35] [.int x35, .ref (am 0), .int y20] x50 (wM γ am μ22 ++ (r)) K (ct_X10_strands hl hc.symm) cs_X10_189 ⟨rfl, rfl, rfl⟩ (dk_of tX10_nextAnew_1 18 rfl) rfl rfl rfl rfl rfl rfl ?_
                  obtain ⟨x51, hc, hR⟩ := o1 hR
                  refine r_cVi 204 0 [.int x35, .int x50] [.int y20] x51 (wM γ am μ22 ++ (r)) K (ct_X10_back hl hc.symm) cs_X10_122 ⟨rfl, rfl, rfl⟩ (dk_of tX10_nextAnew_1 19 rfl) rfl rfl rfl rfl rfl rfl ?_
                  refine r_goto 207 211 K (dk_of tX10_nextAnew_1 20 rfl) (by decide) ?_
                  refine r_iadd 211 K (dk_of tX10_nextAnew_1 22 rfl) ?_
                  refine r_nmI hR (fun x52 hR => ?_)
                  refine r_istore 212 5 [some (.ref (am 0)), some (.int y17), some (.int y18), none, some (.int y19), some (.int x52), some (.int y21), some (.int x35), some (.int (0 : Int32)), none] K (dk_of tX10_nextAnew_1 23 rfl) rfl rfl (by decide) ?_
                  refine r_iinc 214 6 (y21 + 1) [some (.ref (am 0)), some (.int y17), some (.int y18), none, some (.int y19), some (.int x52), some (.int (y21 + 1)), some (.int x35), some (.int (0 : Int32)), none] K (dk_of tX10_nextAnew_1 24 rfl) rfl rfl rfl rfl (by decide) ?_
                  refine r_goto 217 137 K (dk_of tX10_nextAnew_1 25 rfl) (by decide) ?_
                  exact r_msk [true, true, true, true, true, true, true, false, false, true] [some (.ref (am 0)), some (.int y17), some (.int y18), none, some (.int y19), some (.int x52), some (.int (y21 + 1)), none, none, none] rfl (ih137 x52 (y21 + 1) μ22 hR)
  have b37 : ∀ (y5 : Int32) (y6 : Int32) (μ7 : St), some (x0, μ0) = sp_X10_nextAnew_37  y5 y6 μ7 → V l γ X M (wM γ am μ7 ++ (r)) [some (.ref (am 0)), some (.int y5), none, none, none, none, none, none, none, none] 0 0 37 [.int y6] := by
    intro  y5 y6 μ7 hR
    unfold sp_X10_nextAnew_37 at hR
    refine r_istore_n 37 2 [some (.ref (am 0)), some (.int y5), some (.int y6), none, none, none, none, none, none, none] K (dk_of tX10_nextAnew_0 20 rfl) rfl rfl rfl (by decide) ?_
    refine r_aload_n 38 0 K (dk_of tX10_nextAnew_0 21 rfl) rfl rfl ?_
    refine r_getf (C := RX10) (T := TX10) (N := 29) 39 0 2 K (dk_of tX10_nextAnew_0 22 rfl) w1030 gwX10 rfl rfl (by decide) rfl ?_
    refine r_iload_n 42 1 K (dk_of tX10_nextAnew_0 23 rfl) rfl rfl ?_
    refine r_ialdR 43 3 K (dk_of tX10_nextAnew_0 24 rfl) rfl hR (fun hR => ?_)
    refine r_if_eq 44 79 K (dk_of tX10_nextAnew_0 25 rfl) (by decide) hR (fun hR => ?_) (fun hR => ?_)
    · refine r_iload_n 79 1 K (dk_of tX10_nextAnew_0 46 rfl) rfl rfl ?_
      refine r_aload_n 80 0 K (dk_of tX10_nextAnew_0 47 rfl) rfl rfl ?_
      refine r_getf (C := RX10) (T := TX10) (N := 29) 81 0 5 K (dk_of tX10_nextAnew_0 48 rfl) w1033 gwX10 rfl rfl (by decide) rfl ?_
      refine r_iconst 84 (1 : Int32) K (dk_of tX10_nextAnew_0 49 rfl) (by decide) ?_
      refine r_ixor 85 K (dk_of tX10_nextAnew_0 50 rfl) ?_
      obtain ⟨x8, hc, hR⟩ := o1 hR
      refine r_cSi 86 [.int y5, .int ((μ7 0 5) ^^^ (1 : Int32))] [] x8 (wM γ am μ7 ++ (r)) K (ct_X10_beside hl hc.symm) cs_X10_80 ⟨rfl, rfl, rfl⟩ (dk_of tX10_nextAnew_0 51 rfl) rfl rfl rfl rfl ?_
      refine r_istore_n 89 3 [some (.ref (am 0)), some (.int y5), some (.int y6), some (.int x8), none, none, none, none, none, none] K (dk_of tX10_nextAnew_0 52 rfl) rfl rfl rfl (by decide) ?_
      refine r_aload_n 90 0 K (dk_of tX10_nextAnew_0 53 rfl) rfl rfl ?_
      refine r_iload_n 91 1 K (dk_of tX10_nextAnew_0 54 rfl) rfl rfl ?_
      refine r_iconst 92 (0 : Int32) K (dk_of tX10_nextAnew_0 55 rfl) (by decide) ?_
      obtain ⟨x9, hc, hR⟩ := o1 hR
      refine r_cVi 93 0 [.int y5, .int (0 : Int32)] [] x9 (wM γ am μ7 ++ (r)) K (ct_X10_floats hl hc.symm) cs_X10_182 ⟨rfl, rfl, rfl⟩ (dk_of tX10_nextAnew_0 56 rfl) rfl rfl rfl rfl rfl rfl ?_
      refine r_aload_n 96 0 K (dk_of tX10_nextAnew_0 57 rfl) rfl rfl ?_
      refine r_iload_n 97 1 K (dk_of tX10_nextAnew_0 58 rfl) rfl rfl ?_
      refine r_iconst 98 (0 : Int32) K (dk_of tX10_nextAnew_0 59 rfl) (by decide) ?_
      obtain ⟨x10, hc, hR⟩ := o1 hR
      refine r_cVi 99 0 [.int y5, .int (0 : Int32)] [.int x9] x10 (wM γ am μ7 ++ (r)) K (ct_X10_goes hl hc.symm) cs_X10_186 ⟨rfl, rfl, rfl⟩ (dk_of tX10_nextAnew_0 60 rfl) rfl rfl rfl rfl rfl rfl ?_
      refine r_isub 102 K (dk_of tX10_nextAnew_0 61 rfl) ?_
      refine r_aload_n 103 0 K (dk_of tX10_nextAnew_0 62 rfl) rfl rfl ?_
      refine r_iload_n 104 3 K (dk_of tX10_nextAnew_0 63 rfl) rfl rfl ?_
      refine r_iconst 105 (0 : Int32) K (dk_of tX10_nextAnew_0 64 rfl) (by decide) ?_
      obtain ⟨x11, hc, hR⟩ := o1 hR
      refine r_cVi 106 0 [.int x8, .int (0 : Int32)] [.int (x9 - x10)] x11 (wM γ am μ7 ++ (r)) K (ct_X10_goes hl hc.symm) cs_X10_186 ⟨rfl, rfl, rfl⟩ (dk_of tX10_nextAnew_0 65 rfl) rfl rfl rfl rfl rfl rfl ?_
      refine r_iadd 109 K (dk_of tX10_nextAnew_0 66 rfl) ?_
      refine r_nmI hR (fun x12 hR => ?_)
      refine r_istore 110 4 [some (.ref (am 0)), some (.int y5), some (.int y6), some (.int x8), some (.int x12), none, none, none, none, none] K (dk_of tX10_nextAnew_0 67 rfl) rfl rfl (by decide) ?_
      refine r_aload_n 112 0 K (dk_of tX10_nextAnew_0 68 rfl) rfl rfl ?_
      refine r_iload_n 113 1 K (dk_of tX10_nextAnew_0 69 rfl) rfl rfl ?_
      refine r_iconst 114 (1 : Int32) K (dk_of tX10_nextAnew_0 70 rfl) (by decide) ?_
      obtain ⟨x13, hc, hR⟩ := o1 hR
      refine r_cVi 115 0 [.int y5, .int (1 : Int32)] [] x13 (wM γ am μ7 ++ (r)) K (ct_X10_floats hl hc.symm) cs_X10_182 ⟨rfl, rfl, rfl⟩ (dk_of tX10_nextAnew_0 71 rfl) rfl rfl rfl rfl rfl rfl ?_
      refine r_aload_n 118 0 K (dk_of tX10_nextAnew_0 72 rfl) rfl rfl ?_
      refine r_iload_n 119 1 K (dk_of tX10_nextAnew_0 73 rfl) rfl rfl ?_
      refine r_iconst 120 (1 : Int32) K (dk_of tX10_nextAnew_0 74 rfl) (by decide) ?_
      obtain ⟨x14, hc, hR⟩ := o1 hR
      refine r_cVi 121 0 [.int y5, .int (1 : Int32)] [.int x13] x14 (wM γ am μ7 ++ (r)) K (ct_X10_goes hl hc.symm) cs_X10_186 ⟨rfl, rfl, rfl⟩ (dk_of tX10_nextAnew_0 75 rfl) rfl rfl rfl rfl rfl rfl ?_
      refine r_isub 124 K (dk_of tX10_nextAnew_0 76 rfl) ?_
      refine r_aload_n 125 0 K (dk_of tX10_nextAnew_0 77 rfl) rfl rfl ?_
      refine r_iload_n 126 3 K (dk_of tX10_nextAnew_0 78 rfl) rfl rfl ?_
      refine r_iconst 127 (1 : Int32) K (dk_of tX10_nextAnew_0 79 rfl) (by decide) ?_
      obtain ⟨x15, hc, hR⟩ := o1 hR
      refine r_cVi 128 0 [.int x8, .int (1 : Int32)] [.int (x13 - x14)] x15 (wM γ am μ7 ++ (r)) K (ct_X10_goes hl hc.symm) cs_X10_186 ⟨rfl, rfl, rfl⟩ (dk_of tX10_nextAnew_0 80 rfl) rfl rfl rfl rfl rfl rfl ?_
      refine r_iadd 131 K (dk_of tX10_nextAnew_0 81 rfl) ?_
      refine r_nmI hR (fun x16 hR => ?_)
      refine r_istore 132 5 [some (.ref (am 0)), some (.int y5), some (.int y6), some (.int x8), some (.int x12), some (.int x16), none, none, none, none] K (dk_of tX10_nextAnew_0 82 rfl) rfl rfl (by decide) ?_
      refine r_iconst 134 (0 : Int32) K (dk_of tX10_nextAnew_0 83 rfl) (by decide) ?_
      refine r_istore 135 6 [some (.ref (am 0)), some (.int y5), some (.int y6), some (.int x8), some (.int x12), some (.int x16), some (.int (0 : Int32)), none, none, none] K (dk_of tX10_nextAnew_0 84 rfl) rfl rfl (by decide) ?_
      exact r_msk [true, true, true, false, true, true, true, true, true, true] [some (.ref (am 0)), some (.int y5), some (.int y6), none, some (.int x12), some (.int x16), some (.int (0 : Int32)), none, none, none] rfl (b137 y5 y6 x12 200 x16 (0 : Int32) μ7 hR)
    · refine r_aload_n 47 0 K (dk_of tX10_nextAnew_0 26 rfl) rfl rfl ?_
      refine r_iload_n 48 1 K (dk_of tX10_nextAnew_0 27 rfl) rfl rfl ?_
      obtain ⟨x53, hc, hR⟩ := o1 hR
      refine r_cVi 49 0 [.int y5] [] x53 (wM γ am μ7 ++ (r)) K (ct_X10_strands hl hc.symm) cs_X10_189 ⟨rfl, rfl, rfl⟩ (dk_of tX10_nextAnew_0 28 rfl) rfl rfl rfl rfl rfl rfl ?_
      refine r_istore_n 52 3 [some (.ref (am 0)), some (.int y5), some (.int y6), some (.int x53), none, none, none, none, none, none] K (dk_of tX10_nextAnew_0 29 rfl) rfl rfl rfl (by decide) ?_
      refine r_iload_n 53 2 K (dk_of tX10_nextAnew_0 30 rfl) rfl rfl ?_
      refine r_if_eq 54 77 K (dk_of tX10_nextAnew_0 31 rfl) (by decide) hR (fun hR => ?_) (fun hR => ?_)
      · refine r_iload_n 77 3 K (dk_of tX10_nextAnew_0 44 rfl) rfl rfl ?_
        exact r_iret 78 K hQ (dk_of tX10_nextAnew_0 45 rfl) (Nat.zero_le _) (Nat.zero_le _) (lfi (fun u9 : St => wM γ am u9 ++ (r)) hR)
      · refine r_aload_n 57 0 K (dk_of tX10_nextAnew_0 32 rfl) rfl rfl ?_
        refine r_iload_n 58 1 K (dk_of tX10_nextAnew_0 33 rfl) rfl rfl ?_
        obtain ⟨x54, hc, hR⟩ := o1 hR
        refine r_cVi 59 0 [.int y5] [] x54 (wM γ am μ7 ++ (r)) K (ct_X10_lowestWater hl hc.symm) cs_X10_119 ⟨rfl, rfl, rfl⟩ (dk_of tX10_nextAnew_0 34 rfl) rfl rfl rfl rfl rfl rfl ?_
        refine r_iconst 62 (-1) K (dk_of tX10_nextAnew_0 35 rfl) (by decide) ?_
        refine r_ic_eq 63 77 K (dk_of tX10_nextAnew_0 36 rfl) (by decide) hR (fun hR => ?_) (fun hR => ?_)
        · refine r_iload_n 77 3 K (dk_of tX10_nextAnew_0 44 rfl) rfl rfl ?_
          exact r_iret 78 K hQ (dk_of tX10_nextAnew_0 45 rfl) (Nat.zero_le _) (Nat.zero_le _) (lfi (fun u9 : St => wM γ am u9 ++ (r)) hR)
        · refine r_iload_n 66 3 K (dk_of tX10_nextAnew_0 37 rfl) rfl rfl ?_
          refine r_aload_n 67 0 K (dk_of tX10_nextAnew_0 38 rfl) rfl rfl ?_
          refine r_iload_n 68 1 K (dk_of tX10_nextAnew_0 39 rfl) rfl rfl ?_
          refine r_iload_n 69 3 K (dk_of tX10_nextAnew_0 40 rfl) rfl rfl ?_
          obtain ⟨x55, hc, hR⟩ := o1 hR
          refine r_cVi 70 0 [.int y5, .int x53] [.int x53] x55 (wM γ am μ7 ++ (r)) K (ct_X10_back hl hc.symm) cs_X10_122 ⟨rfl, rfl, rfl⟩ (dk_of tX10_nextAnew_0 41 rfl) rfl rfl rfl rfl rfl rfl ?_
          refine r_isub 73 K (dk_of tX10_nextAnew_0 42 rfl) ?_
          refine r_goto 74 78 K (dk_of tX10_nextAnew_0 43 rfl) (by decide) ?_
          exact r_iret 78 K hQ (dk_of tX10_nextAnew_0 45 rfl) (Nat.zero_le _) (Nat.zero_le _) (lfi (fun u9 : St => wM γ am u9 ++ (r)) hR)
  refine r_aload_n 0 0 K (dk_of tX10_nextAnew_0 0 rfl) rfl rfl ?_
  refine r_iload_n 1 1 K (dk_of tX10_nextAnew_0 1 rfl) rfl rfl ?_
  obtain ⟨x1, hc, hR⟩ := o1 hR
  refine r_cSi 2 [.int p1] [.ref (am 0)] x1 (wM γ am μ ++ (r)) K (ct_X10_isCell hl hc.symm) cs_X10_76 ⟨rfl, rfl, rfl⟩ (dk_of tX10_nextAnew_0 2 rfl) rfl rfl rfl rfl ?_
  refine r_iconst 5 (1 : Int32) K (dk_of tX10_nextAnew_0 3 rfl) (by decide) ?_
  obtain ⟨x2, μ3, hc, hR⟩ := o2 hR
  refine r_cVi 6 0 [.int x1, .int (1 : Int32)] [] x2 (wM γ am μ3 ++ (r)) K (ct_X10_fails hl hc.symm) cs_X10_131 ⟨rfl, rfl, rfl⟩ (dk_of tX10_nextAnew_0 4 rfl) rfl rfl rfl rfl rfl rfl ?_
  refine r_if_eq 9 14 K (dk_of tX10_nextAnew_0 5 rfl) (by decide) hR (fun hR => ?_) (fun hR => ?_)
  · refine r_aload_n 14 0 K (dk_of tX10_nextAnew_0 8 rfl) rfl rfl ?_
    refine r_getf (C := RX10) (T := TX10) (N := 29) 15 0 0 K (dk_of tX10_nextAnew_0 9 rfl) w1028 gwX10 rfl rfl (by decide) rfl ?_
    refine r_sipush 18 (168 : Int32) K (dk_of tX10_nextAnew_0 10 rfl) (by decide) ?_
    refine r_iald 21 1 K (dk_of tX10_nextAnew_0 11 rfl) rfl (vpd (by decide)) ?_
    refine r_iconst 22 (1 : Int32) K (dk_of tX10_nextAnew_0 12 rfl) (by decide) ?_
    refine r_iadd 23 K (dk_of tX10_nextAnew_0 13 rfl) ?_
    obtain ⟨x4, hc, hR⟩ := o1 hR
    refine r_cSi 24 [.int ((μ3 1 (168 : Int32).toNatClampNeg) + (1 : Int32))] [] x4 (wM γ am μ3 ++ (r)) K (ct_X10_tide hl hc.symm) cs_X10_84 ⟨rfl, rfl, rfl⟩ (dk_of tX10_nextAnew_0 14 rfl) rfl rfl rfl rfl ?_
    refine r_bipush 27 (6 : Int32) K (dk_of tX10_nextAnew_0 15 rfl) (by decide) ?_
    refine r_ic_ne 29 36 K (dk_of tX10_nextAnew_0 16 rfl) (by decide) hR (fun hR => ?_) (fun hR => ?_)
    · refine r_iconst 32 (1 : Int32) K (dk_of tX10_nextAnew_0 17 rfl) (by decide) ?_
      refine r_goto 33 37 K (dk_of tX10_nextAnew_0 18 rfl) (by decide) ?_
      exact b37 p1 (1 : Int32) μ3 hR
    · refine r_iconst 36 (0 : Int32) K (dk_of tX10_nextAnew_0 19 rfl) (by decide) ?_
      exact b37 p1 (0 : Int32) μ3 hR
  · refine r_iconst 12 (0 : Int32) K (dk_of tX10_nextAnew_0 6 rfl) (by decide) ?_
    exact r_iret 13 K hQ (dk_of tX10_nextAnew_0 7 rfl) (Nat.zero_le _) (Nat.zero_le _) (lfi (fun u9 : St => wM γ am u9 ++ (r)) hR)

def sp_X10_over_5 (μ : St) (y1 : Int32) (y2 : Int32) : Nat → Int32 → Int32 → Option (Int32)
  | 0, _, _ => none
  | n + 1, y3, y4 => if (y1 + y2) ≤ y4 then (some y3) else (if y4 < 0 ∨ 174 ≤ y4.toNatClampNeg then none else (sl ((y3 + (μ 1 y4.toNatClampNeg))) (fun x5 : Int32 => sp_X10_over_5 μ y1 y2 n x5 (y4 + 1))))
def sp_X10_over (p1 : Int32) (p2 : Int32) (μ : St) : Option (Int32) := sp_X10_over_5 μ p1 p2 200 (0 : Int32) p1
set_option maxHeartbeats 4000000 in
set_option maxRecDepth 100000 in
theorem ct_X10_over {l : Launch} (hl : l.stackTraces = false) {γ : Gd} {am : Nat → Nat} {μ : St} {r : va_W} {p1 : Int32} {p2 : Int32} {x0 : Int32} (hR : some x0 = sp_X10_over p1 p2 μ) : Ct l γ yX10_over (Cond.code yX10_over cX10_over 5 (some .int)) ({ frames := 0, cells := 0, slots := 0, locals := 0 } : Room) [.ref (am 0), .int p1, .int p2] (wM γ am μ ++ (r)) (Pr (some (.int x0)) (wM γ am μ ++ (r))) 0 0 := by
  refine Ct_of hl (by decide +kernel) rfl (Nat.le_of_ble_eq_true rfl) (L := [some (.ref (am 0)), some (.int p1), some (.int p2), none, none]) rfl ?_
  intro X Q K hQ
  generalize ((wM γ am μ ++ (r), Q) : MX) = M at K hQ ⊢
  unfold sp_X10_over at hR
  have b5 : ∀ (y1 : Int32) (y2 : Int32) (n : Nat) (y3 : Int32) (y4 : Int32), some x0 = sp_X10_over_5 μ y1 y2 n y3 y4 → V l γ X M (wM γ am μ ++ (r)) [some (.ref (am 0)), some (.int y1), some (.int y2), some (.int y3), some (.int y4)] 0 0 5 [] := by
    intro y1 y2 n
    induction n with
    | zero => intro y3 y4 hR; exact nn_ hR
    | succ n ih5 =>
      intro y3 y4 hR
      rw [sp_X10_over_5] at hR
      refine r_iload 5 4 K (dk_of tX10_over 4 rfl) rfl ?_
      refine r_iload_n 7 1 K (dk_of tX10_over 5 rfl) rfl rfl ?_
      refine r_iload_n 8 2 K (dk_of tX10_over 6 rfl) rfl rfl ?_
      refine r_iadd 9 K (dk_of tX10_over 7 rfl) ?_
      refine r_ic_ge 10 29 K (dk_of tX10_over 8 rfl) (by decide) hR (fun hR => ?_) (fun hR => ?_)
      · refine r_iload_n 29 3 K (dk_of tX10_over 18 rfl) rfl rfl ?_
        exact r_iret 30 K hQ (dk_of tX10_over 19 rfl) (Nat.zero_le _) (Nat.zero_le _) (lfi0 hR)
      · refine r_iload_n 13 3 K (dk_of tX10_over 9 rfl) rfl rfl ?_
        refine r_aload_n 14 0 K (dk_of tX10_over 10 rfl) rfl rfl ?_
        refine r_getf (C := RX10) (T := TX10) (N := 29) 15 0 0 K (dk_of tX10_over 11 rfl) w1028 gwX10 rfl rfl (by decide) rfl ?_
        refine r_iload 18 4 K (dk_of tX10_over 12 rfl) rfl ?_
        refine r_ialdR 20 1 K (dk_of tX10_over 13 rfl) rfl hR (fun hR => ?_)
        refine r_iadd 21 K (dk_of tX10_over 14 rfl) ?_
        refine r_nmI hR (fun x5 hR => ?_)
        refine r_istore_n 22 3 [some (.ref (am 0)), some (.int y1), some (.int y2), some (.int x5), some (.int y4)] K (dk_of tX10_over 15 rfl) rfl rfl rfl (by decide) ?_
        refine r_iinc 23 4 (y4 + 1) [some (.ref (am 0)), some (.int y1), some (.int y2), some (.int x5), some (.int (y4 + 1))] K (dk_of tX10_over 16 rfl) rfl rfl rfl rfl (by decide) ?_
        refine r_goto 26 5 K (dk_of tX10_over 17 rfl) (by decide) ?_
        exact ih5 x5 (y4 + 1) hR
  refine r_iconst 0 (0 : Int32) K (dk_of tX10_over 0 rfl) (by decide) ?_
  refine r_istore_n 1 3 [some (.ref (am 0)), some (.int p1), some (.int p2), some (.int (0 : Int32)), none] K (dk_of tX10_over 1 rfl) rfl rfl rfl (by decide) ?_
  refine r_iload_n 2 1 K (dk_of tX10_over 2 rfl) rfl rfl ?_
  refine r_istore 3 4 [some (.ref (am 0)), some (.int p1), some (.int p2), some (.int (0 : Int32)), some (.int p1)] K (dk_of tX10_over 3 rfl) rfl rfl (by decide) ?_
  exact b5 p1 p2 200 (0 : Int32) p1 hR

def sp_X10_sum_192  (y8 : Int32) (y9 : Int32) (μ10 : St) : Option (Int32 × St) := if y8 = (8 : Int32) then (some (y9, μ10)) else (if y8 = (9 : Int32) then (some ((μ10 0 18), μ10)) else (if y8 = (10 : Int32) then (some ((μ10 0 19), μ10)) else (some ((((μ10 15 (0 : Int32).toNatClampNeg) + (μ10 15 (1 : Int32).toNatClampNeg)) + (μ10 0 21)), μ10))))
def sp_X10_sum_145 (y4 : Int32) : Nat → Int32 → Int32 → St → Option (Int32 × St)
  | 0, _, _, _ => none
  | n + 1, y5, y6, μ7 => if (μ7 0 10) ≤ y6 then (sp_X10_sum_192 y4 y5 μ7) else (if y4 = (8 : Int32) then (if y6 < 0 ∨ 20 ≤ y6.toNatClampNeg then none else (if (μ7 8 y6.toNatClampNeg) = (1 : Int32) then (if ((148 : Int32) + y6) < 0 ∨ 174 ≤ ((148 : Int32) + y6).toNatClampNeg then none else (sl ((y5 + (μ7 1 ((148 : Int32) + y6).toNatClampNeg))) (fun x11 : Int32 => sp_X10_sum_145 y4 n x11 (y6 + 1) μ7))) else (sl ((y5 + (0 : Int32))) (fun x12 : Int32 => sp_X10_sum_145 y4 n x12 (y6 + 1) μ7)))) else (sp_X10_sum_192 y4 y5 μ7))
def sp_X10_sum (p1 : Int32) (μ : St) : Option (Int32 × St) := b1 (sp_X10_in p1 (0 : Int32) (11 : Int32)) (fun (x1 : Int32) => b2 (sp_X10_fails x1 (1 : Int32) μ) (fun (x2 : Int32) (μ3 : St) => if x2 = 0 then (if (4 : Int32) ≤ p1 then (if (8 : Int32) ≤ p1 then (sp_X10_sum_145 p1 200 (0 : Int32) (0 : Int32) μ3) else (if p1 = (4 : Int32) then (some ((μ3 1 (171 : Int32).toNatClampNeg), μ3)) else (if p1 = (5 : Int32) then (some ((μ3 1 (172 : Int32).toNatClampNeg), μ3)) else (if p1 = (6 : Int32) then (some ((μ3 1 (173 : Int32).toNatClampNeg), μ3)) else (b1 (sp_X10_over (48 : Int32) (24 : Int32) μ3) (fun (x13 : Int32) => some (x13, μ3))))))) else (if p1 = 0 then (some ((μ3 1 (168 : Int32).toNatClampNeg), μ3)) else (if p1 = (1 : Int32) then (some ((μ3 1 (169 : Int32).toNatClampNeg), μ3)) else (if p1 = (2 : Int32) then (b1 (sp_X10_over (144 : Int32) (4 : Int32) μ3) (fun (x14 : Int32) => some (x14, μ3))) else (b1 (sp_X10_over (0 : Int32) (48 : Int32) μ3) (fun (x15 : Int32) => some (x15, μ3))))))) else (some ((0 : Int32), μ3))))
set_option maxHeartbeats 4000000 in
set_option maxRecDepth 100000 in
theorem ct_X10_sum {l : Launch} (hl : l.stackTraces = false) {γ : Gd} {am : Nat → Nat} {μ : St} {r : va_W} {p1 : Int32} {x0 : Int32} {μ0 : St} (hR : some (x0, μ0) = sp_X10_sum p1 μ) : Ct l γ yX10_sum (Cond.code yX10_sum cX10_sum 4 (some .int)) ({ frames := 1, cells := 0, slots := 0, locals := 24 } : Room) [.ref (am 0), .int p1] (wM γ am μ ++ (r)) (Pr (some (.int x0)) (wM γ am μ0 ++ (r))) 0 0 := by
  refine Ct_of hl (by decide +kernel) rfl (Nat.le_of_ble_eq_true rfl) (L := [some (.ref (am 0)), some (.int p1), none, none]) rfl ?_
  intro X Q K hQ
  generalize ((wM γ am μ ++ (r), Q) : MX) = M at K hQ ⊢
  unfold sp_X10_sum at hR
  have b192 : ∀ (y8 : Int32) (y9 : Int32) (μ10 : St), some (x0, μ0) = sp_X10_sum_192  y8 y9 μ10 → V l γ X M (wM γ am μ10 ++ (r)) [some (.ref (am 0)), some (.int y8), some (.int y9), none] 0 0 192 [] := by
    intro  y8 y9 μ10 hR
    unfold sp_X10_sum_192 at hR
    refine r_iload_n 192 1 K (dk_of tX10_sum_1 3 rfl) rfl rfl ?_
    refine r_bipush 193 (8 : Int32) K (dk_of tX10_sum_1 4 rfl) (by decide) ?_
    refine r_ic_ne 195 202 K (dk_of tX10_sum_1 5 rfl) (by decide) hR (fun hR => ?_) (fun hR => ?_)
    · refine r_iload_n 198 2 K (dk_of tX10_sum_1 6 rfl) rfl rfl ?_
      refine r_goto 199 246 K (dk_of tX10_sum_1 7 rfl) (by decide) ?_
      exact r_iret 246 K hQ (dk_of tX10_sum_1 32 rfl) (Nat.zero_le _) (Nat.zero_le _) (lfi (fun u9 : St => wM γ am u9 ++ (r)) hR)
    · refine r_iload_n 202 1 K (dk_of tX10_sum_1 8 rfl) rfl rfl ?_
      refine r_bipush 203 (9 : Int32) K (dk_of tX10_sum_1 9 rfl) (by decide) ?_
      refine r_ic_ne 205 215 K (dk_of tX10_sum_1 10 rfl) (by decide) hR (fun hR => ?_) (fun hR => ?_)
      · refine r_aload_n 208 0 K (dk_of tX10_sum_1 11 rfl) rfl rfl ?_
        refine r_getf (C := RX10) (T := TX10) (N := 29) 209 0 18 K (dk_of tX10_sum_1 12 rfl) w1046 gwX10 rfl rfl (by decide) rfl ?_
        refine r_goto 212 246 K (dk_of tX10_sum_1 13 rfl) (by decide) ?_
        exact r_iret 246 K hQ (dk_of tX10_sum_1 32 rfl) (Nat.zero_le _) (Nat.zero_le _) (lfi (fun u9 : St => wM γ am u9 ++ (r)) hR)
      · refine r_iload_n 215 1 K (dk_of tX10_sum_1 14 rfl) rfl rfl ?_
        refine r_bipush 216 (10 : Int32) K (dk_of tX10_sum_1 15 rfl) (by decide) ?_
        refine r_ic_ne 218 228 K (dk_of tX10_sum_1 16 rfl) (by decide) hR (fun hR => ?_) (fun hR => ?_)
        · refine r_aload_n 221 0 K (dk_of tX10_sum_1 17 rfl) rfl rfl ?_
          refine r_getf (C := RX10) (T := TX10) (N := 29) 222 0 19 K (dk_of tX10_sum_1 18 rfl) w1047 gwX10 rfl rfl (by decide) rfl ?_
          refine r_goto 225 246 K (dk_of tX10_sum_1 19 rfl) (by decide) ?_
          exact r_iret 246 K hQ (dk_of tX10_sum_1 32 rfl) (Nat.zero_le _) (Nat.zero_le _) (lfi (fun u9 : St => wM γ am u9 ++ (r)) hR)
        · refine r_aload_n 228 0 K (dk_of tX10_sum_1 20 rfl) rfl rfl ?_
          refine r_getf (C := RX10) (T := TX10) (N := 29) 229 0 20 K (dk_of tX10_sum_1 21 rfl) w1048 gwX10 rfl rfl (by decide) rfl ?_
          refine r_iconst 232 (0 : Int32) K (dk_of tX10_sum_1 22 rfl) (by decide) ?_
          refine r_iald 233 15 K (dk_of tX10_sum_1 23 rfl) rfl (vpd (by decide)) ?_
          refine r_aload_n 234 0 K (dk_of tX10_sum_1 24 rfl) rfl rfl ?_
          refine r_getf (C := RX10) (T := TX10) (N := 29) 235 0 20 K (dk_of tX10_sum_1 25 rfl) w1048 gwX10 rfl rfl (by decide) rfl ?_
          refine r_iconst 238 (1 : Int32) K (dk_of tX10_sum_1 26 rfl) (by decide) ?_
          refine r_iald 239 15 K (dk_of tX10_sum_1 27 rfl) rfl (vpd (by decide)) ?_
          refine r_iadd 240 K (dk_of tX10_sum_1 28 rfl) ?_
          refine r_aload_n 241 0 K (dk_of tX10_sum_1 29 rfl) rfl rfl ?_
          refine r_getf (C := RX10) (T := TX10) (N := 29) 242 0 21 K (dk_of tX10_sum_1 30 rfl) w1049 gwX10 rfl rfl (by decide) rfl ?_
          refine r_iadd 245 K (dk_of tX10_sum_1 31 rfl) ?_
          exact r_iret 246 K hQ (dk_of tX10_sum_1 32 rfl) (Nat.zero_le _) (Nat.zero_le _) (lfi (fun u9 : St => wM γ am u9 ++ (r)) hR)
  have b145 : ∀ (y4 : Int32) (n : Nat) (y5 : Int32) (y6 : Int32) (μ7 : St), some (x0, μ0) = sp_X10_sum_145 y4 n y5 y6 μ7 → V l γ X M (wM γ am μ7 ++ (r)) [some (.ref (am 0)), some (.int y4), some (.int y5), some (.int y6)] 0 0 145 [] := by
    intro y4 n
    induction n with
    | zero => intro y5 y6 μ7 hR; exact nn_ hR
    | succ n ih145 =>
      intro y5 y6 μ7 hR
      rw [sp_X10_sum_145] at hR
      refine r_iload_n 145 3 K (dk_of tX10_sum_0 77 rfl) rfl rfl ?_
      refine r_aload_n 146 0 K (dk_of tX10_sum_0 78 rfl) rfl rfl ?_
      refine r_getf (C := RX10) (T := TX10) (N := 29) 147 0 10 K (dk_of tX10_sum_0 79 rfl) w1038 gwX10 rfl rfl (by decide) rfl ?_
      refine r_ic_ge 150 192 K (dk_of tX10_sum_0 80 rfl) (by decide) hR (fun hR => ?_) (fun hR => ?_)
      · exact r_msk [true, true, true, false] [some (.ref (am 0)), some (.int y4), some (.int y5), none] rfl (b192 y4 y5 μ7 hR)
      · refine r_iload_n 153 1 K (dk_of tX10_sum_0 81 rfl) rfl rfl ?_
        refine r_bipush 154 (8 : Int32) K (dk_of tX10_sum_0 82 rfl) (by decide) ?_
        refine r_ic_ne 156 192 K (dk_of tX10_sum_0 83 rfl) (by decide) hR (fun hR => ?_) (fun hR => ?_)
        · refine r_iload_n 159 2 K (dk_of tX10_sum_0 84 rfl) rfl rfl ?_
          refine r_aload_n 160 0 K (dk_of tX10_sum_0 85 rfl) rfl rfl ?_
          refine r_getf (C := RX10) (T := TX10) (N := 29) 161 0 11 K (dk_of tX10_sum_0 86 rfl) w1039 gwX10 rfl rfl (by decide) rfl ?_
          refine r_iload_n 164 3 K (dk_of tX10_sum_0 87 rfl) rfl rfl ?_
          refine r_ialdR 165 8 K (dk_of tX10_sum_0 88 rfl) rfl hR (fun hR => ?_)
          refine r_iconst 166 (1 : Int32) K (dk_of tX10_sum_0 89 rfl) (by decide) ?_
          refine r_ic_ne 167 183 K (dk_of tX10_sum_0 90 rfl) (by decide) hR (fun hR => ?_) (fun hR => ?_)
          · refine r_aload_n 170 0 K (dk_of tX10_sum_0 91 rfl) rfl rfl ?_
            refine r_getf (C := RX10) (T := TX10) (N := 29) 171 0 0 K (dk_of tX10_sum_0 92 rfl) w1028 gwX10 rfl rfl (by decide) rfl ?_
            refine r_sipush 174 (148 : Int32) K (dk_of tX10_sum_0 93 rfl) (by decide) ?_
            refine r_iload_n 177 3 K (dk_of tX10_sum_0 94 rfl) rfl rfl ?_
            refine r_iadd 178 K (dk_of tX10_sum_0 95 rfl) ?_
            refine r_ialdR 179 1 K (dk_of tX10_sum_0 96 rfl) rfl hR (fun hR => ?_)
            refine r_goto 180 184 K (dk_of tX10_sum_0 97 rfl) (by decide) ?_
            refine r_iadd 184 K (dk_of tX10_sum_0 99 rfl) ?_
            refine r_nmI hR (fun x11 hR => ?_)
            refine r_istore_n 185 2 [some (.ref (am 0)), some (.int y4), some (.int x11), some (.int y6)] K (dk_of tX10_sum_1 0 rfl) rfl rfl rfl (by decide) ?_
            refine r_iinc 186 3 (y6 + 1) [some (.ref (am 0)), some (.int y4), some (.int x11), some (.int (y6 + 1))] K (dk_of tX10_sum_1 1 rfl) rfl rfl rfl rfl (by decide) ?_
            refine r_goto 189 145 K (dk_of tX10_sum_1 2 rfl) (by decide) ?_
            exact ih145 x11 (y6 + 1) μ7 hR
          · refine r_iconst 183 (0 : Int32) K (dk_of tX10_sum_0 98 rfl) (by decide) ?_
            refine r_iadd 184 K (dk_of tX10_sum_0 99 rfl) ?_
            refine r_nmI hR (fun x12 hR => ?_)
            refine r_istore_n 185 2 [some (.ref (am 0)), some (.int y4), some (.int x12), some (.int y6)] K (dk_of tX10_sum_1 0 rfl) rfl rfl rfl (by decide) ?_
            refine r_iinc 186 3 (y6 + 1) [some (.ref (am 0)), some (.int y4), some (.int x12), some (.int (y6 + 1))] K (dk_of tX10_sum_1 1 rfl) rfl rfl rfl rfl (by decide) ?_
            refine r_goto 189 145 K (dk_of tX10_sum_1 2 rfl) (by decide) ?_
            exact ih145 x12 (y6 + 1) μ7 hR
        · exact r_msk [true, true, true, false] [some (.ref (am 0)), some (.int y4), some (.int y5), none] rfl (b192 y4 y5 μ7 hR)
  refine r_aload_n 0 0 K (dk_of tX10_sum_0 0 rfl) rfl rfl ?_
  refine r_iload_n 1 1 K (dk_of tX10_sum_0 1 rfl) rfl rfl ?_
  refine r_iconst 2 (0 : Int32) K (dk_of tX10_sum_0 2 rfl) (by decide) ?_
  refine r_bipush 3 (11 : Int32) K (dk_of tX10_sum_0 3 rfl) (by decide) ?_
  obtain ⟨x1, hc, hR⟩ := o1 hR
  refine r_cSi 5 [.int p1, .int (0 : Int32), .int (11 : Int32)] [.ref (am 0)] x1 (wM γ am μ ++ (r)) K (ct_X10_in hl hc.symm) cs_X10_66 ⟨rfl, rfl, rfl⟩ (dk_of tX10_sum_0 4 rfl) rfl rfl rfl rfl ?_
  refine r_iconst 8 (1 : Int32) K (dk_of tX10_sum_0 5 rfl) (by decide) ?_
  obtain ⟨x2, μ3, hc, hR⟩ := o2 hR
  refine r_cVi 9 0 [.int x1, .int (1 : Int32)] [] x2 (wM γ am μ3 ++ (r)) K (ct_X10_fails hl hc.symm) cs_X10_131 ⟨rfl, rfl, rfl⟩ (dk_of tX10_sum_0 6 rfl) rfl rfl rfl rfl rfl rfl ?_
  refine r_if_eq 12 17 K (dk_of tX10_sum_0 7 rfl) (by decide) hR (fun hR => ?_) (fun hR => ?_)
  · refine r_iload_n 17 1 K (dk_of tX10_sum_0 10 rfl) rfl rfl ?_
    refine r_iconst 18 (4 : Int32) K (dk_of tX10_sum_0 11 rfl) (by decide) ?_
    refine r_ic_ge 19 77 K (dk_of tX10_sum_0 12 rfl) (by decide) hR (fun hR => ?_) (fun hR => ?_)
    · refine r_iload_n 77 1 K (dk_of tX10_sum_0 41 rfl) rfl rfl ?_
      refine r_bipush 78 (8 : Int32) K (dk_of tX10_sum_0 42 rfl) (by decide) ?_
      refine r_ic_ge 80 141 K (dk_of tX10_sum_0 43 rfl) (by decide) hR (fun hR => ?_) (fun hR => ?_)
      · refine r_iconst 141 (0 : Int32) K (dk_of tX10_sum_0 73 rfl) (by decide) ?_
        refine r_istore_n 142 2 [some (.ref (am 0)), some (.int p1), some (.int (0 : Int32)), none] K (dk_of tX10_sum_0 74 rfl) rfl rfl rfl (by decide) ?_
        refine r_iconst 143 (0 : Int32) K (dk_of tX10_sum_0 75 rfl) (by decide) ?_
        refine r_istore_n 144 3 [some (.ref (am 0)), some (.int p1), some (.int (0 : Int32)), some (.int (0 : Int32))] K (dk_of tX10_sum_0 76 rfl) rfl rfl rfl (by decide) ?_
        exact b145 p1 200 (0 : Int32) (0 : Int32) μ3 hR
      · refine r_iload_n 83 1 K (dk_of tX10_sum_0 44 rfl) rfl rfl ?_
        refine r_iconst 84 (4 : Int32) K (dk_of tX10_sum_0 45 rfl) (by decide) ?_
        refine r_ic_ne 85 99 K (dk_of tX10_sum_0 46 rfl) (by decide) hR (fun hR => ?_) (fun hR => ?_)
        · refine r_aload_n 88 0 K (dk_of tX10_sum_0 47 rfl) rfl rfl ?_
          refine r_getf (C := RX10) (T := TX10) (N := 29) 89 0 0 K (dk_of tX10_sum_0 48 rfl) w1028 gwX10 rfl rfl (by decide) rfl ?_
          refine r_sipush 92 (171 : Int32) K (dk_of tX10_sum_0 49 rfl) (by decide) ?_
          refine r_iald 95 1 K (dk_of tX10_sum_0 50 rfl) rfl (vpd (by decide)) ?_
          refine r_goto 96 140 K (dk_of tX10_sum_0 51 rfl) (by decide) ?_
          exact r_iret 140 K hQ (dk_of tX10_sum_0 72 rfl) (Nat.zero_le _) (Nat.zero_le _) (lfi (fun u9 : St => wM γ am u9 ++ (r)) hR)
        · refine r_iload_n 99 1 K (dk_of tX10_sum_0 52 rfl) rfl rfl ?_
          refine r_iconst 100 (5 : Int32) K (dk_of tX10_sum_0 53 rfl) (by decide) ?_
          refine r_ic_ne 101 115 K (dk_of tX10_sum_0 54 rfl) (by decide) hR (fun hR => ?_) (fun hR => ?_)
          · refine r_aload_n 104 0 K (dk_of tX10_sum_0 55 rfl) rfl rfl ?_
            refine r_getf (C := RX10) (T := TX10) (N := 29) 105 0 0 K (dk_of tX10_sum_0 56 rfl) w1028 gwX10 rfl rfl (by decide) rfl ?_
            refine r_sipush 108 (172 : Int32) K (dk_of tX10_sum_0 57 rfl) (by decide) ?_
            refine r_iald 111 1 K (dk_of tX10_sum_0 58 rfl) rfl (vpd (by decide)) ?_
            refine r_goto 112 140 K (dk_of tX10_sum_0 59 rfl) (by decide) ?_
            exact r_iret 140 K hQ (dk_of tX10_sum_0 72 rfl) (Nat.zero_le _) (Nat.zero_le _) (lfi (fun u9 : St => wM γ am u9 ++ (r)) hR)
          · refine r_iload_n 115 1 K (dk_of tX10_sum_0 60 rfl) rfl rfl ?_
            refine r_bipush 116 (6 : Int32) K (dk_of tX10_sum_0 61 rfl) (by decide) ?_
            refine r_ic_ne 118 132 K (dk_of tX10_sum_0 62 rfl) (by decide) hR (fun hR => ?_) (fun hR => ?_)
            · refine r_aload_n 121 0 K (dk_of tX10_sum_0 63 rfl) rfl rfl ?_
              refine r_getf (C := RX10) (T := TX10) (N := 29) 122 0 0 K (dk_of tX10_sum_0 64 rfl) w1028 gwX10 rfl rfl (by decide) rfl ?_
              refine r_sipush 125 (173 : Int32) K (dk_of tX10_sum_0 65 rfl) (by decide) ?_
              refine r_iald 128 1 K (dk_of tX10_sum_0 66 rfl) rfl (vpd (by decide)) ?_
              refine r_goto 129 140 K (dk_of tX10_sum_0 67 rfl) (by decide) ?_
              exact r_iret 140 K hQ (dk_of tX10_sum_0 72 rfl) (Nat.zero_le _) (Nat.zero_le _) (lfi (fun u9 : St => wM γ am u9 ++ (r)) hR)
            · refine r_aload_n 132 0 K (dk_of tX10_sum_0 68 rfl) rfl rfl ?_
              refine r_bipush 133 (48 : Int32) K (dk_of tX10_sum_0 69 rfl) (by decide) ?_
              refine r_bipush 135 (24 : Int32) K (dk_of tX10_sum_0 70 rfl) (by decide) ?_
              obtain ⟨x13, hc, hR⟩ := o1 hR
              refine r_cVi 137 0 [.int (48 : Int32), .int (24 : Int32)] [] x13 (wM γ am μ3 ++ (r)) K (ct_X10_over hl hc.symm) cs_X10_192 ⟨rfl, rfl, rfl⟩ (dk_of tX10_sum_0 71 rfl) rfl rfl rfl rfl rfl rfl ?_
              exact r_iret 140 K hQ (dk_of tX10_sum_0 72 rfl) (Nat.zero_le _) (Nat.zero_le _) (lfi (fun u9 : St => wM γ am u9 ++ (r)) hR)
    · refine r_iload_n 22 1 K (dk_of tX10_sum_0 13 rfl) rfl rfl ?_
      refine r_if_ne 23 37 K (dk_of tX10_sum_0 14 rfl) (by decide) hR (fun hR => ?_) (fun hR => ?_)
      · refine r_aload_n 26 0 K (dk_of tX10_sum_0 15 rfl) rfl rfl ?_
        refine r_getf (C := RX10) (T := TX10) (N := 29) 27 0 0 K (dk_of tX10_sum_0 16 rfl) w1028 gwX10 rfl rfl (by decide) rfl ?_
        refine r_sipush 30 (168 : Int32) K (dk_of tX10_sum_0 17 rfl) (by decide) ?_
        refine r_iald 33 1 K (dk_of tX10_sum_0 18 rfl) rfl (vpd (by decide)) ?_
        refine r_goto 34 76 K (dk_of tX10_sum_0 19 rfl) (by decide) ?_
        exact r_iret 76 K hQ (dk_of tX10_sum_0 40 rfl) (Nat.zero_le _) (Nat.zero_le _) (lfi (fun u9 : St => wM γ am u9 ++ (r)) hR)
      · refine r_iload_n 37 1 K (dk_of tX10_sum_0 20 rfl) rfl rfl ?_
        refine r_iconst 38 (1 : Int32) K (dk_of tX10_sum_0 21 rfl) (by decide) ?_
        refine r_ic_ne 39 53 K (dk_of tX10_sum_0 22 rfl) (by decide) hR (fun hR => ?_) (fun hR => ?_)
        · refine r_aload_n 42 0 K (dk_of tX10_sum_0 23 rfl) rfl rfl ?_
          refine r_getf (C := RX10) (T := TX10) (N := 29) 43 0 0 K (dk_of tX10_sum_0 24 rfl) w1028 gwX10 rfl rfl (by decide) rfl ?_
          refine r_sipush 46 (169 : Int32) K (dk_of tX10_sum_0 25 rfl) (by decide) ?_
          refine r_iald 49 1 K (dk_of tX10_sum_0 26 rfl) rfl (vpd (by decide)) ?_
          refine r_goto 50 76 K (dk_of tX10_sum_0 27 rfl) (by decide) ?_
          exact r_iret 76 K hQ (dk_of tX10_sum_0 40 rfl) (Nat.zero_le _) (Nat.zero_le _) (lfi (fun u9 : St => wM γ am u9 ++ (r)) hR)
        · refine r_iload_n 53 1 K (dk_of tX10_sum_0 28 rfl) rfl rfl ?_
          refine r_iconst 54 (2 : Int32) K (dk_of tX10_sum_0 29 rfl) (by decide) ?_
          refine r_ic_ne 55 69 K (dk_of tX10_sum_0 30 rfl) (by decide) hR (fun hR => ?_) (fun hR => ?_)
          · refine r_aload_n 58 0 K (dk_of tX10_sum_0 31 rfl) rfl rfl ?_
            refine r_sipush 59 (144 : Int32) K (dk_of tX10_sum_0 32 rfl) (by decide) ?_
            refine r_iconst 62 (4 : Int32) K (dk_of tX10_sum_0 33 rfl) (by decide) ?_
            obtain ⟨x14, hc, hR⟩ := o1 hR
            refine r_cVi 63 0 [.int (144 : Int32), .int (4 : Int32)] [] x14 (wM γ am μ3 ++ (r)) K (ct_X10_over hl hc.symm) cs_X10_192 ⟨rfl, rfl, rfl⟩ (dk_of tX10_sum_0 34 rfl) rfl rfl rfl rfl rfl rfl ?_
            refine r_goto 66 76 K (dk_of tX10_sum_0 35 rfl) (by decide) ?_
            exact r_iret 76 K hQ (dk_of tX10_sum_0 40 rfl) (Nat.zero_le _) (Nat.zero_le _) (lfi (fun u9 : St => wM γ am u9 ++ (r)) hR)
          · refine r_aload_n 69 0 K (dk_of tX10_sum_0 36 rfl) rfl rfl ?_
            refine r_iconst 70 (0 : Int32) K (dk_of tX10_sum_0 37 rfl) (by decide) ?_
            refine r_bipush 71 (48 : Int32) K (dk_of tX10_sum_0 38 rfl) (by decide) ?_
            obtain ⟨x15, hc, hR⟩ := o1 hR
            refine r_cVi 73 0 [.int (0 : Int32), .int (48 : Int32)] [] x15 (wM γ am μ3 ++ (r)) K (ct_X10_over hl hc.symm) cs_X10_192 ⟨rfl, rfl, rfl⟩ (dk_of tX10_sum_0 39 rfl) rfl rfl rfl rfl rfl rfl ?_
            exact r_iret 76 K hQ (dk_of tX10_sum_0 40 rfl) (Nat.zero_le _) (Nat.zero_le _) (lfi (fun u9 : St => wM γ am u9 ++ (r)) hR)
  · refine r_iconst 15 (0 : Int32) K (dk_of tX10_sum_0 8 rfl) (by decide) ?_
    exact r_iret 16 K hQ (dk_of tX10_sum_0 9 rfl) (Nat.zero_le _) (Nat.zero_le _) (lfi (fun u9 : St => wM γ am u9 ++ (r)) hR)
