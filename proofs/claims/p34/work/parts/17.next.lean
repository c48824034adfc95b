def sp_X5_leaksInto_18 (σ : St) (y2 : Int32) (y3 : Int32) : Nat → Int32 → Int32 → Option (Int32)
  | 0, _, _ => none
  | n + 1, y4, y5 => if (σ 10 0) ≤ y5 then (some y4) else (if y5 < 0 ∨ 4 ≤ y5.toNatClampNeg then none else (if (σ 11 y5.toNatClampNeg) = y2 then (b1 (sp_X8_leakOf y5 y3 σ) (fun (x6 : Int32) => sl ((y4 + x6)) (fun x7 : Int32 => sp_X5_leaksInto_18 σ y2 y3 n x7 (y5 + 1)))) else (sp_X5_leaksInto_18 σ y2 y3 n y4 (y5 + 1))))
def sp_X5_leaksInto (p1 : Int32) (σ : St) : Option (Int32) := b1 (sp_X0_tideOf ((σ 0 4) + (1 : Int32))) (fun (x1 : Int32) => sp_X5_leaksInto_18 σ p1 x1 200 (0 : Int32) (0 : Int32))
set_option maxHeartbeats 4000000 in
set_option maxRecDepth 100000 in
theorem ct_X5_leaksInto {l : Launch} (hl : l.stackTraces = false) {γ : Gd} {h : Nat → Nat} {an : Nat} {σ : St} {ν : (Nat → Int32)} {r : va_W} {p1 : Int32} {x0 : Int32} (hR : some x0 = sp_X5_leaksInto p1 σ) : Ct l γ yX5_leaksInto (Cond.code yX5_leaksInto cX5_leaksInto 5 (some .int)) ({ frames := 2, cells := 0, slots := 0, locals := 38 } : Room) [.ref an, .int p1] (wB γ h σ ++ (wN an (h 0) ν ++ (r))) (Pr (some (.int x0)) (wB γ h σ ++ (wN an (h 0) ν ++ (r)))) 0 0 := by
  refine Ct_of hl (by decide +kernel) rfl (Nat.le_of_ble_eq_true rfl) (L := [some (.ref an), some (.int p1), none, none, none]) rfl ?_
  intro X Q K hQ
  generalize ((wB γ h σ ++ (wN an (h 0) ν ++ (r)), Q) : MX) = M at K hQ ⊢
  unfold sp_X5_leaksInto at hR
  have b18 : ∀ (y2 : Int32) (y3 : Int32) (n : Nat) (y4 : Int32) (y5 : Int32), some x0 = sp_X5_leaksInto_18 σ y2 y3 n y4 y5 → V l γ X M (wB γ h σ ++ (wN an (h 0) ν ++ (r))) [some (.ref an), some (.int y2), some (.int y3), some (.int y4), some (.int y5)] 0 0 18 [] := by
    intro y2 y3 n
    induction n with
    | zero => intro y4 y5 hR; exact nn_ hR
    | succ n ih18 =>
      intro y4 y5 hR
      rw [sp_X5_leaksInto_18] at hR
      refine r_iload 18 4 K (dk_of tX5_leaksInto 11 rfl) rfl ?_
      refine r_aload_n 20 0 K (dk_of tX5_leaksInto 12 rfl) rfl rfl ?_
      refine r_getf (C := RX5) (T := TX5) (N := 5) 21 26 0 K (dk_of tX5_leaksInto 13 rfl) w249 gwX5 rfl rfl (by decide) rfl ?_
      refine r_getf (C := RX0) (T := TX0) (N := 9) 24 0 1 K (dk_of tX5_leaksInto 14 rfl) w206 gwX0 rfl rfl (by decide) rfl ?_
      refine r_getf (C := RX8) (T := TX8) (N := 4) 27 10 0 K (dk_of tX5_leaksInto 15 rfl) w97 gwX8 rfl rfl (by decide) rfl ?_
      refine r_ic_ge 30 72 K (dk_of tX5_leaksInto 16 rfl) (by decide) hR (fun hR => ?_) (fun hR => ?_)
      · refine r_iload_n 72 3 K (dk_of tX5_leaksInto 36 rfl) rfl rfl ?_
        exact r_iret 73 K hQ (dk_of tX5_leaksInto 37 rfl) (Nat.zero_le _) (Nat.zero_le _) (lfi0 hR)
      · refine r_aload_n 33 0 K (dk_of tX5_leaksInto 17 rfl) rfl rfl ?_
        refine r_getf (C := RX5) (T := TX5) (N := 5) 34 26 0 K (dk_of tX5_leaksInto 18 rfl) w249 gwX5 rfl rfl (by decide) rfl ?_
        refine r_getf (C := RX0) (T := TX0) (N := 9) 37 0 1 K (dk_of tX5_leaksInto 19 rfl) w206 gwX0 rfl rfl (by decide) rfl ?_
        refine r_getf (C := RX8) (T := TX8) (N := 4) 40 10 1 K (dk_of tX5_leaksInto 20 rfl) w100 gwX8 rfl rfl (by decide) rfl ?_
        refine r_iload 43 4 K (dk_of tX5_leaksInto 21 rfl) rfl ?_
        refine r_ialdR 45 11 K (dk_of tX5_leaksInto 22 rfl) rfl hR (fun hR => ?_)
        refine r_iload_n 46 1 K (dk_of tX5_leaksInto 23 rfl) rfl rfl ?_
        refine r_ic_ne 47 66 K (dk_of tX5_leaksInto 24 rfl) (by decide) hR (fun hR => ?_) (fun hR => ?_)
        · refine r_iload_n 50 3 K (dk_of tX5_leaksInto 25 rfl) rfl rfl ?_
          refine r_aload_n 51 0 K (dk_of tX5_leaksInto 26 rfl) rfl rfl ?_
          refine r_getf (C := RX5) (T := TX5) (N := 5) 52 26 0 K (dk_of tX5_leaksInto 27 rfl) w249 gwX5 rfl rfl (by decide) rfl ?_
          refine r_getf (C := RX0) (T := TX0) (N := 9) 55 0 1 K (dk_of tX5_leaksInto 28 rfl) w206 gwX0 rfl rfl (by decide) rfl ?_
          refine r_iload 58 4 K (dk_of tX5_leaksInto 29 rfl) rfl ?_
          refine r_iload_n 60 2 K (dk_of tX5_leaksInto 30 rfl) rfl rfl ?_
          obtain ⟨x6, hc, hR⟩ := o1 hR
          refine r_cVi 61 10 [.int y5, .int y3] [.int y4] x6 (wB γ h σ ++ (wN an (h 0) ν ++ (r))) K (ct_X8_leakOf hl hc.symm) cs_X5_120 ⟨rfl, rfl, rfl⟩ (dk_of tX5_leaksInto 31 rfl) rfl rfl rfl rfl rfl rfl ?_
          refine r_iadd 64 K (dk_of tX5_leaksInto 32 rfl) ?_
          refine r_nmI hR (fun x7 hR => ?_)
          refine r_istore_n 65 3 [some (.ref an), some (.int y2), some (.int y3), some (.int x7), some (.int y5)] K (dk_of tX5_leaksInto 33 rfl) rfl rfl rfl (by decide) ?_
          refine r_iinc 66 4 (y5 + 1) [some (.ref an), some (.int y2), some (.int y3), some (.int x7), some (.int (y5 + 1))] K (dk_of tX5_leaksInto 34 rfl) rfl rfl rfl rfl (by decide) ?_
          refine r_goto 69 18 K (dk_of tX5_leaksInto 35 rfl) (by decide) ?_
          exact ih18 x7 (y5 + 1) hR
        · refine r_iinc 66 4 (y5 + 1) [some (.ref an), some (.int y2), some (.int y3), some (.int y4), some (.int (y5 + 1))] K (dk_of tX5_leaksInto 34 rfl) rfl rfl rfl rfl (by decide) ?_
          refine r_goto 69 18 K (dk_of tX5_leaksInto 35 rfl) (by decide) ?_
          exact ih18 y4 (y5 + 1) hR
  refine r_aload_n 0 0 K (dk_of tX5_leaksInto 0 rfl) rfl rfl ?_
  refine r_getf (C := RX5) (T := TX5) (N := 5) 1 26 0 K (dk_of tX5_leaksInto 1 rfl) w249 gwX5 rfl rfl (by decide) rfl ?_
  refine r_getf (C := RX0) (T := TX0) (N := 9) 4 0 4 K (dk_of tX5_leaksInto 2 rfl) w214 gwX0 rfl rfl (by decide) rfl ?_
  refine r_iconst 7 (1 : Int32) K (dk_of tX5_leaksInto 3 rfl) (by decide) ?_
  refine r_iadd 8 K (dk_of tX5_leaksInto 4 rfl) ?_
  obtain ⟨x1, hc, hR⟩ := o1 hR
  refine r_cSi 9 [.int ((σ 0 4) + (1 : Int32))] [] x1 (wB γ h σ ++ (wN an (h 0) ν ++ (r))) K (ct_X0_tideOf hl hc.symm) cs_X5_71 ⟨rfl, rfl, rfl⟩ (dk_of tX5_leaksInto 5 rfl) rfl rfl rfl rfl ?_
  refine r_istore_n 12 2 [some (.ref an), some (.int p1), some (.int x1), none, none] K (dk_of tX5_leaksInto 6 rfl) rfl rfl rfl (by decide) ?_
  refine r_iconst 13 (0 : Int32) K (dk_of tX5_leaksInto 7 rfl) (by decide) ?_
  refine r_istore_n 14 3 [some (.ref an), some (.int p1), some (.int x1), some (.int (0 : Int32)), none] K (dk_of tX5_leaksInto 8 rfl) rfl rfl rfl (by decide) ?_
  refine r_iconst 15 (0 : Int32) K (dk_of tX5_leaksInto 9 rfl) (by decide) ?_
  refine r_istore 16 4 [some (.ref an), some (.int p1), some (.int x1), some (.int (0 : Int32)), some (.int (0 : Int32))] K (dk_of tX5_leaksInto 10 rfl) rfl rfl (by decide) ?_
  exact b18 p1 x1 200 (0 : Int32) (0 : Int32) hR

def sp_X5_weigh_139 (σ : St) (y15 : Int32) (ν16 : (Nat → Int32)) : Option ((Nat → Int32)) := b1 (sp_X0_blown (ν16 1) y15 σ) (fun (x17 : Int32) => sl (upd ν16 3 x17) (fun ν18 : (Nat → Int32) => b1 (sp_X0_blown (ν18 2) (y15 - (ν18 3)) σ) (fun (x19 : Int32) => sl (upd ν18 4 x19) (fun ν20 : (Nat → Int32) => some ν20))))
def sp_X5_weigh_120 (σ : St) (y11 : Int32) (y12 : Int32) (ν13 : (Nat → Int32)) : Option ((Nat → Int32)) := if y12 = 0 then (b1 (sp_X0_roomBehind y11 σ) (fun (x14 : Int32) => sp_X5_weigh_139 σ x14 ν13)) else (sp_X5_weigh_139 σ (0 : Int32) ν13)
def sp_X5_weigh_119 (σ : St) (y9 : Int32) (ν10 : (Nat → Int32)) : Option ((Nat → Int32)) := sp_X5_weigh_120 σ y9 (0 : Int32) ν10
def sp_X5_weigh (p1 : Int32) (σ : St) (ν : (Nat → Int32)) : Option ((Nat → Int32)) := if p1 < 0 ∨ 24 ≤ p1.toNatClampNeg then none else (b1 (sp_X5_leaksInto p1 σ) (fun (x1 : Int32) => sl (((σ 4 p1.toNatClampNeg) + x1)) (fun x2 : Int32 => sl ((x2 - (x2 / (20 : Int32)))) (fun x3 : Int32 => sl ((x3 / (10 : Int32))) (fun x4 : Int32 => if p1 < 0 ∨ 24 ≤ p1.toNatClampNeg then none else (sl (((σ 5 p1.toNatClampNeg) + x4)) (fun x5 : Int32 => sl (upd ν 1 (x3 - x4)) (fun ν6 : (Nat → Int32) => sl (upd ν6 2 (x5 - (x5 / (50 : Int32)))) (fun ν7 : (Nat → Int32) => b1 (sp_X4_boomOn p1 (σ 0 5) σ) (fun (x8 : Int32) => if x8 = (-1 : Int32) then (sp_X5_weigh_119 σ p1 ν7) else (if x8 < 0 ∨ 20 ≤ x8.toNatClampNeg then none else (if (σ 18 x8.toNatClampNeg) < (σ 0 6) then (sp_X5_weigh_119 σ p1 ν7) else (sp_X5_weigh_120 σ p1 (1 : Int32) ν7)))))))))))))
set_option maxHeartbeats 4000000 in
set_option maxRecDepth 100000 in
theorem ct_X5_weigh {l : Launch} (hl : l.stackTraces = false) {γ : Gd} {h : Nat → Nat} {an : Nat} {σ : St} {ν : (Nat → Int32)} {r : va_W} {p1 : Int32} {ν0 : (Nat → Int32)} (hR : some ν0 = sp_X5_weigh p1 σ ν) : Ct l γ yX5_weigh (Cond.code yX5_weigh cX5_weigh 8 none) ({ frames := 3, cells := 0, slots := 0, locals := 62 } : Room) [.ref an, .int p1] (wB γ h σ ++ (wN an (h 0) ν ++ (r))) (Pr none (wB γ h σ ++ (wN an (h 0) ν0 ++ (r)))) 0 0 := by
  refine Ct_of hl (by decide +kernel) rfl (Nat.le_of_ble_eq_true rfl) (L := [some (.ref an), some (.int p1), none, none, none, none, none, none]) rfl ?_
  intro X Q K hQ
  generalize ((wB γ h σ ++ (wN an (h 0) ν ++ (r)), Q) : MX) = M at K hQ ⊢
  unfold sp_X5_weigh at hR
  have b139 : ∀ (y15 : Int32) (ν16 : (Nat → Int32)), some ν0 = sp_X5_weigh_139 σ y15 ν16 → V l γ X M (wB γ h σ ++ (wN an (h 0) ν16 ++ (r))) [some (.ref an), none, none, none, none, none, none, none] 0 0 139 [.int y15] := by
    intro  y15 ν16 hR
    unfold sp_X5_weigh_139 at hR
    refine r_istore 139 7 [some (.ref an), none, none, none, none, none, none, some (.int y15)] K (dk_of tX5_weigh 76 rfl) rfl rfl (by decide) ?_
    refine r_aload_n 141 0 K (dk_of tX5_weigh 77 rfl) rfl rfl ?_
    refine r_aload_n 142 0 K (dk_of tX5_weigh 78 rfl) rfl rfl ?_
    refine r_getf (C := RX5) (T := TX5) (N := 5) 143 26 0 K (dk_of tX5_weigh 79 rfl) w249 gwX5 rfl rfl (by decide) rfl ?_
    refine r_aload_n 146 0 K (dk_of tX5_weigh 80 rfl) rfl rfl ?_
    refine r_getf (C := RX5) (T := TX5) (N := 5) 147 26 1 K (dk_of tX5_weigh 81 rfl) w250 gwX5 rfl rfl (by decide) rfl ?_
    refine r_iload 150 7 K (dk_of tX5_weigh 82 rfl) rfl ?_
    obtain ⟨x17, hc, hR⟩ := o1 hR
    refine r_cVi 152 0 [.int (ν16 1), .int y15] [.ref an] x17 (wB γ h σ ++ (wN an (h 0) ν16 ++ (r))) K (ct_X0_blown hl hc.symm) cs_X5_105 ⟨rfl, rfl, rfl⟩ (dk_of tX5_weigh 83 rfl) rfl rfl rfl rfl rfl rfl ?_
    refine r_putf (C := RX5) (T := TX5) (N := 5) 155 26 3 K (dk_of tX5_weigh 84 rfl) w252 gwX5 tyX5_ok nmX5 rfl rfl (by decide) rfl rfl rfl rfl (Nat.le_of_ble_eq_true rfl) sN_3_bn ?_
    refine r_nmS (fun ν18 : (Nat → Int32) => wB γ h σ ++ (wN an (h 0) ν18 ++ (r))) hR (fun ν18 hR => ?_)
    refine r_aload_n 158 0 K (dk_of tX5_weigh 85 rfl) rfl rfl ?_
    refine r_aload_n 159 0 K (dk_of tX5_weigh 86 rfl) rfl rfl ?_
    refine r_getf (C := RX5) (T := TX5) (N := 5) 160 26 0 K (dk_of tX5_weigh 87 rfl) w249 gwX5 rfl rfl (by decide) rfl ?_
    refine r_aload_n 163 0 K (dk_of tX5_weigh 88 rfl) rfl rfl ?_
    refine r_getf (C := RX5) (T := TX5) (N := 5) 164 26 2 K (dk_of tX5_weigh 89 rfl) w251 gwX5 rfl rfl (by decide) rfl ?_
    refine r_iload 167 7 K (dk_of tX5_weigh 90 rfl) rfl ?_
    refine r_aload_n 169 0 K (dk_of tX5_weigh 91 rfl) rfl rfl ?_
    refine r_getf (C := RX5) (T := TX5) (N := 5) 170 26 3 K (dk_of tX5_weigh 92 rfl) w252 gwX5 rfl rfl (by decide) rfl ?_
    refine r_isub 173 K (dk_of tX5_weigh 93 rfl) ?_
    obtain ⟨x19, hc, hR⟩ := o1 hR
    refine r_cVi 174 0 [.int (ν18 2), .int (y15 - (ν18 3))] [.ref an] x19 (wB γ h σ ++ (wN an (h 0) ν18 ++ (r))) K (ct_X0_blown hl hc.symm) cs_X5_105 ⟨rfl, rfl, rfl⟩ (dk_of tX5_weigh 94 rfl) rfl rfl rfl rfl rfl rfl ?_
    refine r_putf (C := RX5) (T := TX5) (N := 5) 177 26 4 K (dk_of tX5_weigh 95 rfl) w253 gwX5 tyX5_ok nmX5 rfl rfl (by decide) rfl rfl rfl rfl (Nat.le_of_ble_eq_true rfl) sN_4_bn ?_
    refine r_nmS (fun ν20 : (Nat → Int32) => wB γ h σ ++ (wN an (h 0) ν20 ++ (r))) hR (fun ν20 hR => ?_)
    exact r_vret 180 K hQ (dk_of tX5_weigh 96 rfl) (Nat.zero_le _) (Nat.zero_le _) (lfv (fun u9 : (Nat → Int32) => wB γ h σ ++ (wN an (h 0) u9 ++ (r))) hR)
  have b120 : ∀ (y11 : Int32) (y12 : Int32) (ν13 : (Nat → Int32)), some ν0 = sp_X5_weigh_120 σ y11 y12 ν13 → V l γ X M (wB γ h σ ++ (wN an (h 0) ν13 ++ (r))) [some (.ref an), some (.int y11), none, none, none, none, none, none] 0 0 120 [.int y12] := by
    intro  y11 y12 ν13 hR
    unfold sp_X5_weigh_120 at hR
    refine r_istore 120 6 [some (.ref an), some (.int y11), none, none, none, none, some (.int y12), none] K (dk_of tX5_weigh 67 rfl) rfl rfl (by decide) ?_
    refine r_iload 122 6 K (dk_of tX5_weigh 68 rfl) rfl ?_
    refine r_if_eq 124 131 K (dk_of tX5_weigh 69 rfl) (by decide) hR (fun hR => ?_) (fun hR => ?_)
    · refine r_aload_n 131 0 K (dk_of tX5_weigh 72 rfl) rfl rfl ?_
      refine r_getf (C := RX5) (T := TX5) (N := 5) 132 26 0 K (dk_of tX5_weigh 73 rfl) w249 gwX5 rfl rfl (by decide) rfl ?_
      refine r_iload_n 135 1 K (dk_of tX5_weigh 74 rfl) rfl rfl ?_
      obtain ⟨x14, hc, hR⟩ := o1 hR
      refine r_cVi 136 0 [.int y11] [] x14 (wB γ h σ ++ (wN an (h 0) ν13 ++ (r))) K (ct_X0_roomBehind hl hc.symm) cs_X5_102 ⟨rfl, rfl, rfl⟩ (dk_of tX5_weigh 75 rfl) rfl rfl rfl rfl rfl rfl ?_
      exact r_msk [true, false, true, true, true, true, false, true] [some (.ref an), none, none, none, none, none, none, none] rfl (b139 x14 ν13 hR)
    · refine r_iconst 127 (0 : Int32) K (dk_of tX5_weigh 70 rfl) (by decide) ?_
      refine r_goto 128 139 K (dk_of tX5_weigh 71 rfl) (by decide) ?_
      exact r_msk [true, false, true, true, true, true, false, true] [some (.ref an), none, none, none, none, none, none, none] rfl (b139 (0 : Int32) ν13 hR)
  have b119 : ∀ (y9 : Int32) (ν10 : (Nat → Int32)), some ν0 = sp_X5_weigh_119 σ y9 ν10 → V l γ X M (wB γ h σ ++ (wN an (h 0) ν10 ++ (r))) [some (.ref an), some (.int y9), none, none, none, none, none, none] 0 0 119 [] := by
    intro  y9 ν10 hR
    unfold sp_X5_weigh_119 at hR
    refine r_iconst 119 (0 : Int32) K (dk_of tX5_weigh 66 rfl) (by decide) ?_
    exact b120 y9 (0 : Int32) ν10 hR
  refine r_aload_n 0 0 K (dk_of tX5_weigh 0 rfl) rfl rfl ?_
  refine r_getf (C := RX5) (T := TX5) (N := 5) 1 26 0 K (dk_of tX5_weigh 1 rfl) w249 gwX5 rfl rfl (by decide) rfl ?_
  refine r_getf (C := RX0) (T := TX0) (N := 9) 4 0 0 K (dk_of tX5_weigh 2 rfl) w203 gwX0 rfl rfl (by decide) rfl ?_
  refine r_getf (C := RX2) (T := TX2) (N := 8) 7 1 2 K (dk_of tX5_weigh 3 rfl) w51 gwX2 rfl rfl (by decide) rfl ?_
  refine r_iload_n 10 1 K (dk_of tX5_weigh 4 rfl) rfl rfl ?_
  refine r_ialdR 11 4 K (dk_of tX5_weigh 5 rfl) rfl hR (fun hR => ?_)
  refine r_aload_n 12 0 K (dk_of tX5_weigh 6 rfl) rfl rfl ?_
  refine r_iload_n 13 1 K (dk_of tX5_weigh 7 rfl) rfl rfl ?_
  obtain ⟨x1, hc, hR⟩ := o1 hR
  refine r_cVi 14 26 [.int p1] [.int (σ 4 p1.toNatClampNeg)] x1 (wB γ h σ ++ (wN an (h 0) ν ++ (r))) K (ct_X5_leaksInto hl hc.symm) cs_X5_78 ⟨rfl, rfl, rfl⟩ (dk_of tX5_weigh 8 rfl) rfl rfl rfl rfl rfl rfl ?_
  refine r_iadd 17 K (dk_of tX5_weigh 9 rfl) ?_
  refine r_nmI hR (fun x2 hR => ?_)
  refine r_istore_n 18 2 [some (.ref an), some (.int p1), some (.int x2), none, none, none, none, none] K (dk_of tX5_weigh 10 rfl) rfl rfl rfl (by decide) ?_
  refine r_iload_n 19 2 K (dk_of tX5_weigh 11 rfl) rfl rfl ?_
  refine r_iload_n 20 2 K (dk_of tX5_weigh 12 rfl) rfl rfl ?_
  refine r_bipush 21 (20 : Int32) K (dk_of tX5_weigh 13 rfl) (by decide) ?_
  refine r_idiv 23 K (dk_of tX5_weigh 14 rfl) (by decide) ?_
  refine r_isub 24 K (dk_of tX5_weigh 15 rfl) ?_
  refine r_nmI hR (fun x3 hR => ?_)
  refine r_istore_n 25 2 [some (.ref an), some (.int p1), some (.int x3), none, none, none, none, none] K (dk_of tX5_weigh 16 rfl) rfl rfl rfl (by decide) ?_
  refine r_iload_n 26 2 K (dk_of tX5_weigh 17 rfl) rfl rfl ?_
  refine r_bipush 27 (10 : Int32) K (dk_of tX5_weigh 18 rfl) (by decide) ?_
  refine r_idiv 29 K (dk_of tX5_weigh 19 rfl) (by decide) ?_
  refine r_nmI hR (fun x4 hR => ?_)
  refine r_istore_n 30 3 [some (.ref an), some (.int p1), some (.int x3), some (.int x4), none, none, none, none] K (dk_of tX5_weigh 20 rfl) rfl rfl rfl (by decide) ?_
  refine r_aload_n 31 0 K (dk_of tX5_weigh 21 rfl) rfl rfl ?_
  refine r_getf (C := RX5) (T := TX5) (N := 5) 32 26 0 K (dk_of tX5_weigh 22 rfl) w249 gwX5 rfl rfl (by decide) rfl ?_
  refine r_getf (C := RX0) (T := TX0) (N := 9) 35 0 0 K (dk_of tX5_weigh 23 rfl) w203 gwX0 rfl rfl (by decide) rfl ?_
  refine r_getf (C := RX2) (T := TX2) (N := 8) 38 1 3 K (dk_of tX5_weigh 24 rfl) w56 gwX2 rfl rfl (by decide) rfl ?_
  refine r_iload_n 41 1 K (dk_of tX5_weigh 25 rfl) rfl rfl ?_
  refine r_ialdR 42 5 K (dk_of tX5_weigh 26 rfl) rfl hR (fun hR => ?_)
  refine r_iload_n 43 3 K (dk_of tX5_weigh 27 rfl) rfl rfl ?_
  refine r_iadd 44 K (dk_of tX5_weigh 28 rfl) ?_
  refine r_nmI hR (fun x5 hR => ?_)
  refine r_istore 45 4 [some (.ref an), some (.int p1), some (.int x3), some (.int x4), some (.int x5), none, none, none] K (dk_of tX5_weigh 29 rfl) rfl rfl (by decide) ?_
  refine r_aload_n 47 0 K (dk_of tX5_weigh 30 rfl) rfl rfl ?_
  refine r_iload_n 48 2 K (dk_of tX5_weigh 31 rfl) rfl rfl ?_
  refine r_iload_n 49 3 K (dk_of tX5_weigh 32 rfl) rfl rfl ?_
  refine r_isub 50 K (dk_of tX5_weigh 33 rfl) ?_
  refine r_putf (C := RX5) (T := TX5) (N := 5) 51 26 1 K (dk_of tX5_weigh 34 rfl) w250 gwX5 tyX5_ok nmX5 rfl rfl (by decide) rfl rfl rfl rfl (Nat.le_of_ble_eq_true rfl) sN_1_bn ?_
  refine r_nmS (fun ν6 : (Nat → Int32) => wB γ h σ ++ (wN an (h 0) ν6 ++ (r))) hR (fun ν6 hR => ?_)
  refine r_aload_n 54 0 K (dk_of tX5_weigh 35 rfl) rfl rfl ?_
  refine r_iload 55 4 K (dk_of tX5_weigh 36 rfl) rfl ?_
  refine r_iload 57 4 K (dk_of tX5_weigh 37 rfl) rfl ?_
  refine r_bipush 59 (50 : Int32) K (dk_of tX5_weigh 38 rfl) (by decide) ?_
  refine r_idiv 61 K (dk_of tX5_weigh 39 rfl) (by decide) ?_
  refine r_isub 62 K (dk_of tX5_weigh 40 rfl) ?_
  refine r_putf (C := RX5) (T := TX5) (N := 5) 63 26 2 K (dk_of tX5_weigh 41 rfl) w251 gwX5 tyX5_ok nmX5 rfl rfl (by decide) rfl rfl rfl rfl (Nat.le_of_ble_eq_true rfl) sN_2_bn ?_
  refine r_nmS (fun ν7 : (Nat → Int32) => wB γ h σ ++ (wN an (h 0) ν7 ++ (r))) hR (fun ν7 hR => ?_)
  refine r_aload_n 66 0 K (dk_of tX5_weigh 42 rfl) rfl rfl ?_
  refine r_getf (C := RX5) (T := TX5) (N := 5) 67 26 0 K (dk_of tX5_weigh 43 rfl) w249 gwX5 rfl rfl (by decide) rfl ?_
  refine r_getf (C := RX0) (T := TX0) (N := 9) 70 0 2 K (dk_of tX5_weigh 44 rfl) w209 gwX0 rfl rfl (by decide) rfl ?_
  refine r_iload_n 73 1 K (dk_of tX5_weigh 45 rfl) rfl rfl ?_
  refine r_aload_n 74 0 K (dk_of tX5_weigh 46 rfl) rfl rfl ?_
  refine r_getf (C := RX5) (T := TX5) (N := 5) 75 26 0 K (dk_of tX5_weigh 47 rfl) w249 gwX5 rfl rfl (by decide) rfl ?_
  refine r_getf (C := RX0) (T := TX0) (N := 9) 78 0 5 K (dk_of tX5_weigh 48 rfl) w217 gwX0 rfl rfl (by decide) rfl ?_
  obtain ⟨x8, hc, hR⟩ := o1 hR
  refine r_cVi 81 14 [.int p1, .int (σ 0 5)] [] x8 (wB γ h σ ++ (wN an (h 0) ν7 ++ (r))) K (ct_X4_boomOn hl hc.symm) cs_X5_91 ⟨rfl, rfl, rfl⟩ (dk_of tX5_weigh 49 rfl) rfl rfl rfl rfl rfl rfl ?_
  refine r_istore 84 5 [some (.ref an), some (.int p1), some (.int x3), some (.int x4), some (.int x5), some (.int x8), none, none] K (dk_of tX5_weigh 50 rfl) rfl rfl (by decide) ?_
  refine r_iload 86 5 K (dk_of tX5_weigh 51 rfl) rfl ?_
  refine r_iconst 88 (-1) K (dk_of tX5_weigh 52 rfl) (by decide) ?_
  refine r_ic_eq 89 119 K (dk_of tX5_weigh 53 rfl) (by decide) hR (fun hR => ?_) (fun hR => ?_)
  · exact r_msk [true, true, false, false, false, false, true, true] [some (.ref an), some (.int p1), none, none, none, none, none, none] rfl (b119 p1 ν7 hR)
  · refine r_aload_n 92 0 K (dk_of tX5_weigh 54 rfl) rfl rfl ?_
    refine r_getf (C := RX5) (T := TX5) (N := 5) 93 26 0 K (dk_of tX5_weigh 55 rfl) w249 gwX5 rfl rfl (by decide) rfl ?_
    refine r_getf (C := RX0) (T := TX0) (N := 9) 96 0 2 K (dk_of tX5_weigh 56 rfl) w209 gwX0 rfl rfl (by decide) rfl ?_
    refine r_getf (C := RX4) (T := TX4) (N := 9) 99 14 4 K (dk_of tX5_weigh 57 rfl) w134 gwX4 rfl rfl (by decide) rfl ?_
    refine r_iload 102 5 K (dk_of tX5_weigh 58 rfl) rfl ?_
    refine r_ialdR 104 18 K (dk_of tX5_weigh 59 rfl) rfl hR (fun hR => ?_)
    refine r_aload_n 105 0 K (dk_of tX5_weigh 60 rfl) rfl rfl ?_
    refine r_getf (C := RX5) (T := TX5) (N := 5) 106 26 0 K (dk_of tX5_weigh 61 rfl) w249 gwX5 rfl rfl (by decide) rfl ?_
    refine r_getf (C := RX0) (T := TX0) (N := 9) 109 0 6 K (dk_of tX5_weigh 62 rfl) w221 gwX0 rfl rfl (by decide) rfl ?_
    refine r_ic_lt 112 119 K (dk_of tX5_weigh 63 rfl) (by decide) hR (fun hR => ?_) (fun hR => ?_)
    · exact r_msk [true, true, false, false, false, false, true, true] [some (.ref an), some (.int p1), none, none, none, none, none, none] rfl (b119 p1 ν7 hR)
    · refine r_iconst 115 (1 : Int32) K (dk_of tX5_weigh 64 rfl) (by decide) ?_
      refine r_goto 116 120 K (dk_of tX5_weigh 65 rfl) (by decide) ?_
      exact r_msk [true, true, false, false, false, false, true, true] [some (.ref an), some (.int p1), none, none, none, none, none, none] rfl (b120 p1 (1 : Int32) ν7 hR)

def sp_X5_waterAgainstWind (p1 : Int32) (σ : St) : Option (Int32) := b1 (sp_X2_opposite (σ 0 5)) (fun (x1 : Int32) => b1 (sp_X2_beside p1 x1) (fun (x2 : Int32) => if x2 = (-1 : Int32) then (some (-1 : Int32)) else (b1 (sp_X2_isWater x2 σ) (fun (x3 : Int32) => if x3 = 0 then (some (-1 : Int32)) else (some x2)))))
set_option maxHeartbeats 4000000 in
set_option maxRecDepth 100000 in
theorem ct_X5_waterAgainstWind {l : Launch} (hl : l.stackTraces = false) {γ : Gd} {h : Nat → Nat} {an : Nat} {σ : St} {ν : (Nat → Int32)} {r : va_W} {p1 : Int32} {x0 : Int32} (hR : some x0 = sp_X5_waterAgainstWind p1 σ) : Ct l γ yX5_waterAgainstWind (Cond.code yX5_waterAgainstWind cX5_waterAgainstWind 3 (some .int)) ({ frames := 1, cells := 0, slots := 0, locals := 23 } : Room) [.ref an, .int p1] (wB γ h σ ++ (wN an (h 0) ν ++ (r))) (Pr (some (.int x0)) (wB γ h σ ++ (wN an (h 0) ν ++ (r)))) 0 0 := by
  refine Ct_of hl (by decide +kernel) rfl (Nat.le_of_ble_eq_true rfl) (L := [some (.ref an), some (.int p1), none]) rfl ?_
  intro X Q K hQ
  generalize ((wB γ h σ ++ (wN an (h 0) ν ++ (r)), Q) : MX) = M at K hQ ⊢
  unfold sp_X5_waterAgainstWind at hR
  refine r_iload_n 0 1 K (dk_of tX5_waterAgainstWind 0 rfl) rfl rfl ?_
  refine r_aload_n 1 0 K (dk_of tX5_waterAgainstWind 1 rfl) rfl rfl ?_
  refine r_getf (C := RX5) (T := TX5) (N := 5) 2 26 0 K (dk_of tX5_waterAgainstWind 2 rfl) w249 gwX5 rfl rfl (by decide) rfl ?_
  refine r_getf (C := RX0) (T := TX0) (N := 9) 5 0 5 K (dk_of tX5_waterAgainstWind 3 rfl) w217 gwX0 rfl rfl (by decide) rfl ?_
  obtain ⟨x1, hc, hR⟩ := o1 hR
  refine r_cSi 8 [.int (σ 0 5)] [.int p1] x1 (wB γ h σ ++ (wN an (h 0) ν ++ (r))) K (ct_X2_opposite hl hc.symm) cs_X5_123 ⟨rfl, rfl, rfl⟩ (dk_of tX5_waterAgainstWind 4 rfl) rfl rfl rfl rfl ?_
  obtain ⟨x2, hc, hR⟩ := o1 hR
  refine r_cSi 11 [.int p1, .int x1] [] x2 (wB γ h σ ++ (wN an (h 0) ν ++ (r))) K (ct_X2_beside hl hc.symm) cs_X5_36 ⟨rfl, rfl, rfl⟩ (dk_of tX5_waterAgainstWind 5 rfl) rfl rfl rfl rfl ?_
  refine r_istore_n 14 2 [some (.ref an), some (.int p1), some (.int x2)] K (dk_of tX5_waterAgainstWind 6 rfl) rfl rfl rfl (by decide) ?_
  refine r_iload_n 15 2 K (dk_of tX5_waterAgainstWind 7 rfl) rfl rfl ?_
  refine r_iconst 16 (-1) K (dk_of tX5_waterAgainstWind 8 rfl) (by decide) ?_
  refine r_ic_eq 17 38 K (dk_of tX5_waterAgainstWind 9 rfl) (by decide) hR (fun hR => ?_) (fun hR => ?_)
  · refine r_iconst 38 (-1) K (dk_of tX5_waterAgainstWind 18 rfl) (by decide) ?_
    exact r_iret 39 K hQ (dk_of tX5_waterAgainstWind 19 rfl) (Nat.zero_le _) (Nat.zero_le _) (lfi0 hR)
  · refine r_aload_n 20 0 K (dk_of tX5_waterAgainstWind 10 rfl) rfl rfl ?_
    refine r_getf (C := RX5) (T := TX5) (N := 5) 21 26 0 K (dk_of tX5_waterAgainstWind 11 rfl) w249 gwX5 rfl rfl (by decide) rfl ?_
    refine r_getf (C := RX0) (T := TX0) (N := 9) 24 0 0 K (dk_of tX5_waterAgainstWind 12 rfl) w203 gwX0 rfl rfl (by decide) rfl ?_
    refine r_iload_n 27 2 K (dk_of tX5_waterAgainstWind 13 rfl) rfl rfl ?_
    obtain ⟨x3, hc, hR⟩ := o1 hR
    refine r_cVi 28 1 [.int x2] [] x3 (wB γ h σ ++ (wN an (h 0) ν ++ (r))) K (ct_X2_isWater hl hc.symm) cs_X5_126 ⟨rfl, rfl, rfl⟩ (dk_of tX5_waterAgainstWind 14 rfl) rfl rfl rfl rfl rfl rfl ?_
    refine r_if_eq 31 38 K (dk_of tX5_waterAgainstWind 15 rfl) (by decide) hR (fun hR => ?_) (fun hR => ?_)
    · refine r_iconst 38 (-1) K (dk_of tX5_waterAgainstWind 18 rfl) (by decide) ?_
      exact r_iret 39 K hQ (dk_of tX5_waterAgainstWind 19 rfl) (Nat.zero_le _) (Nat.zero_le _) (lfi0 hR)
    · refine r_iload_n 34 2 K (dk_of tX5_waterAgainstWind 16 rfl) rfl rfl ?_
      refine r_goto 35 39 K (dk_of tX5_waterAgainstWind 17 rfl) (by decide) ?_
      exact r_iret 39 K hQ (dk_of tX5_waterAgainstWind 19 rfl) (Nat.zero_le _) (Nat.zero_le _) (lfi0 hR)

def sp_X5_isHighTide  (σ : St) : Option (Int32) := b1 (sp_X0_tideOf ((σ 0 4) + (1 : Int32))) (fun (x1 : Int32) => if x1 = (6 : Int32) then (some (1 : Int32)) else (some (0 : Int32)))
set_option maxHeartbeats 4000000 in
set_option maxRecDepth 100000 in
theorem ct_X5_isHighTide {l : Launch} (hl : l.stackTraces = false) {γ : Gd} {h : Nat → Nat} {an : Nat} {σ : St} {ν : (Nat → Int32)} {r : va_W}  {x0 : Int32} (hR : some x0 = sp_X5_isHighTide σ) : Ct l γ yX5_isHighTide (Cond.code yX5_isHighTide cX5_isHighTide 1 (some .boolean)) ({ frames := 1, cells := 0, slots := 0, locals := 21 } : Room) [.ref an] (wB γ h σ ++ (wN an (h 0) ν ++ (r))) (Pr (some (.int x0)) (wB γ h σ ++ (wN an (h 0) ν ++ (r)))) 0 0 := by
  refine Ct_of hl (by decide +kernel) rfl (Nat.le_of_ble_eq_true rfl) (L := [some (.ref an)]) rfl ?_
  intro X Q K hQ
  generalize ((wB γ h σ ++ (wN an (h 0) ν ++ (r)), Q) : MX) = M at K hQ ⊢
  unfold sp_X5_isHighTide at hR
  refine r_aload_n 0 0 K (dk_of tX5_isHighTide 0 rfl) rfl rfl ?_
  refine r_getf (C := RX5) (T := TX5) (N := 5) 1 26 0 K (dk_of tX5_isHighTide 1 rfl) w249 gwX5 rfl rfl (by decide) rfl ?_
  refine r_getf (C := RX0) (T := TX0) (N := 9) 4 0 4 K (dk_of tX5_isHighTide 2 rfl) w214 gwX0 rfl rfl (by decide) rfl ?_
  refine r_iconst 7 (1 : Int32) K (dk_of tX5_isHighTide 3 rfl) (by decide) ?_
  refine r_iadd 8 K (dk_of tX5_isHighTide 4 rfl) ?_
  obtain ⟨x1, hc, hR⟩ := o1 hR
  refine r_cSi 9 [.int ((σ 0 4) + (1 : Int32))] [] x1 (wB γ h σ ++ (wN an (h 0) ν ++ (r))) K (ct_X0_tideOf hl hc.symm) cs_X5_71 ⟨rfl, rfl, rfl⟩ (dk_of tX5_isHighTide 5 rfl) rfl rfl rfl rfl ?_
  refine r_bipush 12 (6 : Int32) K (dk_of tX5_isHighTide 6 rfl) (by decide) ?_
  refine r_ic_ne 14 21 K (dk_of tX5_isHighTide 7 rfl) (by decide) hR (fun hR => ?_) (fun hR => ?_)
  · refine r_iconst 17 (1 : Int32) K (dk_of tX5_isHighTide 8 rfl) (by decide) ?_
    refine r_goto 18 22 K (dk_of tX5_isHighTide 9 rfl) (by decide) ?_
    exact r_zret 22 K hQ (dk_of tX5_isHighTide 11 rfl) zb1 (Nat.zero_le _) (Nat.zero_le _) (lfi0 hR)
  · refine r_iconst 21 (0 : Int32) K (dk_of tX5_isHighTide 10 rfl) (by decide) ?_
    exact r_zret 22 K hQ (dk_of tX5_isHighTide 11 rfl) zb0 (Nat.zero_le _) (Nat.zero_le _) (lfi0 hR)

def sp_X5_landedOn (p1 : Int32) (σ : St) (ν : (Nat → Int32)) : Option (Int32 × (Nat → Int32)) := if p1 < 0 ∨ 24 ≤ p1.toNatClampNeg then none else (sl ((σ 6 p1.toNatClampNeg)) (fun x1 : Int32 => b1 (sp_X5_waterAgainstWind p1 σ) (fun (x2 : Int32) => if x2 = (-1 : Int32) then (some (x1, ν)) else (b1 (sp_X5_weigh x2 σ ν) (fun (ν3 : (Nat → Int32)) => sl ((x1 + ((ν3 3) + (ν3 4)))) (fun x4 : Int32 => some (x4, ν3)))))))
set_option maxHeartbeats 4000000 in
set_option maxRecDepth 100000 in
theorem ct_X5_landedOn {l : Launch} (hl : l.stackTraces = false) {γ : Gd} {h : Nat → Nat} {an : Nat} {σ : St} {ν : (Nat → Int32)} {r : va_W} {p1 : Int32} {x0 : Int32} {ν0 : (Nat → Int32)} (hR : some (x0, ν0) = sp_X5_landedOn p1 σ ν) : Ct l γ yX5_landedOn (Cond.code yX5_landedOn cX5_landedOn 4 (some .int)) ({ frames := 4, cells := 0, slots := 0, locals := 89 } : Room) [.ref an, .int p1] (wB γ h σ ++ (wN an (h 0) ν ++ (r))) (Pr (some (.int x0)) (wB γ h σ ++ (wN an (h 0) ν0 ++ (r)))) 0 0 := by
  refine Ct_of hl (by decide +kernel) rfl (Nat.le_of_ble_eq_true rfl) (L := [some (.ref an), some (.int p1), none, none]) rfl ?_
  intro X Q K hQ
  generalize ((wB γ h σ ++ (wN an (h 0) ν ++ (r)), Q) : MX) = M at K hQ ⊢
  unfold sp_X5_landedOn at hR
  refine r_aload_n 0 0 K (dk_of tX5_landedOn 0 rfl) rfl rfl ?_
  refine r_getf (C := RX5) (T := TX5) (N := 5) 1 26 0 K (dk_of tX5_landedOn 1 rfl) w249 gwX5 rfl rfl (by decide) rfl ?_
  refine r_getf (C := RX0) (T := TX0) (N := 9) 4 0 0 K (dk_of tX5_landedOn 2 rfl) w203 gwX0 rfl rfl (by decide) rfl ?_
  refine r_getf (C := RX2) (T := TX2) (N := 8) 7 1 4 K (dk_of tX5_landedOn 3 rfl) w60 gwX2 rfl rfl (by decide) rfl ?_
  refine r_iload_n 10 1 K (dk_of tX5_landedOn 4 rfl) rfl rfl ?_
  refine r_ialdR 11 6 K (dk_of tX5_landedOn 5 rfl) rfl hR (fun hR => ?_)
  refine r_nmI hR (fun x1 hR => ?_)
  refine r_istore_n 12 2 [some (.ref an), some (.int p1), some (.int x1), none] K (dk_of tX5_landedOn 6 rfl) rfl rfl rfl (by decide) ?_
  refine r_aload_n 13 0 K (dk_of tX5_landedOn 7 rfl) rfl rfl ?_
  refine r_iload_n 14 1 K (dk_of tX5_landedOn 8 rfl) rfl rfl ?_
  obtain ⟨x2, hc, hR⟩ := o1 hR
  refine r_cVi 15 26 [.int p1] [] x2 (wB γ h σ ++ (wN an (h 0) ν ++ (r))) K (ct_X5_waterAgainstWind hl hc.symm) cs_X5_32 ⟨rfl, rfl, rfl⟩ (dk_of tX5_landedOn 9 rfl) rfl rfl rfl rfl rfl rfl ?_
  refine r_istore_n 18 3 [some (.ref an), some (.int p1), some (.int x1), some (.int x2)] K (dk_of tX5_landedOn 10 rfl) rfl rfl rfl (by decide) ?_
  refine r_iload_n 19 3 K (dk_of tX5_landedOn 11 rfl) rfl rfl ?_
  refine r_iconst 20 (-1) K (dk_of tX5_landedOn 12 rfl) (by decide) ?_
  refine r_ic_eq 21 41 K (dk_of tX5_landedOn 13 rfl) (by decide) hR (fun hR => ?_) (fun hR => ?_)
  · refine r_iload_n 41 2 K (dk_of tX5_landedOn 25 rfl) rfl rfl ?_
    exact r_iret 42 K hQ (dk_of tX5_landedOn 26 rfl) (Nat.zero_le _) (Nat.zero_le _) (lfi (fun u9 : (Nat → Int32) => wB γ h σ ++ (wN an (h 0) u9 ++ (r))) hR)
  · refine r_aload_n 24 0 K (dk_of tX5_landedOn 14 rfl) rfl rfl ?_
    refine r_iload_n 25 3 K (dk_of tX5_landedOn 15 rfl) rfl rfl ?_
    obtain ⟨ν3, hc, hR⟩ := o1 hR
    refine r_cVv 26 26 [.int x2] [] (wB γ h σ ++ (wN an (h 0) ν3 ++ (r))) K (ct_X5_weigh hl hc.symm) cs_X5_15 ⟨rfl, rfl, rfl⟩ (dk_of tX5_landedOn 16 rfl) rfl rfl rfl rfl rfl rfl ?_
    refine r_iload_n 29 2 K (dk_of tX5_landedOn 17 rfl) rfl rfl ?_
    refine r_aload_n 30 0 K (dk_of tX5_landedOn 18 rfl) rfl rfl ?_
    refine r_getf (C := RX5) (T := TX5) (N := 5) 31 26 3 K (dk_of tX5_landedOn 19 rfl) w252 gwX5 rfl rfl (by decide) rfl ?_
    refine r_aload_n 34 0 K (dk_of tX5_landedOn 20 rfl) rfl rfl ?_
    refine r_getf (C := RX5) (T := TX5) (N := 5) 35 26 4 K (dk_of tX5_landedOn 21 rfl) w253 gwX5 rfl rfl (by decide) rfl ?_
    refine r_iadd 38 K (dk_of tX5_landedOn 22 rfl) ?_
    refine r_iadd 39 K (dk_of tX5_landedOn 23 rfl) ?_
    refine r_nmI hR (fun x4 hR => ?_)
    refine r_istore_n 40 2 [some (.ref an), some (.int p1), some (.int x4), some (.int x2)] K (dk_of tX5_landedOn 24 rfl) rfl rfl rfl (by decide) ?_
    refine r_iload_n 41 2 K (dk_of tX5_landedOn 25 rfl) rfl rfl ?_
    exact r_iret 42 K hQ (dk_of tX5_landedOn 26 rfl) (Nat.zero_le _) (Nat.zero_le _) (lfi (fun u9 : (Nat → Int32) => wB γ h σ ++ (wN an (h 0) u9 ++ (r))) hR)

def sp_X5_givenBackTo (p1 : Int32) (p2 : Int32) (σ : St) (ν : (Nat → Int32)) : Option (Int32 × (Nat → Int32)) := if p2 = (-1 : Int32) then (some ((0 : Int32), ν)) else (b1 (sp_X2_isWater p2 σ) (fun (x1 : Int32) => if x1 = 0 then (b1 (sp_X5_isHighTide σ) (fun (x2 : Int32) => if x2 = 0 then (some ((0 : Int32), ν)) else (b1 (sp_X2_lowestWaterBeside p2 σ) (fun (x3 : Int32) => if x3 = p1 then (b2 (sp_X5_landedOn p2 σ ν) (fun (x4 : Int32) (ν5 : (Nat → Int32)) => b1 (sp_X2_backOf p2 x4 σ) (fun (x6 : Int32) => some (x6, ν5)))) else (some ((0 : Int32), ν)))))) else (some ((0 : Int32), ν))))
set_option maxHeartbeats 4000000 in
set_option maxRecDepth 100000 in
theorem ct_X5_givenBackTo {l : Launch} (hl : l.stackTraces = false) {γ : Gd} {h : Nat → Nat} {an : Nat} {σ : St} {ν : (Nat → Int32)} {r : va_W} {p1 : Int32} {p2 : Int32} {x0 : Int32} {ν0 : (Nat → Int32)} (hR : some (x0, ν0) = sp_X5_givenBackTo p1 p2 σ ν) : Ct l γ yX5_givenBackTo (Cond.code yX5_givenBackTo cX5_givenBackTo 3 (some .int)) ({ frames := 5, cells := 0, slots := 0, locals := 112 } : Room) [.ref an, .int p1, .int p2] (wB γ h σ ++ (wN an (h 0) ν ++ (r))) (Pr (some (.int x0)) (wB γ h σ ++ (wN an (h 0) ν0 ++ (r)))) 0 0 := by
  refine Ct_of hl (by decide +kernel) rfl (Nat.le_of_ble_eq_true rfl) (L := [some (.ref an), some (.int p1), some (.int p2)]) rfl ?_
  intro X Q K hQ
  generalize ((wB γ h σ ++ (wN an (h 0) ν ++ (r)), Q) : MX) = M at K hQ ⊢
  unfold sp_X5_givenBackTo at hR
  refine r_iload_n 0 2 K (dk_of tX5_givenBackTo 0 rfl) rfl rfl ?_
  refine r_iconst 1 (-1) K (dk_of tX5_givenBackTo 1 rfl) (by decide) ?_
  refine r_ic_eq 2 41 K (dk_of tX5_givenBackTo 2 rfl) (by decide) hR (fun hR => ?_) (fun hR => ?_)
  · refine r_iconst 41 (0 : Int32) K (dk_of tX5_givenBackTo 19 rfl) (by decide) ?_
    exact r_iret 42 K hQ (dk_of tX5_givenBackTo 20 rfl) (Nat.zero_le _) (Nat.zero_le _) (lfi (fun u9 : (Nat → Int32) => wB γ h σ ++ (wN an (h 0) u9 ++ (r))) hR)
  · refine r_aload_n 5 0 K (dk_of tX5_givenBackTo 3 rfl) rfl rfl ?_
    refine r_getf (C := RX5) (T := TX5) (N := 5) 6 26 0 K (dk_of tX5_givenBackTo 4 rfl) w249 gwX5 rfl rfl (by decide) rfl ?_
    refine r_getf (C := RX0) (T := TX0) (N := 9) 9 0 0 K (dk_of tX5_givenBackTo 5 rfl) w203 gwX0 rfl rfl (by decide) rfl ?_
    refine r_iload_n 12 2 K (dk_of tX5_givenBackTo 6 rfl) rfl rfl ?_
    obtain ⟨x1, hc, hR⟩ := o1 hR
    refine r_cVi 13 1 [.int p2] [] x1 (wB γ h σ ++ (wN an (h 0) ν ++ (r))) K (ct_X2_isWater hl hc.symm) cs_X5_126 ⟨rfl, rfl, rfl⟩ (dk_of tX5_givenBackTo 7 rfl) rfl rfl rfl rfl rfl rfl ?_
    refine r_if_ne 16 41 K (dk_of tX5_givenBackTo 8 rfl) (by decide) hR (fun hR => ?_) (fun hR => ?_)
    · refine r_aload_n 19 0 K (dk_of tX5_givenBackTo 9 rfl) rfl rfl ?_
      obtain ⟨x2, hc, hR⟩ := o1 hR
      refine r_cVi 20 26 [] [] x2 (wB γ h σ ++ (wN an (h 0) ν ++ (r))) K (ct_X5_isHighTide hl hc.symm) cs_X5_52 ⟨rfl, rfl, rfl⟩ (dk_of tX5_givenBackTo 10 rfl) rfl rfl rfl rfl rfl rfl ?_
      refine r_if_eq 23 41 K (dk_of tX5_givenBackTo 11 rfl) (by decide) hR (fun hR => ?_) (fun hR => ?_)
      · refine r_iconst 41 (0 : Int32) K (dk_of tX5_givenBackTo 19 rfl) (by decide) ?_
        exact r_iret 42 K hQ (dk_of tX5_givenBackTo 20 rfl) (Nat.zero_le _) (Nat.zero_le _) (lfi (fun u9 : (Nat → Int32) => wB γ h σ ++ (wN an (h 0) u9 ++ (r))) hR)
      · refine r_aload_n 26 0 K (dk_of tX5_givenBackTo 12 rfl) rfl rfl ?_
        refine r_getf (C := RX5) (T := TX5) (N := 5) 27 26 0 K (dk_of tX5_givenBackTo 13 rfl) w249 gwX5 rfl rfl (by decide) rfl ?_
        refine r_getf (C := RX0) (T := TX0) (N := 9) 30 0 0 K (dk_of tX5_givenBackTo 14 rfl) w203 gwX0 rfl rfl (by decide) rfl ?_
        refine r_iload_n 33 2 K (dk_of tX5_givenBackTo 15 rfl) rfl rfl ?_
        obtain ⟨x3, hc, hR⟩ := o1 hR
        refine r_cVi 34 1 [.int p2] [] x3 (wB γ h σ ++ (wN an (h 0) ν ++ (r))) K (ct_X2_lowestWaterBeside hl hc.symm) cs_X5_62 ⟨rfl, rfl, rfl⟩ (dk_of tX5_givenBackTo 16 rfl) rfl rfl rfl rfl rfl rfl ?_
        refine r_iload_n 37 1 K (dk_of tX5_givenBackTo 17 rfl) rfl rfl ?_
        refine r_ic_eq 38 43 K (dk_of tX5_givenBackTo 18 rfl) (by decide) hR (fun hR => ?_) (fun hR => ?_)
        · refine r_aload_n 43 0 K (dk_of tX5_givenBackTo 21 rfl) rfl rfl ?_
          refine r_getf (C := RX5) (T := TX5) (N := 5) 44 26 0 K (dk_of tX5_givenBackTo 22 rfl) w249 gwX5 rfl rfl (by decide) rfl ?_
          refine r_getf (C := RX0) (T := TX0) (N := 9) 47 0 0 K (dk_of tX5_givenBackTo 23 rfl) w203 gwX0 rfl rfl (by decide) rfl ?_
          refine r_iload_n 50 2 K (dk_of tX5_givenBackTo 24 rfl) rfl rfl ?_
          refine r_aload_n 51 0 K (dk_of tX5_givenBackTo 25 rfl) rfl rfl ?_
          refine r_iload_n 52 2 K (dk_of tX5_givenBackTo 26 rfl) rfl rfl ?_
          obtain ⟨x4, ν5, hc, hR⟩ := o2 hR
          refine r_cVi 53 26 [.int p2] [.int p2, .ref (h 1)] x4 (wB γ h σ ++ (wN an (h 0) ν5 ++ (r))) K (ct_X5_landedOn hl hc.symm) cs_X5_49 ⟨rfl, rfl, rfl⟩ (dk_of tX5_givenBackTo 27 rfl) rfl rfl rfl rfl rfl rfl ?_
          obtain ⟨x6, hc, hR⟩ := o1 hR
          refine r_cVi 56 1 [.int p2, .int x4] [] x6 (wB γ h σ ++ (wN an (h 0) ν5 ++ (r))) K (ct_X2_backOf hl hc.symm) cs_X5_65 ⟨rfl, rfl, rfl⟩ (dk_of tX5_givenBackTo 28 rfl) rfl rfl rfl rfl rfl rfl ?_
          exact r_iret 59 K hQ (dk_of tX5_givenBackTo 29 rfl) (Nat.zero_le _) (Nat.zero_le _) (lfi (fun u9 : (Nat → Int32) => wB γ h σ ++ (wN an (h 0) u9 ++ (r))) hR)
        · refine r_iconst 41 (0 : Int32) K (dk_of tX5_givenBackTo 19 rfl) (by decide) ?_
          exact r_iret 42 K hQ (dk_of tX5_givenBackTo 20 rfl) (Nat.zero_le _) (Nat.zero_le _) (lfi (fun u9 : (Nat → Int32) => wB γ h σ ++ (wN an (h 0) u9 ++ (r))) hR)
    · refine r_iconst 41 (0 : Int32) K (dk_of tX5_givenBackTo 19 rfl) (by decide) ?_
      exact r_iret 42 K hQ (dk_of tX5_givenBackTo 20 rfl) (Nat.zero_le _) (Nat.zero_le _) (lfi (fun u9 : (Nat → Int32) => wB γ h σ ++ (wN an (h 0) u9 ++ (r))) hR)

def sp_X5_leftBySkimmers_9 (σ : St) (y1 : Int32) : Nat → Int32 → Int32 → Int32 → Option (Int32)
  | 0, _, _, _ => none
  | n + 1, y2, y3, y4 => if (σ 14 0) ≤ y4 then (some (y2 + y3)) else (b1 (sp_X4_isSkimmer y4 y1 σ) (fun (x5 : Int32) => if x5 = 0 then (sp_X5_leftBySkimmers_9 σ y1 n y2 y3 (y4 + 1)) else (b1 (sp_X4_freshTaken y4 y2 σ) (fun (x6 : Int32) => sl ((y2 - x6)) (fun x7 : Int32 => b1 (sp_X4_thickTaken y4 x6 y3 σ) (fun (x8 : Int32) => sl ((y3 - x8)) (fun x9 : Int32 => sp_X5_leftBySkimmers_9 σ y1 n x7 x9 (y4 + 1))))))))
def sp_X5_leftBySkimmers (p1 : Int32) (p2 : Int32) (p3 : Int32) (σ : St) : Option (Int32) := sp_X5_leftBySkimmers_9 σ p1 200 p2 p3 (0 : Int32)
set_option maxHeartbeats 4000000 in
set_option maxRecDepth 100000 in
theorem ct_X5_leftBySkimmers {l : Launch} (hl : l.stackTraces = false) {γ : Gd} {h : Nat → Nat} {an : Nat} {σ : St} {ν : (Nat → Int32)} {r : va_W} {p1 : Int32} {p2 : Int32} {p3 : Int32} {x0 : Int32} (hR : some x0 = sp_X5_leftBySkimmers p1 p2 p3 σ) : Ct l γ yX5_leftBySkimmers (Cond.code yX5_leftBySkimmers cX5_leftBySkimmers 8 (some .int)) ({ frames := 2, cells := 0, slots := 0, locals := 39 } : Room) [.ref an, .int p1, .int p2, .int p3] (wB γ h σ ++ (wN an (h 0) ν ++ (r))) (Pr (some (.int x0)) (wB γ h σ ++ (wN an (h 0) ν ++ (r)))) 0 0 := by
  refine Ct_of hl (by decide +kernel) rfl (Nat.le_of_ble_eq_true rfl) (L := [some (.ref an), some (.int p1), some (.int p2), some (.int p3), none, none, none, none]) rfl ?_
  intro X Q K hQ
  generalize ((wB γ h σ ++ (wN an (h 0) ν ++ (r)), Q) : MX) = M at K hQ ⊢
  unfold sp_X5_leftBySkimmers at hR
  have b9 : ∀ (y1 : Int32) (n : Nat) (y2 : Int32) (y3 : Int32) (y4 : Int32), some x0 = sp_X5_leftBySkimmers_9 σ y1 n y2 y3 y4 → V l γ X M (wB γ h σ ++ (wN an (h 0) ν ++ (r))) [some (.ref an), some (.int y1), none, none, some (.int y2), some (.int y3), some (.int y4), none] 0 0 9 [] := by
    intro y1 n
    induction n with
    | zero => intro y2 y3 y4 hR; exact nn_ hR
    | succ n ih9 =>
      intro y2 y3 y4 hR
      rw [sp_X5_leftBySkimmers_9] at hR
      refine r_iload 9 6 K (dk_of tX5_leftBySkimmers 6 rfl) rfl ?_
      refine r_aload_n 11 0 K (dk_of tX5_leftBySkimmers 7 rfl) rfl rfl ?_
      refine r_getf (C := RX5) (T := TX5) (N := 5) 12 26 0 K (dk_of tX5_leftBySkimmers 8 rfl) w249 gwX5 rfl rfl (by decide) rfl ?_
      refine r_getf (C := RX0) (T := TX0) (N := 9) 15 0 2 K (dk_of tX5_leftBySkimmers 9 rfl) w209 gwX0 rfl rfl (by decide) rfl ?_
      refine r_getf (C := RX4) (T := TX4) (N := 9) 18 14 0 K (dk_of tX5_leftBySkimmers 10 rfl) w122 gwX4 rfl rfl (by decide) rfl ?_
      refine r_ic_ge 21 90 K (dk_of tX5_leftBySkimmers 11 rfl) (by decide) hR (fun hR => ?_) (fun hR => ?_)
      · refine r_iload 90 4 K (dk_of tX5_leftBySkimmers 42 rfl) rfl ?_
        refine r_iload 92 5 K (dk_of tX5_leftBySkimmers 43 rfl) rfl ?_
        refine r_iadd 94 K (dk_of tX5_leftBySkimmers 44 rfl) ?_
        exact r_iret 95 K hQ (dk_of tX5_leftBySkimmers 45 rfl) (Nat.zero_le _) (Nat.zero_le _) (lfi0 hR)
      · refine r_aload_n 24 0 K (dk_of tX5_leftBySkimmers 12 rfl) rfl rfl ?_
        refine r_getf (C := RX5) (T := TX5) (N := 5) 25 26 0 K (dk_of tX5_leftBySkimmers 13 rfl) w249 gwX5 rfl rfl (by decide) rfl ?_
        refine r_getf (C := RX0) (T := TX0) (N := 9) 28 0 2 K (dk_of tX5_leftBySkimmers 14 rfl) w209 gwX0 rfl rfl (by decide) rfl ?_
        refine r_iload 31 6 K (dk_of tX5_leftBySkimmers 15 rfl) rfl ?_
        refine r_iload_n 33 1 K (dk_of tX5_leftBySkimmers 16 rfl) rfl rfl ?_
        obtain ⟨x5, hc, hR⟩ := o1 hR
        refine r_cVi 34 14 [.int y4, .int y1] [] x5 (wB γ h σ ++ (wN an (h 0) ν ++ (r))) K (ct_X4_isSkimmer hl hc.symm) cs_X5_134 ⟨rfl, rfl, rfl⟩ (dk_of tX5_leftBySkimmers 17 rfl) rfl rfl rfl rfl rfl rfl ?_
        refine r_if_eq 37 84 K (dk_of tX5_leftBySkimmers 18 rfl) (by decide) hR (fun hR => ?_) (fun hR => ?_)
        · refine r_iinc 84 6 (y4 + 1) [some (.ref an), some (.int y1), none, none, some (.int y2), some (.int y3), some (.int (y4 + 1)), none] K (dk_of tX5_leftBySkimmers 40 rfl) rfl rfl rfl rfl (by decide) ?_
          refine r_goto 87 9 K (dk_of tX5_leftBySkimmers 41 rfl) (by decide) ?_
          exact ih9 y2 y3 (y4 + 1) hR
        · refine r_aload_n 40 0 K (dk_of tX5_leftBySkimmers 19 rfl) rfl rfl ?_
          refine r_getf (C := RX5) (T := TX5) (N := 5) 41 26 0 K (dk_of tX5_leftBySkimmers 20 rfl) w249 gwX5 rfl rfl (by decide) rfl ?_
          refine r_getf (C := RX0) (T := TX0) (N := 9) 44 0 2 K (dk_of tX5_leftBySkimmers 21 rfl) w209 gwX0 rfl rfl (by decide) rfl ?_
          refine r_iload 47 6 K (dk_of tX5_leftBySkimmers 22 rfl) rfl ?_
          refine r_iload 49 4 K (dk_of tX5_leftBySkimmers 23 rfl) rfl ?_
          obtain ⟨x6, hc, hR⟩ := o1 hR
          refine r_cVi 51 14 [.int y4, .int y2] [] x6 (wB γ h σ ++ (wN an (h 0) ν ++ (r))) K (ct_X4_freshTaken hl hc.symm) cs_X5_138 ⟨rfl, rfl, rfl⟩ (dk_of tX5_leftBySkimmers 24 rfl) rfl rfl rfl rfl rfl rfl ?_
          refine r_istore 54 7 [some (.ref an), some (.int y1), none, none, some (.int y2), some (.int y3), some (.int y4), some (.int x6)] K (dk_of tX5_leftBySkimmers 25 rfl) rfl rfl (by decide) ?_
          refine r_iload 56 4 K (dk_of tX5_leftBySkimmers 26 rfl) rfl ?_
          refine r_iload 58 7 K (dk_of tX5_leftBySkimmers 27 rfl) rfl ?_
          refine r_isub 60 K (dk_of tX5_leftBySkimmers 28 rfl) ?_
          refine r_nmI hR (fun x7 hR => ?_)
          refine r_istore 61 4 [some (.ref an), some (.int y1), none, none, some (.int x7), some (.int y3), some (.int y4), some (.int x6)] K (dk_of tX5_leftBySkimmers 29 rfl) rfl rfl (by decide) ?_
          refine r_iload 63 5 K (dk_of tX5_leftBySkimmers 30 rfl) rfl ?_
          refine r_aload_n 65 0 K (dk_of tX5_leftBySkimmers 31 rfl) rfl rfl ?_
          refine r_getf (C := RX5) (T := TX5) (N := 5) 66 26 0 K (dk_of tX5_leftBySkimmers 32 rfl) w249 gwX5 rfl rfl (by decide) rfl ?_
          refine r_getf (C := RX0) (T := TX0) (N := 9) 69 0 2 K (dk_of tX5_leftBySkimmers 33 rfl) w209 gwX0 rfl rfl (by decide) rfl ?_
          refine r_iload 72 6 K (dk_of tX5_leftBySkimmers 34 rfl) rfl ?_
          refine r_iload 74 7 K (dk_of tX5_leftBySkimmers 35 rfl) rfl ?_
          refine r_iload 76 5 K (dk_of tX5_leftBySkimmers 36 rfl) rfl ?_
          obtain ⟨x8, hc, hR⟩ := o1 hR
          refine r_cVi 78 14 [.int y4, .int x6, .int y3] [.int y3] x8 (wB γ h σ ++ (wN an (h 0) ν ++ (r))) K (ct_X4_thickTaken hl hc.symm) cs_X5_141 ⟨rfl, rfl, rfl⟩ (dk_of tX5_leftBySkimmers 37 rfl) rfl rfl rfl rfl rfl rfl ?_
          refine r_isub 81 K (dk_of tX5_leftBySkimmers 38 rfl) ?_
          refine r_nmI hR (fun x9 hR => ?_)
          refine r_istore 82 5 [some (.ref an), some (.int y1), none, none, some (.int x7), some (.int x9), some (.int y4), some (.int x6)] K (dk_of tX5_leftBySkimmers 39 rfl) rfl rfl (by decide) ?_
          refine r_iinc 84 6 (y4 + 1) [some (.ref an), some (.int y1), none, none, some (.int x7), some (.int x9), some (.int (y4 + 1)), some (.int x6)] K (dk_of tX5_leftBySkimmers 40 rfl) rfl rfl rfl rfl (by decide) ?_
          refine r_goto 87 9 K (dk_of tX5_leftBySkimmers 41 rfl) (by decide) ?_
          exact r_msk [true, true, true, true, true, true, true, false] [some (.ref an), some (.int y1), none, none, some (.int x7), some (.int x9), some (.int (y4 + 1)), none] rfl (ih9 x7 x9 (y4 + 1) hR)
  refine r_iload_n 0 2 K (dk_of tX5_leftBySkimmers 0 rfl) rfl rfl ?_
  refine r_istore 1 4 [some (.ref an), some (.int p1), some (.int p2), some (.int p3), some (.int p2), none, none, none] K (dk_of tX5_leftBySkimmers 1 rfl) rfl rfl (by decide) ?_
  refine r_iload_n 3 3 K (dk_of tX5_leftBySkimmers 2 rfl) rfl rfl ?_
  refine r_istore 4 5 [some (.ref an), some (.int p1), some (.int p2), some (.int p3), some (.int p2), some (.int p3), none, none] K (dk_of tX5_leftBySkimmers 3 rfl) rfl rfl (by decide) ?_
  refine r_iconst 6 (0 : Int32) K (dk_of tX5_leftBySkimmers 4 rfl) (by decide) ?_
  refine r_istore 7 6 [some (.ref an), some (.int p1), some (.int p2), some (.int p3), some (.int p2), some (.int p3), some (.int (0 : Int32)), none] K (dk_of tX5_leftBySkimmers 5 rfl) rfl rfl (by decide) ?_
  exact r_msk [true, true, false, false, true, true, true, true] [some (.ref an), some (.int p1), none, none, some (.int p2), some (.int p3), some (.int (0 : Int32)), none] rfl (b9 p1 200 p2 p3 (0 : Int32) hR)

def sp_X5_floatingOf_61 (σ : St) (y5 : Int32) (y6 : Int32) : Nat → Int32 → Int32 → (Nat → Int32) → Option (Int32 × (Nat → Int32))
  | 0, _, _, _ => none
  | n + 1, y7, y8, ν9 => if (3 : Int32) < y8 then (b1 (sp_X5_leftBySkimmers y5 y6 y7 σ) (fun (x10 : Int32) => some (x10, ν9))) else (b1 (sp_X2_beside y5 y8) (fun (x11 : Int32) => b2 (sp_X5_givenBackTo y5 x11 σ ν9) (fun (x12 : Int32) (ν13 : (Nat → Int32)) => sl ((y7 + x12)) (fun x14 : Int32 => sp_X5_floatingOf_61 σ y5 y6 n x14 (y8 + 1) ν13))))
def sp_X5_floatingOf (p1 : Int32) (σ : St) (ν : (Nat → Int32)) : Option (Int32 × (Nat → Int32)) := b1 (sp_X5_weigh p1 σ ν) (fun (ν1 : (Nat → Int32)) => sl (((ν1 1) - (ν1 3))) (fun x2 : Int32 => sl (((ν1 2) - (ν1 4))) (fun x3 : Int32 => b1 (sp_X5_waterAgainstWind p1 σ) (fun (x4 : Int32) => if x4 = (-1 : Int32) then (sp_X5_floatingOf_61 σ p1 x2 200 x3 (0 : Int32) ν1) else (b1 (sp_X5_weigh x4 σ ν1) (fun (ν15 : (Nat → Int32)) => sl ((x2 + (ν15 3))) (fun x16 : Int32 => sl ((x3 + (ν15 4))) (fun x17 : Int32 => sp_X5_floatingOf_61 σ p1 x16 200 x17 (0 : Int32) ν15))))))))
set_option maxHeartbeats 4000000 in
set_option maxRecDepth 100000 in
theorem ct_X5_floatingOf {l : Launch} (hl : l.stackTraces = false) {γ : Gd} {h : Nat → Nat} {an : Nat} {σ : St} {ν : (Nat → Int32)} {r : va_W} {p1 : Int32} {x0 : Int32} {ν0 : (Nat → Int32)} (hR : some (x0, ν0) = sp_X5_floatingOf p1 σ ν) : Ct l γ yX5_floatingOf (Cond.code yX5_floatingOf cX5_floatingOf 6 (some .int)) ({ frames := 6, cells := 0, slots := 0, locals := 134 } : Room) [.ref an, .int p1] (wB γ h σ ++ (wN an (h 0) ν ++ (r))) (Pr (some (.int x0)) (wB γ h σ ++ (wN an (h 0) ν0 ++ (r)))) 0 0 := by
  refine Ct_of hl (by decide +kernel) rfl (Nat.le_of_ble_eq_true rfl) (L := [some (.ref an), some (.int p1), none, none, none, none]) rfl ?_
  intro X Q K hQ
  generalize ((wB γ h σ ++ (wN an (h 0) ν ++ (r)), Q) : MX) = M at K hQ ⊢
  unfold sp_X5_floatingOf at hR
  have b61 : ∀ (y5 : Int32) (y6 : Int32) (n : Nat) (y7 : Int32) (y8 : Int32) (ν9 : (Nat → Int32)), some (x0, ν0) = sp_X5_floatingOf_61 σ y5 y6 n y7 y8 ν9 → V l γ X M (wB γ h σ ++ (wN an (h 0) ν9 ++ (r))) [some (.ref an), some (.int y5), some (.int y6), some (.int y7), none, some (.int y8)] 0 0 61 [] := by
    intro y5 y6 n
    induction n with
    | zero => intro y7 y8 ν9 hR; exact nn_ hR
    | succ n ih61 =>
      intro y7 y8 ν9 hR
      rw [sp_X5_floatingOf_61] at hR
      refine r_iload 61 5 K (dk_of tX5_floatingOf 37 rfl) rfl ?_
      refine r_iconst 63 (3 : Int32) K (dk_of tX5_floatingOf 38 rfl) (by decide) ?_
      refine r_ic_gt 64 87 K (dk_of tX5_floatingOf 39 rfl) (by decide) hR (fun hR => ?_) (fun hR => ?_)
      · refine r_aload_n 87 0 K (dk_of tX5_floatingOf 51 rfl) rfl rfl ?_
        refine r_iload_n 88 1 K (dk_of tX5_floatingOf 52 rfl) rfl rfl ?_
        refine r_iload_n 89 2 K (dk_of tX5_floatingOf 53 rfl) rfl rfl ?_
        refine r_iload_n 90 3 K (dk_of tX5_floatingOf 54 rfl) rfl rfl ?_
        obtain ⟨x10, hc, hR⟩ := o1 hR
        refine r_cVi 91 26 [.int y5, .int y6, .int y7] [] x10 (wB γ h σ ++ (wN an (h 0) ν9 ++ (r))) K (ct_X5_leftBySkimmers hl hc.symm) cs_X5_45 ⟨rfl, rfl, rfl⟩ (dk_of tX5_floatingOf 55 rfl) rfl rfl rfl rfl rfl rfl ?_
        exact r_iret 94 K hQ (dk_of tX5_floatingOf 56 rfl) (Nat.zero_le _) (Nat.zero_le _) (lfi (fun u9 : (Nat → Int32) => wB γ h σ ++ (wN an (h 0) u9 ++ (r))) hR)
      · refine r_iload_n 67 3 K (dk_of tX5_floatingOf 40 rfl) rfl rfl ?_
        refine r_aload_n 68 0 K (dk_of tX5_floatingOf 41 rfl) rfl rfl ?_
        refine r_iload_n 69 1 K (dk_of tX5_floatingOf 42 rfl) rfl rfl ?_
        refine r_iload_n 70 1 K (dk_of tX5_floatingOf 43 rfl) rfl rfl ?_
        refine r_iload 71 5 K (dk_of tX5_floatingOf 44 rfl) rfl ?_
        obtain ⟨x11, hc, hR⟩ := o1 hR
        refine r_cSi 73 [.int y5, .int y8] [.int y5, .ref an, .int y7] x11 (wB γ h σ ++ (wN an (h 0) ν9 ++ (r))) K (ct_X2_beside hl hc.symm) cs_X5_36 ⟨rfl, rfl, rfl⟩ (dk_of tX5_floatingOf 45 rfl) rfl rfl rfl rfl ?_
        obtain ⟨x12, ν13, hc, hR⟩ := o2 hR
        refine r_cVi 76 26 [.int y5, .int x11] [.int y7] x12 (wB γ h σ ++ (wN an (h 0) ν13 ++ (r))) K (ct_X5_givenBackTo hl hc.symm) cs_X5_42 ⟨rfl, rfl, rfl⟩ (dk_of tX5_floatingOf 46 rfl) rfl rfl rfl rfl rfl rfl ?_
        refine r_iadd 79 K (dk_of tX5_floatingOf 47 rfl) ?_
        refine r_nmI hR (fun x14 hR => ?_)
        refine r_istore_n 80 3 [some (.ref an), some (.int y5), some (.int y6), some (.int x14), none, some (.int y8)] K (dk_of tX5_floatingOf 48 rfl) rfl rfl rfl (by decide) ?_
        refine r_iinc 81 5 (y8 + 1) [some (.ref an), some (.int y5), some (.int y6), some (.int x14), none, some (.int (y8 + 1))] K (dk_of tX5_floatingOf 49 rfl) rfl rfl rfl rfl (by decide) ?_
        refine r_goto 84 61 K (dk_of tX5_floatingOf 50 rfl) (by decide) ?_
        exact ih61 x14 (y8 + 1) ν13 hR
  refine r_aload_n 0 0 K (dk_of tX5_floatingOf 0 rfl) rfl rfl ?_
  refine r_iload_n 1 1 K (dk_of tX5_floatingOf 1 rfl) rfl rfl ?_
  obtain ⟨ν1, hc, hR⟩ := o1 hR
  refine r_cVv 2 26 [.int p1] [] (wB γ h σ ++ (wN an (h 0) ν1 ++ (r))) K (ct_X5_weigh hl hc.symm) cs_X5_15 ⟨rfl, rfl, rfl⟩ (dk_of tX5_floatingOf 2 rfl) rfl rfl rfl rfl rfl rfl ?_
  refine r_aload_n 5 0 K (dk_of tX5_floatingOf 3 rfl) rfl rfl ?_
  refine r_getf (C := RX5) (T := TX5) (N := 5) 6 26 1 K (dk_of tX5_floatingOf 4 rfl) w250 gwX5 rfl rfl (by decide) rfl ?_
  refine r_aload_n 9 0 K (dk_of tX5_floatingOf 5 rfl) rfl rfl ?_
  refine r_getf (C := RX5) (T := TX5) (N := 5) 10 26 3 K (dk_of tX5_floatingOf 6 rfl) w252 gwX5 rfl rfl (by decide) rfl ?_
  refine r_isub 13 K (dk_of tX5_floatingOf 7 rfl) ?_
  refine r_nmI hR (fun x2 hR => ?_)
  refine r_istore_n 14 2 [some (.ref an), some (.int p1), some (.int x2), none, none, none] K (dk_of tX5_floatingOf 8 rfl) rfl rfl rfl (by decide) ?_
  refine r_aload_n 15 0 K (dk_of tX5_floatingOf 9 rfl) rfl rfl ?_
  refine r_getf (C := RX5) (T := TX5) (N := 5) 16 26 2 K (dk_of tX5_floatingOf 10 rfl) w251 gwX5 rfl rfl (by decide) rfl ?_
  refine r_aload_n 19 0 K (dk_of tX5_floatingOf 11 rfl) rfl rfl ?_
  refine r_getf (C := RX5) (T := TX5) (N := 5) 20 26 4 K (dk_of tX5_floatingOf 12 rfl) w253 gwX5 rfl rfl (by decide) rfl ?_
  refine r_isub 23 K (dk_of tX5_floatingOf 13 rfl) ?_
  refine r_nmI hR (fun x3 hR => ?_)
  refine r_istore_n 24 3 [some (.ref an), some (.int p1), some (.int x2), some (.int x3), none, none] K (dk_of tX5_floatingOf 14 rfl) rfl rfl rfl (by decide) ?_
  refine r_aload_n 25 0 K (dk_of tX5_floatingOf 15 rfl) rfl rfl ?_
  refine r_iload_n 26 1 K (dk_of tX5_floatingOf 16 rfl) rfl rfl ?_
  obtain ⟨x4, hc, hR⟩ := o1 hR
  refine r_cVi 27 26 [.int p1] [] x4 (wB γ h σ ++ (wN an (h 0) ν1 ++ (r))) K (ct_X5_waterAgainstWind hl hc.symm) cs_X5_32 ⟨rfl, rfl, rfl⟩ (dk_of tX5_floatingOf 17 rfl) rfl rfl rfl rfl rfl rfl ?_
  refine r_istore 30 4 [some (.ref an), some (.int p1), some (.int x2), some (.int x3), some (.int x4), none] K (dk_of tX5_floatingOf 18 rfl) rfl rfl (by decide) ?_
  refine r_iload 32 4 K (dk_of tX5_floatingOf 19 rfl) rfl ?_
  refine r_iconst 34 (-1) K (dk_of tX5_floatingOf 20 rfl) (by decide) ?_
  refine r_ic_eq 35 58 K (dk_of tX5_floatingOf 21 rfl) (by decide) hR (fun hR => ?_) (fun hR => ?_)
  · refine r_iconst 58 (0 : Int32) K (dk_of tX5_floatingOf 35 rfl) (by decide) ?_
    refine r_istore 59 5 [some (.ref an), some (.int p1), some (.int x2), some (.int x3), some (.int x4), some (.int (0 : Int32))] K (dk_of tX5_floatingOf 36 rfl) rfl rfl (by decide) ?_
    exact r_msk [true, true, true, true, false, true] [some (.ref an), some (.int p1), some (.int x2), some (.int x3), none, some (.int (0 : Int32))] rfl (b61 p1 x2 200 x3 (0 : Int32) ν1 hR)
  · refine r_aload_n 38 0 K (dk_of tX5_floatingOf 22 rfl) rfl rfl ?_
    refine r_iload 39 4 K (dk_of tX5_floatingOf 23 rfl) rfl ?_
    obtain ⟨ν15, hc, hR⟩ := o1 hR
    refine r_cVv 41 26 [.int x4] [] (wB γ h σ ++ (wN an (h 0) ν15 ++ (r))) K (ct_X5_weigh hl hc.symm) cs_X5_15 ⟨rfl, rfl, rfl⟩ (dk_of tX5_floatingOf 24 rfl) rfl rfl rfl rfl rfl rfl ?_
    refine r_iload_n 44 2 K (dk_of tX5_floatingOf 25 rfl) rfl rfl ?_
    refine r_aload_n 45 0 K (dk_of tX5_floatingOf 26 rfl) rfl rfl ?_
    refine r_getf (C := RX5) (T := TX5) (N := 5) 46 26 3 K (dk_of tX5_floatingOf 27 rfl) w252 gwX5 rfl rfl (by decide) rfl ?_
    refine r_iadd 49 K (dk_of tX5_floatingOf 28 rfl) ?_
    refine r_nmI hR (fun x16 hR => ?_)
    refine r_istore_n 50 2 [some (.ref an), some (.int p1), some (.int x16), some (.int x3), some (.int x4), none] K (dk_of tX5_floatingOf 29 rfl) rfl rfl rfl (by decide) ?_
    refine r_iload_n 51 3 K (dk_of tX5_floatingOf 30 rfl) rfl rfl ?_
    refine r_aload_n 52 0 K (dk_of tX5_floatingOf 31 rfl) rfl rfl ?_
    refine r_getf (C := RX5) (T := TX5) (N := 5) 53 26 4 K (dk_of tX5_floatingOf 32 rfl) w253 gwX5 rfl rfl (by decide) rfl ?_
    refine r_iadd 56 K (dk_of tX5_floatingOf 33 rfl) ?_
    refine r_nmI hR (fun x17 hR => ?_)
    refine r_istore_n 57 3 [some (.ref an), some (.int p1), some (.int x16), some (.int x17), some (.int x4), none] K (dk_of tX5_floatingOf 34 rfl) rfl rfl rfl (by decide) ?_
    refine r_iconst 58 (0 : Int32) K (dk_of tX5_floatingOf 35 rfl) (by decide) ?_
    refine r_istore 59 5 [some (.ref an), some (.int p1), some (.int x16), some (.int x17), some (.int x4), some (.int (0 : Int32))] K (dk_of tX5_floatingOf 36 rfl) rfl rfl (by decide) ?_
    exact r_msk [true, true, true, true, false, true] [some (.ref an), some (.int p1), some (.int x16), some (.int x17), none, some (.int (0 : Int32))] rfl (b61 p1 x16 200 x17 (0 : Int32) ν15 hR)

def sp_X5_strandedOf_33 (σ : St) (y7 : Int32) (y8 : Int32) (y9 : Int32) (ν10 : (Nat → Int32)) : Option (Int32 × (Nat → Int32)) := if y9 = 0 then (some (y8, ν10)) else (b1 (sp_X2_backOf y7 y8 σ) (fun (x11 : Int32) => some ((y8 - x11), ν10)))
def sp_X5_strandedOf_32 (σ : St) (y4 : Int32) (y5 : Int32) (ν6 : (Nat → Int32)) : Option (Int32 × (Nat → Int32)) := sp_X5_strandedOf_33 σ y4 y5 (0 : Int32) ν6
def sp_X5_strandedOf (p1 : Int32) (σ : St) (ν : (Nat → Int32)) : Option (Int32 × (Nat → Int32)) := b2 (sp_X5_landedOn p1 σ ν) (fun (x1 : Int32) (ν2 : (Nat → Int32)) => b1 (sp_X5_isHighTide σ) (fun (x3 : Int32) => if x3 = 0 then (sp_X5_strandedOf_32 σ p1 x1 ν2) else (b1 (sp_X2_lowestWaterBeside p1 σ) (fun (x12 : Int32) => if x12 = (-1 : Int32) then (sp_X5_strandedOf_32 σ p1 x1 ν2) else (sp_X5_strandedOf_33 σ p1 x1 (1 : Int32) ν2)))))
set_option maxHeartbeats 4000000 in
set_option maxRecDepth 100000 in
theorem ct_X5_strandedOf {l : Launch} (hl : l.stackTraces = false) {γ : Gd} {h : Nat → Nat} {an : Nat} {σ : St} {ν : (Nat → Int32)} {r : va_W} {p1 : Int32} {x0 : Int32} {ν0 : (Nat → Int32)} (hR : some (x0, ν0) = sp_X5_strandedOf p1 σ ν) : Ct l γ yX5_strandedOf (Cond.code yX5_strandedOf cX5_strandedOf 4 (some .int)) ({ frames := 5, cells := 0, slots := 0, locals := 112 } : Room) [.ref an, .int p1] (wB γ h σ ++ (wN an (h 0) ν ++ (r))) (Pr (some (.int x0)) (wB γ h σ ++ (wN an (h 0) ν0 ++ (r)))) 0 0 := by
  refine Ct_of hl (by decide +kernel) rfl (Nat.le_of_ble_eq_true rfl) (L := [some (.ref an), some (.int p1), none, none]) rfl ?_
  intro X Q K hQ
  generalize ((wB γ h σ ++ (wN an (h 0) ν ++ (r)), Q) : MX) = M at K hQ ⊢
  unfold sp_X5_strandedOf at hR
  have b33 : ∀ (y7 : Int32) (y8 : Int32) (y9 : Int32) (ν10 : (Nat → Int32)), some (x0, ν0) = sp_X5_strandedOf_33 σ y7 y8 y9 ν10 → V l γ X M (wB γ h σ ++ (wN an (h 0) ν10 ++ (r))) [some (.ref an), some (.int y7), some (.int y8), none] 0 0 33 [.int y9] := by
    intro  y7 y8 y9 ν10 hR
    unfold sp_X5_strandedOf_33 at hR
    refine r_istore_n 33 3 [some (.ref an), some (.int y7), some (.int y8), some (.int y9)] K (dk_of tX5_strandedOf 17 rfl) rfl rfl rfl (by decide) ?_
    refine r_iload_n 34 3 K (dk_of tX5_strandedOf 18 rfl) rfl rfl ?_
    refine r_if_eq 35 55 K (dk_of tX5_strandedOf 19 rfl) (by decide) hR (fun hR => ?_) (fun hR => ?_)
    · refine r_iload_n 55 2 K (dk_of tX5_strandedOf 29 rfl) rfl rfl ?_
      exact r_iret 56 K hQ (dk_of tX5_strandedOf 30 rfl) (Nat.zero_le _) (Nat.zero_le _) (lfi (fun u9 : (Nat → Int32) => wB γ h σ ++ (wN an (h 0) u9 ++ (r))) hR)
    · refine r_iload_n 38 2 K (dk_of tX5_strandedOf 20 rfl) rfl rfl ?_
      refine r_aload_n 39 0 K (dk_of tX5_strandedOf 21 rfl) rfl rfl ?_
      refine r_getf (C := RX5) (T := TX5) (N := 5) 40 26 0 K (dk_of tX5_strandedOf 22 rfl) w249 gwX5 rfl rfl (by decide) rfl ?_
      refine r_getf (C := RX0) (T := TX0) (N := 9) 43 0 0 K (dk_of tX5_strandedOf 23 rfl) w203 gwX0 rfl rfl (by decide) rfl ?_
      refine r_iload_n 46 1 K (dk_of tX5_strandedOf 24 rfl) rfl rfl ?_
      refine r_iload_n 47 2 K (dk_of tX5_strandedOf 25 rfl) rfl rfl ?_
      obtain ⟨x11, hc, hR⟩ := o1 hR
      refine r_cVi 48 1 [.int y7, .int y8] [.int y8] x11 (wB γ h σ ++ (wN an (h 0) ν10 ++ (r))) K (ct_X2_backOf hl hc.symm) cs_X5_65 ⟨rfl, rfl, rfl⟩ (dk_of tX5_strandedOf 26 rfl) rfl rfl rfl rfl rfl rfl ?_
      refine r_isub 51 K (dk_of tX5_strandedOf 27 rfl) ?_
      refine r_goto 52 56 K (dk_of tX5_strandedOf 28 rfl) (by decide) ?_
      exact r_iret 56 K hQ (dk_of tX5_strandedOf 30 rfl) (Nat.zero_le _) (Nat.zero_le _) (lfi (fun u9 : (Nat → Int32) => wB γ h σ ++ (wN an (h 0) u9 ++ (r))) hR)
  have b32 : ∀ (y4 : Int32) (y5 : Int32) (ν6 : (Nat → Int32)), some (x0, ν0) = sp_X5_strandedOf_32 σ y4 y5 ν6 → V l γ X M (wB γ h σ ++ (wN an (h 0) ν6 ++ (r))) [some (.ref an), some (.int y4), some (.int y5), none] 0 0 32 [] := by
    intro  y4 y5 ν6 hR
    unfold sp_X5_strandedOf_32 at hR
    refine r_iconst 32 (0 : Int32) K (dk_of tX5_strandedOf 16 rfl) (by decide) ?_
    exact b33 y4 y5 (0 : Int32) ν6 hR
  refine r_aload_n 0 0 K (dk_of tX5_strandedOf 0 rfl) rfl rfl ?_
  refine r_iload_n 1 1 K (dk_of tX5_strandedOf 1 rfl) rfl rfl ?_
  obtain ⟨x1, ν2, hc, hR⟩ := o2 hR
  refine r_cVi 2 26 [.int p1] [] x1 (wB γ h σ ++ (wN an (h 0) ν2 ++ (r))) K (ct_X5_landedOn hl hc.symm) cs_X5_49 ⟨rfl, rfl, rfl⟩ (dk_of tX5_strandedOf 2 rfl) rfl rfl rfl rfl rfl rfl ?_
  refine r_istore_n 5 2 [some (.ref an), some (.int p1), some (.int x1), none] K (dk_of tX5_strandedOf 3 rfl) rfl rfl rfl (by decide) ?_
  refine r_aload_n 6 0 K (dk_of tX5_strandedOf 4 rfl) rfl rfl ?_
  obtain ⟨x3, hc, hR⟩ := o1 hR
  refine r_cVi 7 26 [] [] x3 (wB γ h σ ++ (wN an (h 0) ν2 ++ (r))) K (ct_X5_isHighTide hl hc.symm) cs_X5_52 ⟨rfl, rfl, rfl⟩ (dk_of tX5_strandedOf 5 rfl) rfl rfl rfl rfl rfl rfl ?_
  refine r_if_eq 10 32 K (dk_of tX5_strandedOf 6 rfl) (by decide) hR (fun hR => ?_) (fun hR => ?_)
  · exact b32 p1 x1 ν2 hR
  · refine r_aload_n 13 0 K (dk_of tX5_strandedOf 7 rfl) rfl rfl ?_
    refine r_getf (C := RX5) (T := TX5) (N := 5) 14 26 0 K (dk_of tX5_strandedOf 8 rfl) w249 gwX5 rfl rfl (by decide) rfl ?_
    refine r_getf (C := RX0) (T := TX0) (N := 9) 17 0 0 K (dk_of tX5_strandedOf 9 rfl) w203 gwX0 rfl rfl (by decide) rfl ?_
    refine r_iload_n 20 1 K (dk_of tX5_strandedOf 10 rfl) rfl rfl ?_
    obtain ⟨x12, hc, hR⟩ := o1 hR
    refine r_cVi 21 1 [.int p1] [] x12 (wB γ h σ ++ (wN an (h 0) ν2 ++ (r))) K (ct_X2_lowestWaterBeside hl hc.symm) cs_X5_62 ⟨rfl, rfl, rfl⟩ (dk_of tX5_strandedOf 11 rfl) rfl rfl rfl rfl rfl rfl ?_
    refine r_iconst 24 (-1) K (dk_of tX5_strandedOf 12 rfl) (by decide) ?_
    refine r_ic_eq 25 32 K (dk_of tX5_strandedOf 13 rfl) (by decide) hR (fun hR => ?_) (fun hR => ?_)
    · exact b32 p1 x1 ν2 hR
    · refine r_iconst 28 (1 : Int32) K (dk_of tX5_strandedOf 14 rfl) (by decide) ?_
      refine r_goto 29 33 K (dk_of tX5_strandedOf 15 rfl) (by decide) ?_
      exact b33 p1 x1 (1 : Int32) ν2 hR

def sp_X7_isAgainst_111 (σ : St) (y4 : Int32) : Option (Int32) := b1 (sp_X0_hasLeakedWithin y4 σ) (fun (x5 : Int32) => if x5 = 0 then (some (1 : Int32)) else (some (0 : Int32)))
def sp_X7_isAgainst_200 (σ : St) (y6 : Int32) (y7 : Int32) : Option (Int32) := b1 (sp_X2_isKindBeside y6 y7 (3 : Int32) σ) (fun (x8 : Int32) => if x8 = 0 ∨ x8 = 1 then some x8 else none)
def sp_X7_isAgainst_9 (σ : St) (y1 : Int32) (y2 : Int32) (y3 : Int32) : Option (Int32) := if y1 = 1 then (if y3 = 0 then (if y2 < 0 ∨ 24 ≤ y2.toNatClampNeg then none else (if (100 : Int32) ≤ (σ 4 y2.toNatClampNeg) then (some (0 : Int32)) else (some (1 : Int32)))) else (if y2 < 0 ∨ 24 ≤ y2.toNatClampNeg then none else (if (10 : Int32) ≤ (σ 3 y2.toNatClampNeg) then (some (0 : Int32)) else (some (1 : Int32))))) else (if y1 = 2 then (if y3 = 0 then (sp_X7_isAgainst_111 σ (24 : Int32)) else (sp_X7_isAgainst_111 σ (72 : Int32))) else (if y1 = 3 then (if y2 < 0 ∨ 24 ≤ y2.toNatClampNeg then none else (if y2 < 0 ∨ 24 ≤ y2.toNatClampNeg then none else (if (σ 5 y2.toNatClampNeg) ≤ (σ 4 y2.toNatClampNeg) then (some (0 : Int32)) else (some (1 : Int32))))) else (if y1 = 4 then (if y3 = 0 then (if (σ 0 6) ≤ (5 : Int32) then (some (0 : Int32)) else (some (1 : Int32))) else (if (2 : Int32) ≤ (σ 0 6) then (some (0 : Int32)) else (some (1 : Int32)))) else (if y3 = 0 then (sp_X7_isAgainst_200 σ y2 (1 : Int32)) else (sp_X7_isAgainst_200 σ y2 (3 : Int32))))))
def sp_X7_isAgainst (p1 : Int32) (p2 : Int32) (p3 : Int32) (σ : St) : Option (Int32) := if p3 = 0 then (sp_X7_isAgainst_9 σ p1 p2 (1 : Int32)) else (sp_X7_isAgainst_9 σ p1 p2 (0 : Int32))
set_option maxHeartbeats 4000000 in
set_option maxRecDepth 100000 in
theorem ct_X7_isAgainst {l : Launch} (hl : l.stackTraces = false) {γ : Gd} {h : Nat → Nat} {aq : Nat} {σ : St} {r : va_W} {p1 : Int32} {p2 : Int32} {p3 : Int32} {x0 : Int32} (hR : some x0 = sp_X7_isAgainst p1 p2 p3 σ) : Ct l γ yX7_isAgainst (Cond.code yX7_isAgainst cX7_isAgainst 6 (some .boolean)) ({ frames := 2, cells := 0, slots := 0, locals := 48 } : Room) [.ref aq, .int p1, .int p2, .int p3] (wB γ h σ ++ (wR aq (h 0) ++ (r))) (Pr (some (.int x0)) (wB γ h σ ++ (wR aq (h 0) ++ (r)))) 0 0 := by
  refine Ct_of hl (by decide +kernel) rfl (Nat.le_of_ble_eq_true rfl) (L := [some (.ref aq), some (.int p1), some (.int p2), some (.int p3), none, none]) rfl ?_
  intro X Q K hQ
  generalize ((wB γ h σ ++ (wR aq (h 0) ++ (r)), Q) : MX) = M at K hQ ⊢
  unfold sp_X7_isAgainst at hR
  have b111 : ∀ (y4 : Int32), some x0 = sp_X7_isAgainst_111 σ y4 → V l γ X M (wB γ h σ ++ (wR aq (h 0) ++ (r))) [none, none, none, none, none, none] 0 0 111 [.int y4, .ref (h 0)] := by
    intro  y4 hR
    unfold sp_X7_isAgainst_111 at hR
    obtain ⟨x5, hc, hR⟩ := o1 hR
    refine r_cVi 111 0 [.int y4] [] x5 (wB γ h σ ++ (wR aq (h 0) ++ (r))) K (ct_X0_hasLeakedWithin hl hc.symm) cs_X7_30 ⟨rfl, rfl, rfl⟩ (dk_of tX7_isAgainst 41 rfl) rfl rfl rfl rfl rfl rfl ?_
    refine r_if_ne 114 121 K (dk_of tX7_isAgainst 42 rfl) (by decide) hR (fun hR => ?_) (fun hR => ?_)
    · refine r_iconst 117 (1 : Int32) K (dk_of tX7_isAgainst 43 rfl) (by decide) ?_
      refine r_goto 118 122 K (dk_of tX7_isAgainst 44 rfl) (by decide) ?_
      exact r_zret 122 K hQ (dk_of tX7_isAgainst 46 rfl) zb1 (Nat.zero_le _) (Nat.zero_le _) (lfi0 hR)
    · refine r_iconst 121 (0 : Int32) K (dk_of tX7_isAgainst 45 rfl) (by decide) ?_
      exact r_zret 122 K hQ (dk_of tX7_isAgainst 46 rfl) zb0 (Nat.zero_le _) (Nat.zero_le _) (lfi0 hR)
  have b200 : ∀ (y6 : Int32) (y7 : Int32), some x0 = sp_X7_isAgainst_200 σ y6 y7 → V l γ X M (wB γ h σ ++ (wR aq (h 0) ++ (r))) [none, none, none, none, none, none] 0 0 200 [.int y7, .int y6, .ref (h 1)] := by
    intro  y6 y7 hR
    unfold sp_X7_isAgainst_200 at hR
    refine r_iconst 200 (3 : Int32) K (dk_of tX7_isAgainst 87 rfl) (by decide) ?_
    obtain ⟨x8, hc, hR⟩ := o1 hR
    refine r_cVi 201 1 [.int y6, .int y7, .int (3 : Int32)] [] x8 (wB γ h σ ++ (wR aq (h 0) ++ (r))) K (ct_X2_isKindBeside hl hc.symm) cs_X7_41 ⟨rfl, rfl, rfl⟩ (dk_of tX7_isAgainst 88 rfl) rfl rfl rfl rfl rfl rfl ?_
    exact r_zretR 204 K hQ (dk_of tX7_isAgainst 89 rfl) (Nat.zero_le _) (Nat.zero_le _) hR (fun hR => lfi0 hR)
  have b9 : ∀ (y1 : Int32) (y2 : Int32) (y3 : Int32), some x0 = sp_X7_isAgainst_9 σ y1 y2 y3 → V l γ X M (wB γ h σ ++ (wR aq (h 0) ++ (r))) [some (.ref aq), some (.int y1), some (.int y2), none, none, none] 0 0 9 [.int y3] := by
    intro  y1 y2 y3 hR
    unfold sp_X7_isAgainst_9 at hR
    refine r_istore 9 4 [some (.ref aq), some (.int y1), some (.int y2), none, some (.int y3), none] K (dk_of tX7_isAgainst 5 rfl) rfl rfl (by decide) ?_
    refine r_aload_n 11 0 K (dk_of tX7_isAgainst 6 rfl) rfl rfl ?_
    refine r_getf (C := RX7) (T := TX7) (N := 1) 12 26 0 K (dk_of tX7_isAgainst 7 rfl) w271 gwX7 rfl rfl (by decide) rfl ?_
    refine r_getf (C := RX0) (T := TX0) (N := 9) 15 0 0 K (dk_of tX7_isAgainst 8 rfl) w201 gwX0 rfl rfl (by decide) rfl ?_
    refine r_astore 18 5 [some (.ref aq), some (.int y1), some (.int y2), none, some (.int y3), some (.ref (h 1))] K (dk_of tX7_isAgainst 9 rfl) rfl rfl (by decide) ?_
    refine r_iload_n 20 1 K (dk_of tX7_isAgainst 10 rfl) rfl rfl ?_
    refine r_case hR (fun c21_1 hR => ?_) (fun c21_1 hR => ?_)
    · refine r_tswIn 21 52 K (v := 1) c21_1 (dk_of tX7_isAgainst 11 rfl) (by decide) (by decide) rfl (by decide) ?_
      refine r_iload 52 4 K (dk_of tX7_isAgainst 12 rfl) rfl ?_
      refine r_if_eq 54 77 K (dk_of tX7_isAgainst 13 rfl) (by decide) hR (fun hR => ?_) (fun hR => ?_)
      · refine r_aload 77 5 K (dk_of tX7_isAgainst 24 rfl) rfl ?_
        refine r_getf (C := RX2) (T := TX2) (N := 8) 79 1 2 K (dk_of tX7_isAgainst 25 rfl) w50 gwX2 rfl rfl (by decide) rfl ?_
        refine r_iload_n 82 2 K (dk_of tX7_isAgainst 26 rfl) rfl rfl ?_
        refine r_ialdR 83 4 K (dk_of tX7_isAgainst 27 rfl) rfl hR (fun hR => ?_)
        refine r_bipush 84 (100 : Int32) K (dk_of tX7_isAgainst 28 rfl) (by decide) ?_
        refine r_ic_ge 86 93 K (dk_of tX7_isAgainst 29 rfl) (by decide) hR (fun hR => ?_) (fun hR => ?_)
        · refine r_iconst 93 (0 : Int32) K (dk_of tX7_isAgainst 32 rfl) (by decide) ?_
          exact r_zret 94 K hQ (dk_of tX7_isAgainst 33 rfl) zb0 (Nat.zero_le _) (Nat.zero_le _) (lfi0 hR)
        · refine r_iconst 89 (1 : Int32) K (dk_of tX7_isAgainst 30 rfl) (by decide) ?_
          refine r_goto 90 94 K (dk_of tX7_isAgainst 31 rfl) (by decide) ?_
          exact r_zret 94 K hQ (dk_of tX7_isAgainst 33 rfl) zb1 (Nat.zero_le _) (Nat.zero_le _) (lfi0 hR)
      · refine r_aload 57 5 K (dk_of tX7_isAgainst 14 rfl) rfl ?_
        refine r_getf (C := RX2) (T := TX2) (N := 8) 59 1 1 K (dk_of tX7_isAgainst 15 rfl) w47 gwX2 rfl rfl (by decide) rfl ?_
        refine r_iload_n 62 2 K (dk_of tX7_isAgainst 16 rfl) rfl rfl ?_
        refine r_ialdR 63 3 K (dk_of tX7_isAgainst 17 rfl) rfl hR (fun hR => ?_)
        refine r_bipush 64 (10 : Int32) K (dk_of tX7_isAgainst 18 rfl) (by decide) ?_
        refine r_ic_ge 66 73 K (dk_of tX7_isAgainst 19 rfl) (by decide) hR (fun hR => ?_) (fun hR => ?_)
        · refine r_iconst 73 (0 : Int32) K (dk_of tX7_isAgainst 22 rfl) (by decide) ?_
          refine r_goto 74 94 K (dk_of tX7_isAgainst 23 rfl) (by decide) ?_
          exact r_zret 94 K hQ (dk_of tX7_isAgainst 33 rfl) zb0 (Nat.zero_le _) (Nat.zero_le _) (lfi0 hR)
        · refine r_iconst 69 (1 : Int32) K (dk_of tX7_isAgainst 20 rfl) (by decide) ?_
          refine r_goto 70 94 K (dk_of tX7_isAgainst 21 rfl) (by decide) ?_
          exact r_zret 94 K hQ (dk_of tX7_isAgainst 33 rfl) zb1 (Nat.zero_le _) (Nat.zero_le _) (lfi0 hR)
    · refine r_case hR (fun c21_2 hR => ?_) (fun c21_2 hR => ?_)
      · refine r_tswIn 21 95 K (v := 2) c21_2 (dk_of tX7_isAgainst 11 rfl) (by decide) (by decide) rfl (by decide) ?_
        refine r_aload_n 95 0 K (dk_of tX7_isAgainst 34 rfl) rfl rfl ?_
        refine r_getf (C := RX7) (T := TX7) (N := 1) 96 26 0 K (dk_of tX7_isAgainst 35 rfl) w271 gwX7 rfl rfl (by decide) rfl ?_
        refine r_iload 99 4 K (dk_of tX7_isAgainst 36 rfl) rfl ?_
        refine r_if_eq 101 109 K (dk_of tX7_isAgainst 37 rfl) (by decide) hR (fun hR => ?_) (fun hR => ?_)
        · refine r_bipush 109 (24 : Int32) K (dk_of tX7_isAgainst 40 rfl) (by decide) ?_
          exact r_msk [false, false, false, true, false, false] [none, none, none, none, none, none] rfl (b111 (24 : Int32) hR)
        · refine r_bipush 104 (72 : Int32) K (dk_of tX7_isAgainst 38 rfl) (by decide) ?_
          refine r_goto 106 111 K (dk_of tX7_isAgainst 39 rfl) (by decide) ?_
          exact r_msk [false, false, false, true, false, false] [none, none, none, none, none, none] rfl (b111 (72 : Int32) hR)
      · refine r_case hR (fun c21_3 hR => ?_) (fun c21_3 hR => ?_)
        · refine r_tswIn 21 123 K (v := 3) c21_3 (dk_of tX7_isAgainst 11 rfl) (by decide) (by decide) rfl (by decide) ?_
          refine r_aload 123 5 K (dk_of tX7_isAgainst 47 rfl) rfl ?_
          refine r_getf (C := RX2) (T := TX2) (N := 8) 125 1 3 K (dk_of tX7_isAgainst 48 rfl) w55 gwX2 rfl rfl (by decide) rfl ?_
          refine r_iload_n 128 2 K (dk_of tX7_isAgainst 49 rfl) rfl rfl ?_
          refine r_ialdR 129 5 K (dk_of tX7_isAgainst 50 rfl) rfl hR (fun hR => ?_)
          refine r_aload 130 5 K (dk_of tX7_isAgainst 51 rfl) rfl ?_
          refine r_getf (C := RX2) (T := TX2) (N := 8) 132 1 2 K (dk_of tX7_isAgainst 52 rfl) w50 gwX2 rfl rfl (by decide) rfl ?_
          refine r_iload_n 135 2 K (dk_of tX7_isAgainst 53 rfl) rfl rfl ?_
          refine r_ialdR 136 4 K (dk_of tX7_isAgainst 54 rfl) rfl hR (fun hR => ?_)
          refine r_ic_le 137 144 K (dk_of tX7_isAgainst 55 rfl) (by decide) hR (fun hR => ?_) (fun hR => ?_)
          · refine r_iconst 144 (0 : Int32) K (dk_of tX7_isAgainst 58 rfl) (by decide) ?_
            exact r_zret 145 K hQ (dk_of tX7_isAgainst 59 rfl) zb0 (Nat.zero_le _) (Nat.zero_le _) (lfi0 hR)
          · refine r_iconst 140 (1 : Int32) K (dk_of tX7_isAgainst 56 rfl) (by decide) ?_
            refine r_goto 141 145 K (dk_of tX7_isAgainst 57 rfl) (by decide) ?_
            exact r_zret 145 K hQ (dk_of tX7_isAgainst 59 rfl) zb1 (Nat.zero_le _) (Nat.zero_le _) (lfi0 hR)
        · refine r_case hR (fun c21_4 hR => ?_) (fun c21_4 hR => ?_)
          · refine r_tswIn 21 146 K (v := 4) c21_4 (dk_of tX7_isAgainst 11 rfl) (by decide) (by decide) rfl (by decide) ?_
            refine r_iload 146 4 K (dk_of tX7_isAgainst 60 rfl) rfl ?_
            refine r_if_eq 148 170 K (dk_of tX7_isAgainst 61 rfl) (by decide) hR (fun hR => ?_) (fun hR => ?_)
            · refine r_aload_n 170 0 K (dk_of tX7_isAgainst 71 rfl) rfl rfl ?_
              refine r_getf (C := RX7) (T := TX7) (N := 1) 171 26 0 K (dk_of tX7_isAgainst 72 rfl) w271 gwX7 rfl rfl (by decide) rfl ?_
              refine r_getf (C := RX0) (T := TX0) (N := 9) 174 0 6 K (dk_of tX7_isAgainst 73 rfl) w219 gwX0 rfl rfl (by decide) rfl ?_
              refine r_iconst 177 (5 : Int32) K (dk_of tX7_isAgainst 74 rfl) (by decide) ?_
              refine r_ic_le 178 185 K (dk_of tX7_isAgainst 75 rfl) (by decide) hR (fun hR => ?_) (fun hR => ?_)
              · refine r_iconst 185 (0 : Int32) K (dk_of tX7_isAgainst 78 rfl) (by decide) ?_
                exact r_zret 186 K hQ (dk_of tX7_isAgainst 79 rfl) zb0 (Nat.zero_le _) (Nat.zero_le _) (lfi0 hR)
              · refine r_iconst 181 (1 : Int32) K (dk_of tX7_isAgainst 76 rfl) (by decide) ?_
                refine r_goto 182 186 K (dk_of tX7_isAgainst 77 rfl) (by decide) ?_
                exact r_zret 186 K hQ (dk_of tX7_isAgainst 79 rfl) zb1 (Nat.zero_le _) (Nat.zero_le _) (lfi0 hR)
            · refine r_aload_n 151 0 K (dk_of tX7_isAgainst 62 rfl) rfl rfl ?_
              refine r_getf (C := RX7) (T := TX7) (N := 1) 152 26 0 K (dk_of tX7_isAgainst 63 rfl) w271 gwX7 rfl rfl (by decide) rfl ?_
              refine r_getf (C := RX0) (T := TX0) (N := 9) 155 0 6 K (dk_of tX7_isAgainst 64 rfl) w219 gwX0 rfl rfl (by decide) rfl ?_
              refine r_iconst 158 (2 : Int32) K (dk_of tX7_isAgainst 65 rfl) (by decide) ?_
              refine r_ic_ge 159 166 K (dk_of tX7_isAgainst 66 rfl) (by decide) hR (fun hR => ?_) (fun hR => ?_)
              · refine r_iconst 166 (0 : Int32) K (dk_of tX7_isAgainst 69 rfl) (by decide) ?_
                refine r_goto 167 186 K (dk_of tX7_isAgainst 70 rfl) (by decide) ?_
                exact r_zret 186 K hQ (dk_of tX7_isAgainst 79 rfl) zb0 (Nat.zero_le _) (Nat.zero_le _) (lfi0 hR)
              · refine r_iconst 162 (1 : Int32) K (dk_of tX7_isAgainst 67 rfl) (by decide) ?_
                refine r_goto 163 186 K (dk_of tX7_isAgainst 68 rfl) (by decide) ?_
                exact r_zret 186 K hQ (dk_of tX7_isAgainst 79 rfl) zb1 (Nat.zero_le _) (Nat.zero_le _) (lfi0 hR)
          · refine r_tswOut 21 187 K (dk_of tX7_isAgainst 11 rfl) (by have e0 := i32_ne (1) c21_1 (by decide); have e1 := i32_ne (2) c21_2 (by decide); have e2 := i32_ne (3) c21_3 (by decide); have e3 := i32_ne (4) c21_4 (by decide); omega) (by decide) ?_
            refine r_aload 187 5 K (dk_of tX7_isAgainst 80 rfl) rfl ?_
            refine r_iload_n 189 2 K (dk_of tX7_isAgainst 81 rfl) rfl rfl ?_
            refine r_iload 190 4 K (dk_of tX7_isAgainst 82 rfl) rfl ?_
            refine r_if_eq 192 199 K (dk_of tX7_isAgainst 83 rfl) (by decide) hR (fun hR => ?_) (fun hR => ?_)
            · refine r_iconst 199 (1 : Int32) K (dk_of tX7_isAgainst 86 rfl) (by decide) ?_
              exact r_msk [false, false, false, true, false, false] [none, none, none, none, none, none] rfl (b200 y2 (1 : Int32) hR)
            · refine r_iconst 195 (3 : Int32) K (dk_of tX7_isAgainst 84 rfl) (by decide) ?_
              refine r_goto 196 200 K (dk_of tX7_isAgainst 85 rfl) (by decide) ?_
              exact r_msk [false, false, false, true, false, false] [none, none, none, none, none, none] rfl (b200 y2 (3 : Int32) hR)
  refine r_iload_n 0 3 K (dk_of tX7_isAgainst 0 rfl) rfl rfl ?_
  refine r_if_ne 1 8 K (dk_of tX7_isAgainst 1 rfl) (by decide) hR (fun hR => ?_) (fun hR => ?_)
  · refine r_iconst 4 (1 : Int32) K (dk_of tX7_isAgainst 2 rfl) (by decide) ?_
    refine r_goto 5 9 K (dk_of tX7_isAgainst 3 rfl) (by decide) ?_
    exact r_msk [true, true, true, false, true, true] [some (.ref aq), some (.int p1), some (.int p2), none, none, none] rfl (b9 p1 p2 (1 : Int32) hR)
  · refine r_iconst 8 (0 : Int32) K (dk_of tX7_isAgainst 4 rfl) (by decide) ?_
    exact r_msk [true, true, true, false, true, true] [some (.ref aq), some (.int p1), some (.int p2), none, none, none] rfl (b9 p1 p2 (0 : Int32) hR)

def sp_X7_howMany_5 (σ : St) (y1 : Int32) (y2 : Int32) : Nat → Int32 → Int32 → Option (Int32)
  | 0, _, _ => none
  | n + 1, y3, y4 => if (5 : Int32) < y4 then (some y3) else (b1 (sp_X7_isAgainst y4 y1 y2 σ) (fun (x5 : Int32) => if x5 = 0 then (sp_X7_howMany_5 σ y1 y2 n y3 (y4 + 1)) else (sp_X7_howMany_5 σ y1 y2 n (y3 + 1) (y4 + 1))))
def sp_X7_howMany (p1 : Int32) (p2 : Int32) (σ : St) : Option (Int32) := sp_X7_howMany_5 σ p1 p2 200 (0 : Int32) (1 : Int32)
set_option maxHeartbeats 4000000 in
set_option maxRecDepth 100000 in
theorem ct_X7_howMany {l : Launch} (hl : l.stackTraces = false) {γ : Gd} {h : Nat → Nat} {aq : Nat} {σ : St} {r : va_W} {p1 : Int32} {p2 : Int32} {x0 : Int32} (hR : some x0 = sp_X7_howMany p1 p2 σ) : Ct l γ yX7_howMany (Cond.code yX7_howMany cX7_howMany 5 (some .int)) ({ frames := 3, cells := 0, slots := 0, locals := 73 } : Room) [.ref aq, .int p1, .int p2] (wB γ h σ ++ (wR aq (h 0) ++ (r))) (Pr (some (.int x0)) (wB γ h σ ++ (wR aq (h 0) ++ (r)))) 0 0 := by
  refine Ct_of hl (by decide +kernel) rfl (Nat.le_of_ble_eq_true rfl) (L := [some (.ref aq), some (.int p1), some (.int p2), none, none]) rfl ?_
  intro X Q K hQ
  generalize ((wB γ h σ ++ (wR aq (h 0) ++ (r)), Q) : MX) = M at K hQ ⊢
  unfold sp_X7_howMany at hR
  have b5 : ∀ (y1 : Int32) (y2 : Int32) (n : Nat) (y3 : Int32) (y4 : Int32), some x0 = sp_X7_howMany_5 σ y1 y2 n y3 y4 → V l γ X M (wB γ h σ ++ (wR aq (h 0) ++ (r))) [some (.ref aq), some (.int y1), some (.int y2), some (.int y3), some (.int y4)] 0 0 5 [] := by
    intro y1 y2 n
    induction n with
    | zero => intro y3 y4 hR; exact nn_ hR
    | succ n ih5 =>
      intro y3 y4 hR
      rw [sp_X7_howMany_5] at hR
      refine r_iload 5 4 K (dk_of tX7_howMany 4 rfl) rfl ?_
      refine r_iconst 7 (5 : Int32) K (dk_of tX7_howMany 5 rfl) (by decide) ?_
      refine r_ic_gt 8 31 K (dk_of tX7_howMany 6 rfl) (by decide) hR (fun hR => ?_) (fun hR => ?_)
      · refine r_iload_n 31 3 K (dk_of tX7_howMany 16 rfl) rfl rfl ?_
        exact r_iret 32 K hQ (dk_of tX7_howMany 17 rfl) (Nat.zero_le _) (Nat.zero_le _) (lfi0 hR)
      · refine r_aload_n 11 0 K (dk_of tX7_howMany 7 rfl) rfl rfl ?_
        refine r_iload 12 4 K (dk_of tX7_howMany 8 rfl) rfl ?_
        refine r_iload_n 14 1 K (dk_of tX7_howMany 9 rfl) rfl rfl ?_
        refine r_iload_n 15 2 K (dk_of tX7_howMany 10 rfl) rfl rfl ?_
        obtain ⟨x5, hc, hR⟩ := o1 hR
        refine r_cVi 16 26 [.int y4, .int y1, .int y2] [] x5 (wB γ h σ ++ (wR aq (h 0) ++ (r))) K (ct_X7_isAgainst hl hc.symm) cs_X7_45 ⟨rfl, rfl, rfl⟩ (dk_of tX7_howMany 11 rfl) rfl rfl rfl rfl rfl rfl ?_
        refine r_if_eq 19 25 K (dk_of tX7_howMany 12 rfl) (by decide) hR (fun hR => ?_) (fun hR => ?_)
        · refine r_iinc 25 4 (y4 + 1) [some (.ref aq), some (.int y1), some (.int y2), some (.int y3), some (.int (y4 + 1))] K (dk_of tX7_howMany 14 rfl) rfl rfl rfl rfl (by decide) ?_
          refine r_goto 28 5 K (dk_of tX7_howMany 15 rfl) (by decide) ?_
          exact ih5 y3 (y4 + 1) hR
        · refine r_iinc 22 3 (y3 + 1) [some (.ref aq), some (.int y1), some (.int y2), some (.int (y3 + 1)), some (.int y4)] K (dk_of tX7_howMany 13 rfl) rfl rfl rfl rfl (by decide) ?_
          refine r_iinc 25 4 (y4 + 1) [some (.ref aq), some (.int y1), some (.int y2), some (.int (y3 + 1)), some (.int (y4 + 1))] K (dk_of tX7_howMany 14 rfl) rfl rfl rfl rfl (by decide) ?_
          refine r_goto 28 5 K (dk_of tX7_howMany 15 rfl) (by decide) ?_
          exact ih5 (y3 + 1) (y4 + 1) hR
  refine r_iconst 0 (0 : Int32) K (dk_of tX7_howMany 0 rfl) (by decide) ?_
  refine r_istore_n 1 3 [some (.ref aq), some (.int p1), some (.int p2), some (.int (0 : Int32)), none] K (dk_of tX7_howMany 1 rfl) rfl rfl rfl (by decide) ?_
  refine r_iconst 2 (1 : Int32) K (dk_of tX7_howMany 2 rfl) (by decide) ?_
  refine r_istore 3 4 [some (.ref aq), some (.int p1), some (.int p2), some (.int (0 : Int32)), some (.int (1 : Int32))] K (dk_of tX7_howMany 3 rfl) rfl rfl (by decide) ?_
  exact b5 p1 p2 200 (0 : Int32) (1 : Int32) hR

def sp_X7_first_2 (σ : St) (y1 : Int32) (y2 : Int32) : Nat → Int32 → Option (Int32)
  | 0, _ => none
  | n + 1, y3 => if (5 : Int32) < y3 then (some (0 : Int32)) else (b1 (sp_X7_isAgainst y3 y1 y2 σ) (fun (x4 : Int32) => if x4 = 0 then (sp_X7_first_2 σ y1 y2 n (y3 + 1)) else (some y3)))
def sp_X7_first (p1 : Int32) (p2 : Int32) (σ : St) : Option (Int32) := sp_X7_first_2 σ p1 p2 200 (1 : Int32)
set_option maxHeartbeats 4000000 in
set_option maxRecDepth 100000 in
theorem ct_X7_first {l : Launch} (hl : l.stackTraces = false) {γ : Gd} {h : Nat → Nat} {aq : Nat} {σ : St} {r : va_W} {p1 : Int32} {p2 : Int32} {x0 : Int32} (hR : some x0 = sp_X7_first p1 p2 σ) : Ct l γ yX7_first (Cond.code yX7_first cX7_first 4 (some .int)) ({ frames := 3, cells := 0, slots := 0, locals := 73 } : Room) [.ref aq, .int p1, .int p2] (wB γ h σ ++ (wR aq (h 0) ++ (r))) (Pr (some (.int x0)) (wB γ h σ ++ (wR aq (h 0) ++ (r)))) 0 0 := by
  refine Ct_of hl (by decide +kernel) rfl (Nat.le_of_ble_eq_true rfl) (L := [some (.ref aq), some (.int p1), some (.int p2), none]) rfl ?_
  intro X Q K hQ
  generalize ((wB γ h σ ++ (wR aq (h 0) ++ (r)), Q) : MX) = M at K hQ ⊢
  unfold sp_X7_first at hR
  have b2 : ∀ (y1 : Int32) (y2 : Int32) (n : Nat) (y3 : Int32), some x0 = sp_X7_first_2 σ y1 y2 n y3 → V l γ X M (wB γ h σ ++ (wR aq (h 0) ++ (r))) [some (.ref aq), some (.int y1), some (.int y2), some (.int y3)] 0 0 2 [] := by
    intro y1 y2 n
    induction n with
    | zero => intro y3 hR; exact nn_ hR
    | succ n ih2 =>
      intro y3 hR
      rw [sp_X7_first_2] at hR
      refine r_iload_n 2 3 K (dk_of tX7_first 2 rfl) rfl rfl ?_
      refine r_iconst 3 (5 : Int32) K (dk_of tX7_first 3 rfl) (by decide) ?_
      refine r_ic_gt 4 25 K (dk_of tX7_first 4 rfl) (by decide) hR (fun hR => ?_) (fun hR => ?_)
      · refine r_iconst 25 (0 : Int32) K (dk_of tX7_first 15 rfl) (by decide) ?_
        exact r_iret 26 K hQ (dk_of tX7_first 16 rfl) (Nat.zero_le _) (Nat.zero_le _) (lfi0 hR)
      · refine r_aload_n 7 0 K (dk_of tX7_first 5 rfl) rfl rfl ?_
        refine r_iload_n 8 3 K (dk_of tX7_first 6 rfl) rfl rfl ?_
        refine r_iload_n 9 1 K (dk_of tX7_first 7 rfl) rfl rfl ?_
        refine r_iload_n 10 2 K (dk_of tX7_first 8 rfl) rfl rfl ?_
        obtain ⟨x4, hc, hR⟩ := o1 hR
        refine r_cVi 11 26 [.int y3, .int y1, .int y2] [] x4 (wB γ h σ ++ (wR aq (h 0) ++ (r))) K (ct_X7_isAgainst hl hc.symm) cs_X7_45 ⟨rfl, rfl, rfl⟩ (dk_of tX7_first 9 rfl) rfl rfl rfl rfl rfl rfl ?_
        refine r_if_eq 14 19 K (dk_of tX7_first 10 rfl) (by decide) hR (fun hR => ?_) (fun hR => ?_)
        · refine r_iinc 19 3 (y3 + 1) [some (.ref aq), some (.int y1), some (.int y2), some (.int (y3 + 1))] K (dk_of tX7_first 13 rfl) rfl rfl rfl rfl (by decide) ?_
          refine r_goto 22 2 K (dk_of tX7_first 14 rfl) (by decide) ?_
          exact ih2 (y3 + 1) hR
        · refine r_iload_n 17 3 K (dk_of tX7_first 11 rfl) rfl rfl ?_
          exact r_iret 18 K hQ (dk_of tX7_first 12 rfl) (Nat.zero_le _) (Nat.zero_le _) (lfi0 hR)
  refine r_iconst 0 (1 : Int32) K (dk_of tX7_first 0 rfl) (by decide) ?_
  refine r_istore_n 1 3 [some (.ref aq), some (.int p1), some (.int p2), some (.int (1 : Int32))] K (dk_of tX7_first 1 rfl) rfl rfl rfl (by decide) ?_
  exact b2 p1 p2 200 (1 : Int32) hR

def sp_X7_last_2 (σ : St) (y1 : Int32) (y2 : Int32) : Nat → Int32 → Option (Int32)
  | 0, _ => none
  | n + 1, y3 => if y3 < (1 : Int32) then (some (0 : Int32)) else (b1 (sp_X7_isAgainst y3 y1 y2 σ) (fun (x4 : Int32) => if x4 = 0 then (sp_X7_last_2 σ y1 y2 n (y3 + (-1))) else (some y3)))
def sp_X7_last (p1 : Int32) (p2 : Int32) (σ : St) : Option (Int32) := sp_X7_last_2 σ p1 p2 200 (5 : Int32)
set_option maxHeartbeats 4000000 in
set_option maxRecDepth 100000 in
theorem ct_X7_last {l : Launch} (hl : l.stackTraces = false) {γ : Gd} {h : Nat → Nat} {aq : Nat} {σ : St} {r : va_W} {p1 : Int32} {p2 : Int32} {x0 : Int32} (hR : some x0 = sp_X7_last p1 p2 σ) : Ct l γ yX7_last (Cond.code yX7_last cX7_last 4 (some .int)) ({ frames := 3, cells := 0, slots := 0, locals := 73 } : Room) [.ref aq, .int p1, .int p2] (wB γ h σ ++ (wR aq (h 0) ++ (r))) (Pr (some (.int x0)) (wB γ h σ ++ (wR aq (h 0) ++ (r)))) 0 0 := by
  refine Ct_of hl (by decide +kernel) rfl (Nat.le_of_ble_eq_true rfl) (L := [some (.ref aq), some (.int p1), some (.int p2), none]) rfl ?_
  intro X Q K hQ
  generalize ((wB γ h σ ++ (wR aq (h 0) ++ (r)), Q) : MX) = M at K hQ ⊢
  unfold sp_X7_last at hR
  have b2 : ∀ (y1 : Int32) (y2 : Int32) (n : Nat) (y3 : Int32), some x0 = sp_X7_last_2 σ y1 y2 n y3 → V l γ X M (wB γ h σ ++ (wR aq (h 0) ++ (r))) [some (.ref aq), some (.int y1), some (.int y2), some (.int y3)] 0 0 2 [] := by
    intro y1 y2 n
    induction n with
    | zero => intro y3 hR; exact nn_ hR
    | succ n ih2 =>
      intro y3 hR
      rw [sp_X7_last_2] at hR
      refine r_iload_n 2 3 K (dk_of tX7_last 2 rfl) rfl rfl ?_
      refine r_iconst 3 (1 : Int32) K (dk_of tX7_last 3 rfl) (by decide) ?_
      refine r_ic_lt 4 25 K (dk_of tX7_last 4 rfl) (by decide) hR (fun hR => ?_) (fun hR => ?_)
      · refine r_iconst 25 (0 : Int32) K (dk_of tX7_last 15 rfl) (by decide) ?_
        exact r_iret 26 K hQ (dk_of tX7_last 16 rfl) (Nat.zero_le _) (Nat.zero_le _) (lfi0 hR)
      · refine r_aload_n 7 0 K (dk_of tX7_last 5 rfl) rfl rfl ?_
        refine r_iload_n 8 3 K (dk_of tX7_last 6 rfl) rfl rfl ?_
        refine r_iload_n 9 1 K (dk_of tX7_last 7 rfl) rfl rfl ?_
        refine r_iload_n 10 2 K (dk_of tX7_last 8 rfl) rfl rfl ?_
        obtain ⟨x4, hc, hR⟩ := o1 hR
        refine r_cVi 11 26 [.int y3, .int y1, .int y2] [] x4 (wB γ h σ ++ (wR aq (h 0) ++ (r))) K (ct_X7_isAgainst hl hc.symm) cs_X7_45 ⟨rfl, rfl, rfl⟩ (dk_of tX7_last 9 rfl) rfl rfl rfl rfl rfl rfl ?_
        refine r_if_eq 14 19 K (dk_of tX7_last 10 rfl) (by decide) hR (fun hR => ?_) (fun hR => ?_)
        · refine r_iinc 19 3 (y3 + (-1)) [some (.ref aq), some (.int y1), some (.int y2), some (.int (y3 + (-1)))] K (dk_of tX7_last 13 rfl) rfl rfl rfl rfl (by decide) ?_
          refine r_goto 22 2 K (dk_of tX7_last 14 rfl) (by decide) ?_
          exact ih2 (y3 + (-1)) hR
        · refine r_iload_n 17 3 K (dk_of tX7_last 11 rfl) rfl rfl ?_
          exact r_iret 18 K hQ (dk_of tX7_last 12 rfl) (Nat.zero_le _) (Nat.zero_le _) (lfi0 hR)
  refine r_iconst 0 (5 : Int32) K (dk_of tX7_last 0 rfl) (by decide) ?_
  refine r_istore_n 1 3 [some (.ref aq), some (.int p1), some (.int p2), some (.int (5 : Int32))] K (dk_of tX7_last 1 rfl) rfl rfl rfl (by decide) ?_
  exact b2 p1 p2 200 (5 : Int32) hR

def sp_X3_allWaste  (δ : St) : Option (Int32) := some (((δ 1 (0 : Int32).toNatClampNeg) + (δ 1 (1 : Int32).toNatClampNeg)) + (δ 0 3))
set_option maxHeartbeats 4000000 in
set_option maxRecDepth 100000 in
theorem ct_X3_allWaste {l : Launch} (hl : l.stackTraces = false) {γ : Gd} {ad : Nat → Nat} {δ : St} {r : va_W}  {x0 : Int32} (hR : some x0 = sp_X3_allWaste δ) : Ct l γ yX3_allWaste (Cond.code yX3_allWaste cX3_allWaste 1 (some .int)) ({ frames := 0, cells := 0, slots := 0, locals := 0 } : Room) [.ref (ad 0)] (wD γ ad δ ++ (r)) (Pr (some (.int x0)) (wD γ ad δ ++ (r))) 0 0 := by
  refine Ct_of hl (by decide +kernel) rfl (Nat.le_of_ble_eq_true rfl) (L := [some (.ref (ad 0))]) rfl ?_
  intro X Q K hQ
  generalize ((wD γ ad δ ++ (r), Q) : MX) = M at K hQ ⊢
  unfold sp_X3_allWaste at hR
  refine r_aload_n 0 0 K (dk_of tX3_allWaste 0 rfl) rfl rfl ?_
  refine r_getf (C := RX3) (T := TX3) (N := 4) 1 0 1 K (dk_of tX3_allWaste 1 rfl) w281 gwX3 rfl rfl (by decide) rfl ?_
  refine r_iconst 4 (0 : Int32) K (dk_of tX3_allWaste 2 rfl) (by decide) ?_
  refine r_iald 5 1 K (dk_of tX3_allWaste 3 rfl) rfl (vpd (by decide)) ?_
  refine r_aload_n 6 0 K (dk_of tX3_allWaste 4 rfl) rfl rfl ?_
  refine r_getf (C := RX3) (T := TX3) (N := 4) 7 0 1 K (dk_of tX3_allWaste 5 rfl) w281 gwX3 rfl rfl (by decide) rfl ?_
  refine r_iconst 10 (1 : Int32) K (dk_of tX3_allWaste 6 rfl) (by decide) ?_
  refine r_iald 11 1 K (dk_of tX3_allWaste 7 rfl) rfl (vpd (by decide)) ?_
  refine r_iadd 12 K (dk_of tX3_allWaste 8 rfl) ?_
  refine r_aload_n 13 0 K (dk_of tX3_allWaste 9 rfl) rfl rfl ?_
  refine r_getf (C := RX3) (T := TX3) (N := 4) 14 0 3 K (dk_of tX3_allWaste 10 rfl) w284 gwX3 rfl rfl (by decide) rfl ?_
  refine r_iadd 17 K (dk_of tX3_allWaste 11 rfl) ?_
  exact r_iret 18 K hQ (dk_of tX3_allWaste 12 rfl) (Nat.zero_le _) (Nat.zero_le _) (lfi0 hR)

def sp_X6_add (p1 : Int32) (π : (St × Int64)) : Option (Int32 × (St × Int64)) := sl ((π.1 0 0)) (fun x1 : Int32 => if x1 < 0 ∨ 20 ≤ x1.toNatClampNeg then none else (sl ((stU π.1 1 x1.toNatClampNeg p1, π.2)) (fun π2 : (St × Int64) => sl ((π2.1, ((π2.2) + p1.toInt64))) (fun π3 : (St × Int64) => sl ((stU π3.1 0 0 ((π3.1 0 0) + (1 : Int32)), π3.2)) (fun π4 : (St × Int64) => some (x1, π4))))))
set_option maxHeartbeats 4000000 in
set_option maxRecDepth 100000 in
theorem ct_X6_add {l : Launch} (hl : l.stackTraces = false) {γ : Gd} {ap : Nat → Nat} {π : (St × Int64)} {r : va_W} {p1 : Int32} {x0 : Int32} {π0 : (St × Int64)} (hR : some (x0, π0) = sp_X6_add p1 π) : Ct l γ yX6_add (Cond.code yX6_add cX6_add 3 (some .int)) ({ frames := 0, cells := 0, slots := 0, locals := 0 } : Room) [.ref (ap 0), .int p1] (wP γ ap π ++ (r)) (Pr (some (.int x0)) (wP γ ap π0 ++ (r))) 0 0 := by
  refine Ct_of hl (by decide +kernel) rfl (Nat.le_of_ble_eq_true rfl) (L := [some (.ref (ap 0)), some (.int p1), none]) rfl ?_
  intro X Q K hQ
  generalize ((wP γ ap π ++ (r), Q) : MX) = M at K hQ ⊢
  unfold sp_X6_add at hR
  refine r_aload_n 0 0 K (dk_of tX6_add 0 rfl) rfl rfl ?_
  refine r_getf (C := RX6) (T := TX6) (N := 5) 1 0 0 K (dk_of tX6_add 1 rfl) w300 gwX6 rfl rfl (by decide) rfl ?_
  refine r_nmI hR (fun x1 hR => ?_)
  refine r_istore_n 4 2 [some (.ref (ap 0)), some (.int p1), some (.int x1)] K (dk_of tX6_add 2 rfl) rfl rfl rfl (by decide) ?_
  refine r_aload_n 5 0 K (dk_of tX6_add 3 rfl) rfl rfl ?_
  refine r_getf (C := RX6) (T := TX6) (N := 5) 6 0 4 K (dk_of tX6_add 4 rfl) w307 gwX6 rfl rfl (by decide) rfl ?_
  refine r_iload_n 9 2 K (dk_of tX6_add 5 rfl) rfl rfl ?_
  refine r_iload_n 10 1 K (dk_of tX6_add 6 rfl) rfl rfl ?_
  refine r_iastR 11 1 K (dk_of tX6_add 7 rfl) rfl sP_1 hR (fun hR => ?_)
  refine r_nmS (fun π2 : (St × Int64) => wP γ ap π2 ++ (r)) hR (fun π2 hR => ?_)
  refine r_aload_n 12 0 K (dk_of tX6_add 8 rfl) rfl rfl ?_
  refine r_dup 13 K (dk_of tX6_add 9 rfl) rfl ?_
  refine r_getf (C := RX6) (T := TX6) (N := 5) 14 0 3 K (dk_of tX6_add 10 rfl) w306 gwX6 rfl rfl (by decide) rfl ?_
  refine r_iload_n 17 1 K (dk_of tX6_add 11 rfl) rfl rfl ?_
  refine r_i2l 18 K (dk_of tX6_add 12 rfl) ?_
  refine r_ladd 19 K (dk_of tX6_add 13 rfl) ?_
  refine r_putf (C := RX6) (T := TX6) (N := 5) 20 0 3 K (dk_of tX6_add 14 rfl) w306 gwX6 tyX6_ok nmX6 rfl rfl (by decide) rfl rfl rfl rfl (Nat.le_of_ble_eq_true rfl) sP_0_3 ?_
  refine r_nmS (fun π3 : (St × Int64) => wP γ ap π3 ++ (r)) hR (fun π3 hR => ?_)
  refine r_aload_n 23 0 K (dk_of tX6_add 15 rfl) rfl rfl ?_
  refine r_dup 24 K (dk_of tX6_add 16 rfl) rfl ?_
  refine r_getf (C := RX6) (T := TX6) (N := 5) 25 0 0 K (dk_of tX6_add 17 rfl) w300 gwX6 rfl rfl (by decide) rfl ?_
  refine r_iconst 28 (1 : Int32) K (dk_of tX6_add 18 rfl) (by decide) ?_
  refine r_iadd 29 K (dk_of tX6_add 19 rfl) ?_
  refine r_putf (C := RX6) (T := TX6) (N := 5) 30 0 0 K (dk_of tX6_add 20 rfl) w300 gwX6 tyX6_ok nmX6 rfl rfl (by decide) rfl rfl rfl rfl (Nat.le_of_ble_eq_true rfl) sP_0_0 ?_
  refine r_nmS (fun π4 : (St × Int64) => wP γ ap π4 ++ (r)) hR (fun π4 hR => ?_)
  refine r_iload_n 33 2 K (dk_of tX6_add 21 rfl) rfl rfl ?_
  exact r_iret 34 K hQ (dk_of tX6_add 22 rfl) (Nat.zero_le _) (Nat.zero_le _) (lfi (fun u9 : (St × Int64) => wP γ ap u9 ++ (r)) hR)

def sp_X6_allGet  (π : (St × Int64)) : Option (Int64) := some (lMin (((π.1 0 1).toInt64) + ((π.1 0 2).toInt64)) (π.2))
set_option maxHeartbeats 4000000 in
set_option maxRecDepth 100000 in
theorem ct_X6_allGet {l : Launch} (hl : l.stackTraces = false) {γ : Gd} {ap : Nat → Nat} {π : (St × Int64)} {r : va_W}  {x0 : Int64} (hR : some x0 = sp_X6_allGet π) : Ct l γ yX6_allGet (Cond.code yX6_allGet cX6_allGet 1 (some .long)) ({ frames := 1, cells := 0, slots := 0, locals := 17 } : Room) [.ref (ap 0)] (wP γ ap π ++ (r)) (Pr (some (.long x0)) (wP γ ap π ++ (r))) 0 0 := by
  refine Ct_of hl (by decide +kernel) rfl (Nat.le_of_ble_eq_true rfl) (L := [some (.ref (ap 0))]) rfl ?_
  intro X Q K hQ
  generalize ((wP γ ap π ++ (r), Q) : MX) = M at K hQ ⊢
  unfold sp_X6_allGet at hR
  refine r_aload_n 0 0 K (dk_of tX6_allGet 0 rfl) rfl rfl ?_
  refine r_getf (C := RX6) (T := TX6) (N := 5) 1 0 1 K (dk_of tX6_allGet 1 rfl) w302 gwX6 rfl rfl (by decide) rfl ?_
  refine r_i2l 4 K (dk_of tX6_allGet 2 rfl) ?_
  refine r_aload_n 5 0 K (dk_of tX6_allGet 3 rfl) rfl rfl ?_
  refine r_getf (C := RX6) (T := TX6) (N := 5) 6 0 2 K (dk_of tX6_allGet 4 rfl) w304 gwX6 rfl rfl (by decide) rfl ?_
  refine r_i2l 9 K (dk_of tX6_allGet 5 rfl) ?_
  refine r_ladd 10 K (dk_of tX6_allGet 6 rfl) ?_
  refine r_aload_n 11 0 K (dk_of tX6_allGet 7 rfl) rfl rfl ?_
  refine r_getf (C := RX6) (T := TX6) (N := 5) 12 0 3 K (dk_of tX6_allGet 8 rfl) w306 gwX6 rfl rfl (by decide) rfl ?_
  refine r_minL 15 K w654 w655 w19 w656 (dk_of tX6_allGet 9 rfl) rfl ?_
  exact r_lret 18 K hQ (dk_of tX6_allGet 10 rfl) (Nat.zero_le _) (Nat.zero_le _) (lfl0 hR)

def sp_X6_getsOf (p1 : Int32) (π : (St × Int64)) : Option (Int64) := if (lg_cmp (π.2) (0 : Int64)) = 0 then (some (0 : Int64)) else (if p1 < 0 ∨ 20 ≤ p1.toNatClampNeg then none else (b1 (sp_X6_allGet π) (fun (x1 : Int64) => if (π.2) = 0 then none else (some ((((π.1 1 p1.toNatClampNeg).toInt64) * x1) / (π.2))))))
set_option maxHeartbeats 4000000 in
set_option maxRecDepth 100000 in
theorem ct_X6_getsOf {l : Launch} (hl : l.stackTraces = false) {γ : Gd} {ap : Nat → Nat} {π : (St × Int64)} {r : va_W} {p1 : Int32} {x0 : Int64} (hR : some x0 = sp_X6_getsOf p1 π) : Ct l γ yX6_getsOf (Cond.code yX6_getsOf cX6_getsOf 2 (some .long)) ({ frames := 2, cells := 0, slots := 0, locals := 37 } : Room) [.ref (ap 0), .int p1] (wP γ ap π ++ (r)) (Pr (some (.long x0)) (wP γ ap π ++ (r))) 0 0 := by
  refine Ct_of hl (by decide +kernel) rfl (Nat.le_of_ble_eq_true rfl) (L := [some (.ref (ap 0)), some (.int p1)]) rfl ?_
  intro X Q K hQ
  generalize ((wP γ ap π ++ (r), Q) : MX) = M at K hQ ⊢
  unfold sp_X6_getsOf at hR
  refine r_aload_n 0 0 K (dk_of tX6_getsOf 0 rfl) rfl rfl ?_
  refine r_getf (C := RX6) (T := TX6) (N := 5) 1 0 3 K (dk_of tX6_getsOf 1 rfl) w306 gwX6 rfl rfl (by decide) rfl ?_
  refine r_lconst 4 0 K (dk_of tX6_getsOf 2 rfl) (by decide) ?_
  refine r_lcmp 5 K (dk_of tX6_getsOf 3 rfl) ?_
  refine r_if_ne 6 13 K (dk_of tX6_getsOf 4 rfl) (by decide) hR (fun hR => ?_) (fun hR => ?_)
  · refine r_lconst 9 0 K (dk_of tX6_getsOf 5 rfl) (by decide) ?_
    refine r_goto 10 30 K (dk_of tX6_getsOf 6 rfl) (by decide) ?_
    exact r_lret 30 K hQ (dk_of tX6_getsOf 18 rfl) (Nat.zero_le _) (Nat.zero_le _) (lfl0 hR)
  · refine r_aload_n 13 0 K (dk_of tX6_getsOf 7 rfl) rfl rfl ?_
    refine r_getf (C := RX6) (T := TX6) (N := 5) 14 0 4 K (dk_of tX6_getsOf 8 rfl) w307 gwX6 rfl rfl (by decide) rfl ?_
    refine r_iload_n 17 1 K (dk_of tX6_getsOf 9 rfl) rfl rfl ?_
    refine r_ialdR 18 1 K (dk_of tX6_getsOf 10 rfl) rfl hR (fun hR => ?_)
    refine r_i2l 19 K (dk_of tX6_getsOf 11 rfl) ?_
    refine r_aload_n 20 0 K (dk_of tX6_getsOf 12 rfl) rfl rfl ?_
    obtain ⟨x1, hc, hR⟩ := o1 hR
    refine r_cVl 21 0 [] [.long ((π.1 1 p1.toNatClampNeg).toInt64)] x1 (wP γ ap π ++ (r)) K (ct_X6_allGet hl hc.symm) cs_X6_35 ⟨rfl, rfl, rfl⟩ (dk_of tX6_getsOf 13 rfl) rfl rfl rfl rfl rfl rfl ?_
    refine r_lmul 24 K (dk_of tX6_getsOf 14 rfl) ?_
    refine r_aload_n 25 0 K (dk_of tX6_getsOf 15 rfl) rfl rfl ?_
    refine r_getf (C := RX6) (T := TX6) (N := 5) 26 0 3 K (dk_of tX6_getsOf 16 rfl) w306 gwX6 rfl rfl (by decide) rfl ?_
    refine r_ldivR 29 K (dk_of tX6_getsOf 17 rfl) hR (fun hR => ?_)
    exact r_lret 30 K hQ (dk_of tX6_getsOf 18 rfl) (Nat.zero_le _) (Nat.zero_le _) (lfl0 hR)

def sp_X6_ownersPartOf (p1 : Int64) (π : (St × Int64)) : Option (Int64) := b1 (sp_X6_allGet π) (fun (x1 : Int64) => if (lg_cmp x1 (0 : Int64)) = 0 then (some (0 : Int64)) else (if x1 = 0 then none else (some ((p1 * (lMin ((π.1 0 1).toInt64) x1)) / x1))))
set_option maxHeartbeats 4000000 in
set_option maxRecDepth 100000 in
theorem ct_X6_ownersPartOf {l : Launch} (hl : l.stackTraces = false) {γ : Gd} {ap : Nat → Nat} {π : (St × Int64)} {r : va_W} {p1 : Int64} {x0 : Int64} (hR : some x0 = sp_X6_ownersPartOf p1 π) : Ct l γ yX6_ownersPartOf (Cond.code yX6_ownersPartOf cX6_ownersPartOf 5 (some .long)) ({ frames := 2, cells := 0, slots := 0, locals := 37 } : Room) [.ref (ap 0), .long p1] (wP γ ap π ++ (r)) (Pr (some (.long x0)) (wP γ ap π ++ (r))) 0 0 := by
  refine Ct_of hl (by decide +kernel) rfl (Nat.le_of_ble_eq_true rfl) (L := [some (.ref (ap 0)), some (.long p1), none, none, none]) rfl ?_
  intro X Q K hQ
  generalize ((wP γ ap π ++ (r), Q) : MX) = M at K hQ ⊢
  unfold sp_X6_ownersPartOf at hR
  refine r_aload_n 0 0 K (dk_of tX6_ownersPartOf 0 rfl) rfl rfl ?_
  obtain ⟨x1, hc, hR⟩ := o1 hR
  refine r_cVl 1 0 [] [] x1 (wP γ ap π ++ (r)) K (ct_X6_allGet hl hc.symm) cs_X6_35 ⟨rfl, rfl, rfl⟩ (dk_of tX6_ownersPartOf 1 rfl) rfl rfl rfl rfl rfl rfl ?_
  refine r_lstore_n 4 3 [some (.ref (ap 0)), some (.long p1), none, some (.long x1), none] K (dk_of tX6_ownersPartOf 2 rfl) rfl rfl rfl (by decide) ?_
  refine r_lload_n 5 3 K (dk_of tX6_ownersPartOf 3 rfl) rfl rfl ?_
  refine r_lconst 6 0 K (dk_of tX6_ownersPartOf 4 rfl) (by decide) ?_
  refine r_lcmp 7 K (dk_of tX6_ownersPartOf 5 rfl) ?_
  refine r_if_ne 8 15 K (dk_of tX6_ownersPartOf 6 rfl) (by decide) hR (fun hR => ?_) (fun hR => ?_)
  · refine r_lconst 11 0 K (dk_of tX6_ownersPartOf 7 rfl) (by decide) ?_
    refine r_goto 12 28 K (dk_of tX6_ownersPartOf 8 rfl) (by decide) ?_
    exact r_lret 28 K hQ (dk_of tX6_ownersPartOf 18 rfl) (Nat.zero_le _) (Nat.zero_le _) (lfl0 hR)
  · refine r_lload_n 15 1 K (dk_of tX6_ownersPartOf 9 rfl) rfl rfl ?_
    refine r_aload_n 16 0 K (dk_of tX6_ownersPartOf 10 rfl) rfl rfl ?_
    refine r_getf (C := RX6) (T := TX6) (N := 5) 17 0 1 K (dk_of tX6_ownersPartOf 11 rfl) w302 gwX6 rfl rfl (by decide) rfl ?_
    refine r_i2l 20 K (dk_of tX6_ownersPartOf 12 rfl) ?_
    refine r_lload_n 21 3 K (dk_of tX6_ownersPartOf 13 rfl) rfl rfl ?_
    refine r_minL 22 K w654 w655 w19 w656 (dk_of tX6_ownersPartOf 14 rfl) rfl ?_
    refine r_lmul 25 K (dk_of tX6_ownersPartOf 15 rfl) ?_
    refine r_lload_n 26 3 K (dk_of tX6_ownersPartOf 16 rfl) rfl rfl ?_
    refine r_ldivR 27 K (dk_of tX6_ownersPartOf 17 rfl) hR (fun hR => ?_)
    exact r_lret 28 K hQ (dk_of tX6_ownersPartOf 18 rfl) (Nat.zero_le _) (Nat.zero_le _) (lfl0 hR)
