def sp_X9_needNumber_9   : Option ((Unit) ⊕ Nat) := some (.inr 1)
def sp_X9_needNumber (p1 : Int32) (p2 : Int32)  : Option ((Unit) ⊕ Nat) := if p1 < 0 then (sp_X9_needNumber_9) else (if p1 < p2 then (some (.inl ())) else (sp_X9_needNumber_9))
set_option maxHeartbeats 4000000 in
set_option maxRecDepth 100000 in
theorem ct_X9_needNumber {l : Launch} (hl : l.stackTraces = false) {γ : Gd}   {w : va_W} {p1 : Int32} {p2 : Int32} {z : (Unit) ⊕ Nat} (hR : some z = sp_X9_needNumber p1 p2) : Ct l γ yX9_needNumber (Cond.code yX9_needNumber cX9_needNumber 2 none) ({ frames := 6, cells := mcz z, slots := msz z, locals := 82 } : Room) [.int p1, .int p2] (w) (Pzv0 (w) z) (mcz z) (msz z) := by
  refine Ct_of hl (by decide +kernel) rfl (Nat.le_of_ble_eq_true rfl) (L := [some (.int p1), some (.int p2)]) rfl ?_
  intro X Q K hQ
  generalize ((w, Q) : MX) = M at K hQ ⊢
  unfold sp_X9_needNumber at hR
  have b9 : some z = sp_X9_needNumber_9   → V l γ X M (w) [none, none] 0 0 9 [] := by
    intro   hR
    unfold sp_X9_needNumber_9 at hR
    exact r_thrW 9 0 K hQ rfl thr1 (dk_of tX9_needNumber 5 rfl) (dk_of tX9_needNumber 6 rfl) (dk_of tX9_needNumber 7 rfl) (dk_of tX9_needNumber 8 rfl) (dk_of tX9_needNumber 9 rfl) rfl (zc (Option.some.inj hR)) (zs (Option.some.inj hR)) (zc (Option.some.inj hR)) (zs (Option.some.inj hR)) (lxv0 (Option.some.inj hR))
  refine r_iload_n 0 0 K (dk_of tX9_needNumber 0 rfl) rfl rfl ?_
  refine r_if_lt 1 9 K (dk_of tX9_needNumber 1 rfl) (by decide) hR (fun hR => ?_) (fun hR => ?_)
  · exact r_msk [false, false] [none, none] rfl (b9 hR)
  · refine r_iload_n 4 0 K (dk_of tX9_needNumber 2 rfl) rfl rfl ?_
    refine r_iload_n 5 1 K (dk_of tX9_needNumber 3 rfl) rfl rfl ?_
    refine r_ic_lt 6 20 K (dk_of tX9_needNumber 4 rfl) (by decide) hR (fun hR => ?_) (fun hR => ?_)
    · exact r_vret 20 K hQ (dk_of tX9_needNumber 10 rfl) (Nat.zero_le _) (Nat.zero_le _) (lzv0 hR)
    · exact r_msk [false, false] [none, none] rfl (b9 hR)

def sp_X9_needRange_10   : Option ((Unit) ⊕ Nat) := some (.inr 2)
def sp_X9_needRange (p1 : Int32) (p2 : Int32) (p3 : Int32)  : Option ((Unit) ⊕ Nat) := if p1 < p2 then (sp_X9_needRange_10) else (if p1 ≤ p3 then (some (.inl ())) else (sp_X9_needRange_10))
set_option maxHeartbeats 4000000 in
set_option maxRecDepth 100000 in
theorem ct_X9_needRange {l : Launch} (hl : l.stackTraces = false) {γ : Gd}   {w : va_W} {p1 : Int32} {p2 : Int32} {p3 : Int32} {z : (Unit) ⊕ Nat} (hR : some z = sp_X9_needRange p1 p2 p3) : Ct l γ yX9_needRange (Cond.code yX9_needRange cX9_needRange 3 none) ({ frames := 6, cells := mcz z, slots := msz z, locals := 82 } : Room) [.int p1, .int p2, .int p3] (w) (Pzv0 (w) z) (mcz z) (msz z) := by
  refine Ct_of hl (by decide +kernel) rfl (Nat.le_of_ble_eq_true rfl) (L := [some (.int p1), some (.int p2), some (.int p3)]) rfl ?_
  intro X Q K hQ
  generalize ((w, Q) : MX) = M at K hQ ⊢
  unfold sp_X9_needRange at hR
  have b10 : some z = sp_X9_needRange_10   → V l γ X M (w) [none, none, none] 0 0 10 [] := by
    intro   hR
    unfold sp_X9_needRange_10 at hR
    exact r_thrW 10 1 K hQ rfl thr2 (dk_of tX9_needRange 6 rfl) (dk_of tX9_needRange 7 rfl) (dk_of tX9_needRange 8 rfl) (dk_of tX9_needRange 9 rfl) (dk_of tX9_needRange 10 rfl) rfl (zc (Option.some.inj hR)) (zs (Option.some.inj hR)) (zc (Option.some.inj hR)) (zs (Option.some.inj hR)) (lxv0 (Option.some.inj hR))
  refine r_iload_n 0 0 K (dk_of tX9_needRange 0 rfl) rfl rfl ?_
  refine r_iload_n 1 1 K (dk_of tX9_needRange 1 rfl) rfl rfl ?_
  refine r_ic_lt 2 10 K (dk_of tX9_needRange 2 rfl) (by decide) hR (fun hR => ?_) (fun hR => ?_)
  · exact r_msk [false, false, false] [none, none, none] rfl (b10 hR)
  · refine r_iload_n 5 0 K (dk_of tX9_needRange 3 rfl) rfl rfl ?_
    refine r_iload_n 6 2 K (dk_of tX9_needRange 4 rfl) rfl rfl ?_
    refine r_ic_le 7 21 K (dk_of tX9_needRange 5 rfl) (by decide) hR (fun hR => ?_) (fun hR => ?_)
    · exact r_vret 21 K hQ (dk_of tX9_needRange 11 rfl) (Nat.zero_le _) (Nat.zero_le _) (lzv0 hR)
    · exact r_msk [false, false, false] [none, none, none] rfl (b10 hR)

def sp_X9_shore_60 (σ : St)  : Option ((Int32 × St) ⊕ Nat) := some (.inr 3)
def sp_X9_shore (p1 : Int32) (p2 : Int32) (σ : St) : Option ((Int32 × St) ⊕ Nat) := bx (sp_X9_needNumber p1 (24 : Int32)) (fun _ => bx (sp_X9_needRange p2 (0 : Int32) (3 : Int32)) (fun _ => if (σ 0 4) = 0 then (b1 (sp_X8_isAnyAt p1 σ) (fun (x1 : Int32) => if x1 = 0 then (b1 (sp_X4_isSkimmerAt p1 σ) (fun (x2 : Int32) => if x2 = 0 then (if p1 < 0 ∨ 24 ≤ p1.toNatClampNeg then none else (sl ((σ 2 p1.toNatClampNeg)) (fun x3 : Int32 => b1 (sp_X2_become p1 p2 σ) (fun (σ4 : St) => some (.inl (x3, σ4)))))) else (sp_X9_shore_60 σ))) else (sp_X9_shore_60 σ))) else (some (.inr 3))))
set_option maxHeartbeats 4000000 in
set_option maxRecDepth 100000 in
theorem ct_X9_shore {l : Launch} (hl : l.stackTraces = false) {γ : Gd} {h : Nat → Nat} {g : Nat → Nat} {as9 : Nat} {an : Nat} {aq : Nat} {ad : Nat → Nat} {ap : Nat → Nat} {σ : St} {τ : St} {ν : (Nat → Int32)} {δ : St} {π : (St × Int64)} {r : va_W} {p1 : Int32} {p2 : Int32} {z : (Int32 × St) ⊕ Nat} (hR : some z = sp_X9_shore p1 p2 σ) : Ct l γ yX9_shore (Cond.code yX9_shore cX9_shore 4 (some .int)) ({ frames := 7, cells := mcz z, slots := msz z, locals := 104 } : Room) [.ref as9, .int p1, .int p2] (wB γ h σ ++ (wB γ g τ ++ (wS as9 (h 0) (g 0) an aq (ad 0) (ap 0) ++ (wN an (h 0) ν ++ (wR aq (h 0) ++ (wD γ ad δ ++ (wP γ ap π ++ (r)))))))) (Pzi (fun u9 : St => wB γ h u9 ++ (wB γ g τ ++ (wS as9 (h 0) (g 0) an aq (ad 0) (ap 0) ++ (wN an (h 0) ν ++ (wR aq (h 0) ++ (wD γ ad δ ++ (wP γ ap π ++ (r)))))))) (wB γ h σ ++ (wB γ g τ ++ (wS as9 (h 0) (g 0) an aq (ad 0) (ap 0) ++ (wN an (h 0) ν ++ (wR aq (h 0) ++ (wD γ ad δ ++ (wP γ ap π ++ (r)))))))) z) (mcz z) (msz z) := by
  refine Ct_of hl (by decide +kernel) rfl (Nat.le_of_ble_eq_true rfl) (L := [some (.ref as9), some (.int p1), some (.int p2), none]) rfl ?_
  intro X Q K hQ
  generalize ((wB γ h σ ++ (wB γ g τ ++ (wS as9 (h 0) (g 0) an aq (ad 0) (ap 0) ++ (wN an (h 0) ν ++ (wR aq (h 0) ++ (wD γ ad δ ++ (wP γ ap π ++ (r))))))), Q) : MX) = M at K hQ ⊢
  unfold sp_X9_shore at hR
  have b60 : some z = sp_X9_shore_60 σ  → V l γ X M (wB γ h σ ++ (wB γ g τ ++ (wS as9 (h 0) (g 0) an aq (ad 0) (ap 0) ++ (wN an (h 0) ν ++ (wR aq (h 0) ++ (wD γ ad δ ++ (wP γ ap π ++ (r)))))))) [none, none, none, none] 0 0 60 [] := by
    intro   hR
    unfold sp_X9_shore_60 at hR
    exact r_thr 60 3 K hQ rfl thr3 (dk_of tX9_shore 28 rfl) (dk_of tX9_shore 29 rfl) (dk_of tX9_shore 30 rfl) (dk_of tX9_shore 31 rfl) (dk_of tX9_shore 32 rfl) rfl (zc (Option.some.inj hR)) (zs (Option.some.inj hR)) (zc (Option.some.inj hR)) (zs (Option.some.inj hR)) (lxi (fun u9 : St => wB γ h u9 ++ (wB γ g τ ++ (wS as9 (h 0) (g 0) an aq (ad 0) (ap 0) ++ (wN an (h 0) ν ++ (wR aq (h 0) ++ (wD γ ad δ ++ (wP γ ap π ++ (r)))))))) (Option.some.inj hR))
  refine r_iload_n 0 1 K (dk_of tX9_shore 0 rfl) rfl rfl ?_
  refine r_bipush 1 (24 : Int32) K (dk_of tX9_shore 1 rfl) (by decide) ?_
  rcases ox hR with ⟨_, hc, hR⟩ | ⟨k9, hc, hR⟩
  rotate_left
  · exact r_xS 3 [.int p1, .int (24 : Int32)] [] k9 (wB γ h σ ++ (wB γ g τ ++ (wS as9 (h 0) (g 0) an aq (ad 0) (ap 0) ++ (wN an (h 0) ν ++ (wR aq (h 0) ++ (wD γ ad δ ++ (wP γ ap π ++ (r)))))))) K (ct_X9_needNumber hl (z := .inr k9) hc.symm) cs_X9_49 ⟨rfl, rfl, rfl⟩ (dk_of tX9_shore 2 rfl) rfl rfl rfl ⟨zc hR, zs hR⟩ (r_out 3 K hQ (zc hR) (zs hR) (lxi (fun u9 : St => wB γ h u9 ++ (wB γ g τ ++ (wS as9 (h 0) (g 0) an aq (ad 0) (ap 0) ++ (wN an (h 0) ν ++ (wR aq (h 0) ++ (wD γ ad δ ++ (wP γ ap π ++ (r)))))))) hR))
  refine r_cSv 3 [.int p1, .int (24 : Int32)] [] (wB γ h σ ++ (wB γ g τ ++ (wS as9 (h 0) (g 0) an aq (ad 0) (ap 0) ++ (wN an (h 0) ν ++ (wR aq (h 0) ++ (wD γ ad δ ++ (wP γ ap π ++ (r)))))))) K (ct_X9_needNumber hl (z := .inl ()) hc.symm) cs_X9_49 ⟨rfl, rfl, rfl⟩ (dk_of tX9_shore 2 rfl) rfl rfl rfl rfl ?_
  refine r_iload_n 6 2 K (dk_of tX9_shore 3 rfl) rfl rfl ?_
  refine r_iconst 7 (0 : Int32) K (dk_of tX9_shore 4 rfl) (by decide) ?_
  refine r_iconst 8 (3 : Int32) K (dk_of tX9_shore 5 rfl) (by decide) ?_
  rcases ox hR with ⟨_, hc, hR⟩ | ⟨k9, hc, hR⟩
  rotate_left
  · exact r_xS 9 [.int p2, .int (0 : Int32), .int (3 : Int32)] [] k9 (wB γ h σ ++ (wB γ g τ ++ (wS as9 (h 0) (g 0) an aq (ad 0) (ap 0) ++ (wN an (h 0) ν ++ (wR aq (h 0) ++ (wD γ ad δ ++ (wP γ ap π ++ (r)))))))) K (ct_X9_needRange hl (z := .inr k9) hc.symm) cs_X9_53 ⟨rfl, rfl, rfl⟩ (dk_of tX9_shore 6 rfl) rfl rfl rfl ⟨zc hR, zs hR⟩ (r_out 9 K hQ (zc hR) (zs hR) (lxi (fun u9 : St => wB γ h u9 ++ (wB γ g τ ++ (wS as9 (h 0) (g 0) an aq (ad 0) (ap 0) ++ (wN an (h 0) ν ++ (wR aq (h 0) ++ (wD γ ad δ ++ (wP γ ap π ++ (r)))))))) hR))
  refine r_cSv 9 [.int p2, .int (0 : Int32), .int (3 : Int32)] [] (wB γ h σ ++ (wB γ g τ ++ (wS as9 (h 0) (g 0) an aq (ad 0) (ap 0) ++ (wN an (h 0) ν ++ (wR aq (h 0) ++ (wD γ ad δ ++ (wP γ ap π ++ (r)))))))) K (ct_X9_needRange hl (z := .inl ()) hc.symm) cs_X9_53 ⟨rfl, rfl, rfl⟩ (dk_of tX9_shore 6 rfl) rfl rfl rfl rfl ?_
  refine r_aload_n 12 0 K (dk_of tX9_shore 7 rfl) rfl rfl ?_
  refine r_getf (C := RX9) (T := TX9) (N := 6) 13 52 0 K (dk_of tX9_shore 8 rfl) w319 gwX9 rfl rfl (by decide) rfl ?_
  refine r_getf (C := RX0) (T := TX0) (N := 9) 16 0 4 K (dk_of tX9_shore 9 rfl) w212 gwX0 rfl rfl (by decide) rfl ?_
  refine r_if_eq 19 32 K (dk_of tX9_shore 10 rfl) (by decide) hR (fun hR => ?_) (fun hR => ?_)
  · refine r_aload_n 32 0 K (dk_of tX9_shore 16 rfl) rfl rfl ?_
    refine r_getf (C := RX9) (T := TX9) (N := 6) 33 52 0 K (dk_of tX9_shore 17 rfl) w319 gwX9 rfl rfl (by decide) rfl ?_
    refine r_getf (C := RX0) (T := TX0) (N := 9) 36 0 1 K (dk_of tX9_shore 18 rfl) w205 gwX0 rfl rfl (by decide) rfl ?_
    refine r_iload_n 39 1 K (dk_of tX9_shore 19 rfl) rfl rfl ?_
    obtain ⟨x1, hc, hR⟩ := o1 hR
    refine r_cVi 40 10 [.int p1] [] x1 (wB γ h σ ++ (wB γ g τ ++ (wS as9 (h 0) (g 0) an aq (ad 0) (ap 0) ++ (wN an (h 0) ν ++ (wR aq (h 0) ++ (wD γ ad δ ++ (wP γ ap π ++ (r)))))))) K (ct_X8_isAnyAt hl hc.symm) cs_X9_72 ⟨rfl, rfl, rfl⟩ (dk_of tX9_shore 20 rfl) rfl rfl rfl rfl rfl rfl ?_
    refine r_if_ne 43 60 K (dk_of tX9_shore 21 rfl) (by decide) hR (fun hR => ?_) (fun hR => ?_)
    · refine r_aload_n 46 0 K (dk_of tX9_shore 22 rfl) rfl rfl ?_
      refine r_getf (C := RX9) (T := TX9) (N := 6) 47 52 0 K (dk_of tX9_shore 23 rfl) w319 gwX9 rfl rfl (by decide) rfl ?_
      refine r_getf (C := RX0) (T := TX0) (N := 9) 50 0 2 K (dk_of tX9_shore 24 rfl) w208 gwX0 rfl rfl (by decide) rfl ?_
      refine r_iload_n 53 1 K (dk_of tX9_shore 25 rfl) rfl rfl ?_
      obtain ⟨x2, hc, hR⟩ := o1 hR
      refine r_cVi 54 14 [.int p1] [] x2 (wB γ h σ ++ (wB γ g τ ++ (wS as9 (h 0) (g 0) an aq (ad 0) (ap 0) ++ (wN an (h 0) ν ++ (wR aq (h 0) ++ (wD γ ad δ ++ (wP γ ap π ++ (r)))))))) K (ct_X4_isSkimmerAt hl hc.symm) cs_X9_82 ⟨rfl, rfl, rfl⟩ (dk_of tX9_shore 26 rfl) rfl rfl rfl rfl rfl rfl ?_
      refine r_if_eq 57 70 K (dk_of tX9_shore 27 rfl) (by decide) hR (fun hR => ?_) (fun hR => ?_)
      · refine r_aload_n 70 0 K (dk_of tX9_shore 33 rfl) rfl rfl ?_
        refine r_getf (C := RX9) (T := TX9) (N := 6) 71 52 0 K (dk_of tX9_shore 34 rfl) w319 gwX9 rfl rfl (by decide) rfl ?_
        refine r_getf (C := RX0) (T := TX0) (N := 9) 74 0 0 K (dk_of tX9_shore 35 rfl) w202 gwX0 rfl rfl (by decide) rfl ?_
        refine r_getf (C := RX2) (T := TX2) (N := 8) 77 1 0 K (dk_of tX9_shore 36 rfl) w45 gwX2 rfl rfl (by decide) rfl ?_
        refine r_iload_n 80 1 K (dk_of tX9_shore 37 rfl) rfl rfl ?_
        refine r_ialdR 81 2 K (dk_of tX9_shore 38 rfl) rfl hR (fun hR => ?_)
        refine r_nmI hR (fun x3 hR => ?_)
        refine r_istore_n 82 3 [some (.ref as9), some (.int p1), some (.int p2), some (.int x3)] K (dk_of tX9_shore 39 rfl) rfl rfl rfl (by decide) ?_
        refine r_aload_n 83 0 K (dk_of tX9_shore 40 rfl) rfl rfl ?_
        refine r_getf (C := RX9) (T := TX9) (N := 6) 84 52 0 K (dk_of tX9_shore 41 rfl) w319 gwX9 rfl rfl (by decide) rfl ?_
        refine r_getf (C := RX0) (T := TX0) (N := 9) 87 0 0 K (dk_of tX9_shore 42 rfl) w202 gwX0 rfl rfl (by decide) rfl ?_
        refine r_iload_n 90 1 K (dk_of tX9_shore 43 rfl) rfl rfl ?_
        refine r_iload_n 91 2 K (dk_of tX9_shore 44 rfl) rfl rfl ?_
        obtain ⟨σ4, hc, hR⟩ := o1 hR
        refine r_cVv 92 1 [.int p1, .int p2] [] (wB γ h σ4 ++ (wB γ g τ ++ (wS as9 (h 0) (g 0) an aq (ad 0) (ap 0) ++ (wN an (h 0) ν ++ (wR aq (h 0) ++ (wD γ ad δ ++ (wP γ ap π ++ (r)))))))) K (ct_X2_become hl hc.symm) cs_X9_99 ⟨rfl, rfl, rfl⟩ (dk_of tX9_shore 45 rfl) rfl rfl rfl rfl rfl rfl ?_
        refine r_iload_n 95 3 K (dk_of tX9_shore 46 rfl) rfl rfl ?_
        exact r_iret 96 K hQ (dk_of tX9_shore 47 rfl) (Nat.zero_le _) (Nat.zero_le _) (lzi (fun u9 : St => wB γ h u9 ++ (wB γ g τ ++ (wS as9 (h 0) (g 0) an aq (ad 0) (ap 0) ++ (wN an (h 0) ν ++ (wR aq (h 0) ++ (wD γ ad δ ++ (wP γ ap π ++ (r)))))))) _ hR)
      · exact r_msk [false, false, false, true] [none, none, none, none] rfl (b60 hR)
    · exact r_msk [false, false, false, true] [none, none, none, none] rfl (b60 hR)
  · exact r_thr 22 2 K hQ rfl thr3 (dk_of tX9_shore 11 rfl) (dk_of tX9_shore 12 rfl) (dk_of tX9_shore 13 rfl) (dk_of tX9_shore 14 rfl) (dk_of tX9_shore 15 rfl) rfl (zc (Option.some.inj hR)) (zs (Option.some.inj hR)) (zc (Option.some.inj hR)) (zs (Option.some.inj hR)) (lxi (fun u9 : St => wB γ h u9 ++ (wB γ g τ ++ (wS as9 (h 0) (g 0) an aq (ad 0) (ap 0) ++ (wN an (h 0) ν ++ (wR aq (h 0) ++ (wD γ ad δ ++ (wP γ ap π ++ (r)))))))) (Option.some.inj hR))

def sp_X9_wind (p1 : Int32) (p2 : Int32) (σ : St) : Option ((Int32 × St) ⊕ Nat) := bx (sp_X9_needRange p1 (0 : Int32) (3 : Int32)) (fun _ => bx (sp_X9_needRange p2 (0 : Int32) (9 : Int32)) (fun _ => sl ((((10 : Int32) * (σ 0 5)) + (σ 0 6))) (fun x1 : Int32 => sl (stU σ 0 5 p1) (fun σ2 : St => sl (stU σ2 0 6 p2) (fun σ3 : St => some (.inl (x1, σ3)))))))
set_option maxHeartbeats 4000000 in
set_option maxRecDepth 100000 in
theorem ct_X9_wind {l : Launch} (hl : l.stackTraces = false) {γ : Gd} {h : Nat → Nat} {g : Nat → Nat} {as9 : Nat} {an : Nat} {aq : Nat} {ad : Nat → Nat} {ap : Nat → Nat} {σ : St} {τ : St} {ν : (Nat → Int32)} {δ : St} {π : (St × Int64)} {r : va_W} {p1 : Int32} {p2 : Int32} {z : (Int32 × St) ⊕ Nat} (hR : some z = sp_X9_wind p1 p2 σ) : Ct l γ yX9_wind (Cond.code yX9_wind cX9_wind 4 (some .int)) ({ frames := 7, cells := mcz z, slots := msz z, locals := 104 } : Room) [.ref as9, .int p1, .int p2] (wB γ h σ ++ (wB γ g τ ++ (wS as9 (h 0) (g 0) an aq (ad 0) (ap 0) ++ (wN an (h 0) ν ++ (wR aq (h 0) ++ (wD γ ad δ ++ (wP γ ap π ++ (r)))))))) (Pzi (fun u9 : St => wB γ h u9 ++ (wB γ g τ ++ (wS as9 (h 0) (g 0) an aq (ad 0) (ap 0) ++ (wN an (h 0) ν ++ (wR aq (h 0) ++ (wD γ ad δ ++ (wP γ ap π ++ (r)))))))) (wB γ h σ ++ (wB γ g τ ++ (wS as9 (h 0) (g 0) an aq (ad 0) (ap 0) ++ (wN an (h 0) ν ++ (wR aq (h 0) ++ (wD γ ad δ ++ (wP γ ap π ++ (r)))))))) z) (mcz z) (msz z) := by
  refine Ct_of hl (by decide +kernel) rfl (Nat.le_of_ble_eq_true rfl) (L := [some (.ref as9), some (.int p1), some (.int p2), none]) rfl ?_
  intro X Q K hQ
  generalize ((wB γ h σ ++ (wB γ g τ ++ (wS as9 (h 0) (g 0) an aq (ad 0) (ap 0) ++ (wN an (h 0) ν ++ (wR aq (h 0) ++ (wD γ ad δ ++ (wP γ ap π ++ (r))))))), Q) : MX) = M at K hQ ⊢
  unfold sp_X9_wind at hR
  refine r_iload_n 0 1 K (dk_of tX9_wind 0 rfl) rfl rfl ?_
  refine r_iconst 1 (0 : Int32) K (dk_of tX9_wind 1 rfl) (by decide) ?_
  refine r_iconst 2 (3 : Int32) K (dk_of tX9_wind 2 rfl) (by decide) ?_
  rcases ox hR with ⟨_, hc, hR⟩ | ⟨k9, hc, hR⟩
  rotate_left
  · exact r_xS 3 [.int p1, .int (0 : Int32), .int (3 : Int32)] [] k9 (wB γ h σ ++ (wB γ g τ ++ (wS as9 (h 0) (g 0) an aq (ad 0) (ap 0) ++ (wN an (h 0) ν ++ (wR aq (h 0) ++ (wD γ ad δ ++ (wP γ ap π ++ (r)))))))) K (ct_X9_needRange hl (z := .inr k9) hc.symm) cs_X9_53 ⟨rfl, rfl, rfl⟩ (dk_of tX9_wind 3 rfl) rfl rfl rfl ⟨zc hR, zs hR⟩ (r_out 3 K hQ (zc hR) (zs hR) (lxi (fun u9 : St => wB γ h u9 ++ (wB γ g τ ++ (wS as9 (h 0) (g 0) an aq (ad 0) (ap 0) ++ (wN an (h 0) ν ++ (wR aq (h 0) ++ (wD γ ad δ ++ (wP γ ap π ++ (r)))))))) hR))
  refine r_cSv 3 [.int p1, .int (0 : Int32), .int (3 : Int32)] [] (wB γ h σ ++ (wB γ g τ ++ (wS as9 (h 0) (g 0) an aq (ad 0) (ap 0) ++ (wN an (h 0) ν ++ (wR aq (h 0) ++ (wD γ ad δ ++ (wP γ ap π ++ (r)))))))) K (ct_X9_needRange hl (z := .inl ()) hc.symm) cs_X9_53 ⟨rfl, rfl, rfl⟩ (dk_of tX9_wind 3 rfl) rfl rfl rfl rfl ?_
  refine r_iload_n 6 2 K (dk_of tX9_wind 4 rfl) rfl rfl ?_
  refine r_iconst 7 (0 : Int32) K (dk_of tX9_wind 5 rfl) (by decide) ?_
  refine r_bipush 8 (9 : Int32) K (dk_of tX9_wind 6 rfl) (by decide) ?_
  rcases ox hR with ⟨_, hc, hR⟩ | ⟨k9, hc, hR⟩
  rotate_left
  · exact r_xS 10 [.int p2, .int (0 : Int32), .int (9 : Int32)] [] k9 (wB γ h σ ++ (wB γ g τ ++ (wS as9 (h 0) (g 0) an aq (ad 0) (ap 0) ++ (wN an (h 0) ν ++ (wR aq (h 0) ++ (wD γ ad δ ++ (wP γ ap π ++ (r)))))))) K (ct_X9_needRange hl (z := .inr k9) hc.symm) cs_X9_53 ⟨rfl, rfl, rfl⟩ (dk_of tX9_wind 7 rfl) rfl rfl rfl ⟨zc hR, zs hR⟩ (r_out 10 K hQ (zc hR) (zs hR) (lxi (fun u9 : St => wB γ h u9 ++ (wB γ g τ ++ (wS as9 (h 0) (g 0) an aq (ad 0) (ap 0) ++ (wN an (h 0) ν ++ (wR aq (h 0) ++ (wD γ ad δ ++ (wP γ ap π ++ (r)))))))) hR))
  refine r_cSv 10 [.int p2, .int (0 : Int32), .int (9 : Int32)] [] (wB γ h σ ++ (wB γ g τ ++ (wS as9 (h 0) (g 0) an aq (ad 0) (ap 0) ++ (wN an (h 0) ν ++ (wR aq (h 0) ++ (wD γ ad δ ++ (wP γ ap π ++ (r)))))))) K (ct_X9_needRange hl (z := .inl ()) hc.symm) cs_X9_53 ⟨rfl, rfl, rfl⟩ (dk_of tX9_wind 7 rfl) rfl rfl rfl rfl ?_
  refine r_bipush 13 (10 : Int32) K (dk_of tX9_wind 8 rfl) (by decide) ?_
  refine r_aload_n 15 0 K (dk_of tX9_wind 9 rfl) rfl rfl ?_
  refine r_getf (C := RX9) (T := TX9) (N := 6) 16 52 0 K (dk_of tX9_wind 10 rfl) w319 gwX9 rfl rfl (by decide) rfl ?_
  refine r_getf (C := RX0) (T := TX0) (N := 9) 19 0 5 K (dk_of tX9_wind 11 rfl) w216 gwX0 rfl rfl (by decide) rfl ?_
  refine r_imul 22 K (dk_of tX9_wind 12 rfl) ?_
  refine r_aload_n 23 0 K (dk_of tX9_wind 13 rfl) rfl rfl ?_
  refine r_getf (C := RX9) (T := TX9) (N := 6) 24 52 0 K (dk_of tX9_wind 14 rfl) w319 gwX9 rfl rfl (by decide) rfl ?_
  refine r_getf (C := RX0) (T := TX0) (N := 9) 27 0 6 K (dk_of tX9_wind 15 rfl) w220 gwX0 rfl rfl (by decide) rfl ?_
  refine r_iadd 30 K (dk_of tX9_wind 16 rfl) ?_
  refine r_nmI hR (fun x1 hR => ?_)
  refine r_istore_n 31 3 [some (.ref as9), some (.int p1), some (.int p2), some (.int x1)] K (dk_of tX9_wind 17 rfl) rfl rfl rfl (by decide) ?_
  refine r_aload_n 32 0 K (dk_of tX9_wind 18 rfl) rfl rfl ?_
  refine r_getf (C := RX9) (T := TX9) (N := 6) 33 52 0 K (dk_of tX9_wind 19 rfl) w319 gwX9 rfl rfl (by decide) rfl ?_
  refine r_iload_n 36 1 K (dk_of tX9_wind 20 rfl) rfl rfl ?_
  refine r_putf (C := RX0) (T := TX0) (N := 9) 37 0 5 K (dk_of tX9_wind 21 rfl) w216 gwX0 tyX0_ok nmX0 rfl rfl (by decide) rfl rfl rfl rfl (Nat.le_of_ble_eq_true rfl) sB_0_5 ?_
  refine r_nmS (fun σ2 : St => wB γ h σ2 ++ (wB γ g τ ++ (wS as9 (h 0) (g 0) an aq (ad 0) (ap 0) ++ (wN an (h 0) ν ++ (wR aq (h 0) ++ (wD γ ad δ ++ (wP γ ap π ++ (r)))))))) hR (fun σ2 hR => ?_)
  refine r_aload_n 40 0 K (dk_of tX9_wind 22 rfl) rfl rfl ?_
  refine r_getf (C := RX9) (T := TX9) (N := 6) 41 52 0 K (dk_of tX9_wind 23 rfl) w319 gwX9 rfl rfl (by decide) rfl ?_
  refine r_iload_n 44 2 K (dk_of tX9_wind 24 rfl) rfl rfl ?_
  refine r_putf (C := RX0) (T := TX0) (N := 9) 45 0 6 K (dk_of tX9_wind 25 rfl) w220 gwX0 tyX0_ok nmX0 rfl rfl (by decide) rfl rfl rfl rfl (Nat.le_of_ble_eq_true rfl) sB_0_6 ?_
  refine r_nmS (fun σ3 : St => wB γ h σ3 ++ (wB γ g τ ++ (wS as9 (h 0) (g 0) an aq (ad 0) (ap 0) ++ (wN an (h 0) ν ++ (wR aq (h 0) ++ (wD γ ad δ ++ (wP γ ap π ++ (r)))))))) hR (fun σ3 hR => ?_)
  refine r_iload_n 48 3 K (dk_of tX9_wind 26 rfl) rfl rfl ?_
  exact r_iret 49 K hQ (dk_of tX9_wind 27 rfl) (Nat.zero_le _) (Nat.zero_le _) (lzi (fun u9 : St => wB γ h u9 ++ (wB γ g τ ++ (wS as9 (h 0) (g 0) an aq (ad 0) (ap 0) ++ (wN an (h 0) ν ++ (wR aq (h 0) ++ (wD γ ad δ ++ (wP γ ap π ++ (r)))))))) _ hR)

def sp_X9_hole (p1 : Int32) (p2 : Int32) (σ : St) : Option ((Int32 × St) ⊕ Nat) := bx (sp_X9_needNumber p1 (σ 10 0)) (fun _ => bx (sp_X9_needRange p2 (0 : Int32) (99 : Int32)) (fun _ => if p1 < 0 ∨ 4 ≤ p1.toNatClampNeg then none else (sl ((σ 13 p1.toNatClampNeg)) (fun x1 : Int32 => if p1 < 0 ∨ 4 ≤ p1.toNatClampNeg then none else (sl (stU σ 13 p1.toNatClampNeg p2) (fun σ2 : St => some (.inl (x1, σ2))))))))
set_option maxHeartbeats 4000000 in
set_option maxRecDepth 100000 in
theorem ct_X9_hole {l : Launch} (hl : l.stackTraces = false) {γ : Gd} {h : Nat → Nat} {g : Nat → Nat} {as9 : Nat} {an : Nat} {aq : Nat} {ad : Nat → Nat} {ap : Nat → Nat} {σ : St} {τ : St} {ν : (Nat → Int32)} {δ : St} {π : (St × Int64)} {r : va_W} {p1 : Int32} {p2 : Int32} {z : (Int32 × St) ⊕ Nat} (hR : some z = sp_X9_hole p1 p2 σ) : Ct l γ yX9_hole (Cond.code yX9_hole cX9_hole 4 (some .int)) ({ frames := 7, cells := mcz z, slots := msz z, locals := 104 } : Room) [.ref as9, .int p1, .int p2] (wB γ h σ ++ (wB γ g τ ++ (wS as9 (h 0) (g 0) an aq (ad 0) (ap 0) ++ (wN an (h 0) ν ++ (wR aq (h 0) ++ (wD γ ad δ ++ (wP γ ap π ++ (r)))))))) (Pzi (fun u9 : St => wB γ h u9 ++ (wB γ g τ ++ (wS as9 (h 0) (g 0) an aq (ad 0) (ap 0) ++ (wN an (h 0) ν ++ (wR aq (h 0) ++ (wD γ ad δ ++ (wP γ ap π ++ (r)))))))) (wB γ h σ ++ (wB γ g τ ++ (wS as9 (h 0) (g 0) an aq (ad 0) (ap 0) ++ (wN an (h 0) ν ++ (wR aq (h 0) ++ (wD γ ad δ ++ (wP γ ap π ++ (r)))))))) z) (mcz z) (msz z) := by
  refine Ct_of hl (by decide +kernel) rfl (Nat.le_of_ble_eq_true rfl) (L := [some (.ref as9), some (.int p1), some (.int p2), none]) rfl ?_
  intro X Q K hQ
  generalize ((wB γ h σ ++ (wB γ g τ ++ (wS as9 (h 0) (g 0) an aq (ad 0) (ap 0) ++ (wN an (h 0) ν ++ (wR aq (h 0) ++ (wD γ ad δ ++ (wP γ ap π ++ (r))))))), Q) : MX) = M at K hQ ⊢
  unfold sp_X9_hole at hR
  refine r_iload_n 0 1 K (dk_of tX9_hole 0 rfl) rfl rfl ?_
  refine r_aload_n 1 0 K (dk_of tX9_hole 1 rfl) rfl rfl ?_
  refine r_getf (C := RX9) (T := TX9) (N := 6) 2 52 0 K (dk_of tX9_hole 2 rfl) w319 gwX9 rfl rfl (by decide) rfl ?_
  refine r_getf (C := RX0) (T := TX0) (N := 9) 5 0 1 K (dk_of tX9_hole 3 rfl) w205 gwX0 rfl rfl (by decide) rfl ?_
  refine r_getf (C := RX8) (T := TX8) (N := 4) 8 10 0 K (dk_of tX9_hole 4 rfl) w96 gwX8 rfl rfl (by decide) rfl ?_
  rcases ox hR with ⟨_, hc, hR⟩ | ⟨k9, hc, hR⟩
  rotate_left
  · exact r_xS 11 [.int p1, .int (σ 10 0)] [] k9 (wB γ h σ ++ (wB γ g τ ++ (wS as9 (h 0) (g 0) an aq (ad 0) (ap 0) ++ (wN an (h 0) ν ++ (wR aq (h 0) ++ (wD γ ad δ ++ (wP γ ap π ++ (r)))))))) K (ct_X9_needNumber hl (z := .inr k9) hc.symm) cs_X9_49 ⟨rfl, rfl, rfl⟩ (dk_of tX9_hole 5 rfl) rfl rfl rfl ⟨zc hR, zs hR⟩ (r_out 11 K hQ (zc hR) (zs hR) (lxi (fun u9 : St => wB γ h u9 ++ (wB γ g τ ++ (wS as9 (h 0) (g 0) an aq (ad 0) (ap 0) ++ (wN an (h 0) ν ++ (wR aq (h 0) ++ (wD γ ad δ ++ (wP γ ap π ++ (r)))))))) hR))
  refine r_cSv 11 [.int p1, .int (σ 10 0)] [] (wB γ h σ ++ (wB γ g τ ++ (wS as9 (h 0) (g 0) an aq (ad 0) (ap 0) ++ (wN an (h 0) ν ++ (wR aq (h 0) ++ (wD γ ad δ ++ (wP γ ap π ++ (r)))))))) K (ct_X9_needNumber hl (z := .inl ()) hc.symm) cs_X9_49 ⟨rfl, rfl, rfl⟩ (dk_of tX9_hole 5 rfl) rfl rfl rfl rfl ?_
  refine r_iload_n 14 2 K (dk_of tX9_hole 6 rfl) rfl rfl ?_
  refine r_iconst 15 (0 : Int32) K (dk_of tX9_hole 7 rfl) (by decide) ?_
  refine r_bipush 16 (99 : Int32) K (dk_of tX9_hole 8 rfl) (by decide) ?_
  rcases ox hR with ⟨_, hc, hR⟩ | ⟨k9, hc, hR⟩
  rotate_left
  · exact r_xS 18 [.int p2, .int (0 : Int32), .int (99 : Int32)] [] k9 (wB γ h σ ++ (wB γ g τ ++ (wS as9 (h 0) (g 0) an aq (ad 0) (ap 0) ++ (wN an (h 0) ν ++ (wR aq (h 0) ++ (wD γ ad δ ++ (wP γ ap π ++ (r)))))))) K (ct_X9_needRange hl (z := .inr k9) hc.symm) cs_X9_53 ⟨rfl, rfl, rfl⟩ (dk_of tX9_hole 9 rfl) rfl rfl rfl ⟨zc hR, zs hR⟩ (r_out 18 K hQ (zc hR) (zs hR) (lxi (fun u9 : St => wB γ h u9 ++ (wB γ g τ ++ (wS as9 (h 0) (g 0) an aq (ad 0) (ap 0) ++ (wN an (h 0) ν ++ (wR aq (h 0) ++ (wD γ ad δ ++ (wP γ ap π ++ (r)))))))) hR))
  refine r_cSv 18 [.int p2, .int (0 : Int32), .int (99 : Int32)] [] (wB γ h σ ++ (wB γ g τ ++ (wS as9 (h 0) (g 0) an aq (ad 0) (ap 0) ++ (wN an (h 0) ν ++ (wR aq (h 0) ++ (wD γ ad δ ++ (wP γ ap π ++ (r)))))))) K (ct_X9_needRange hl (z := .inl ()) hc.symm) cs_X9_53 ⟨rfl, rfl, rfl⟩ (dk_of tX9_hole 9 rfl) rfl rfl rfl rfl ?_
  refine r_aload_n 21 0 K (dk_of tX9_hole 10 rfl) rfl rfl ?_
  refine r_getf (C := RX9) (T := TX9) (N := 6) 22 52 0 K (dk_of tX9_hole 11 rfl) w319 gwX9 rfl rfl (by decide) rfl ?_
  refine r_getf (C := RX0) (T := TX0) (N := 9) 25 0 1 K (dk_of tX9_hole 12 rfl) w205 gwX0 rfl rfl (by decide) rfl ?_
  refine r_getf (C := RX8) (T := TX8) (N := 4) 28 10 3 K (dk_of tX9_hole 13 rfl) w105 gwX8 rfl rfl (by decide) rfl ?_
  refine r_iload_n 31 1 K (dk_of tX9_hole 14 rfl) rfl rfl ?_
  refine r_ialdR 32 13 K (dk_of tX9_hole 15 rfl) rfl hR (fun hR => ?_)
  refine r_nmI hR (fun x1 hR => ?_)
  refine r_istore_n 33 3 [some (.ref as9), some (.int p1), some (.int p2), some (.int x1)] K (dk_of tX9_hole 16 rfl) rfl rfl rfl (by decide) ?_
  refine r_aload_n 34 0 K (dk_of tX9_hole 17 rfl) rfl rfl ?_
  refine r_getf (C := RX9) (T := TX9) (N := 6) 35 52 0 K (dk_of tX9_hole 18 rfl) w319 gwX9 rfl rfl (by decide) rfl ?_
  refine r_getf (C := RX0) (T := TX0) (N := 9) 38 0 1 K (dk_of tX9_hole 19 rfl) w205 gwX0 rfl rfl (by decide) rfl ?_
  refine r_getf (C := RX8) (T := TX8) (N := 4) 41 10 3 K (dk_of tX9_hole 20 rfl) w105 gwX8 rfl rfl (by decide) rfl ?_
  refine r_iload_n 44 1 K (dk_of tX9_hole 21 rfl) rfl rfl ?_
  refine r_iload_n 45 2 K (dk_of tX9_hole 22 rfl) rfl rfl ?_
  refine r_iastR 46 13 K (dk_of tX9_hole 23 rfl) rfl sB_13 hR (fun hR => ?_)
  refine r_nmS (fun σ2 : St => wB γ h σ2 ++ (wB γ g τ ++ (wS as9 (h 0) (g 0) an aq (ad 0) (ap 0) ++ (wN an (h 0) ν ++ (wR aq (h 0) ++ (wD γ ad δ ++ (wP γ ap π ++ (r)))))))) hR (fun σ2 hR => ?_)
  refine r_iload_n 47 3 K (dk_of tX9_hole 24 rfl) rfl rfl ?_
  exact r_iret 48 K hQ (dk_of tX9_hole 25 rfl) (Nat.zero_le _) (Nat.zero_le _) (lzi (fun u9 : St => wB γ h u9 ++ (wB γ g τ ++ (wS as9 (h 0) (g 0) an aq (ad 0) (ap 0) ++ (wN an (h 0) ν ++ (wR aq (h 0) ++ (wD γ ad δ ++ (wP γ ap π ++ (r)))))))) _ hR)

def sp_X9_pass (p1 : Int32) (σ : St) : Option ((Int32 × St) ⊕ Nat) := bx (sp_X9_needRange p1 (1 : Int32) (48 : Int32)) (fun _ => if ((σ 0 4) + p1) ≤ (2000 : Int32) then (b1 (sp_X0_letPass p1 σ) (fun (σ1 : St) => some (.inl ((σ1 0 4), σ1)))) else (some (.inr 3)))
set_option maxHeartbeats 4000000 in
set_option maxRecDepth 100000 in
theorem ct_X9_pass {l : Launch} (hl : l.stackTraces = false) {γ : Gd} {h : Nat → Nat} {g : Nat → Nat} {as9 : Nat} {an : Nat} {aq : Nat} {ad : Nat → Nat} {ap : Nat → Nat} {σ : St} {τ : St} {ν : (Nat → Int32)} {δ : St} {π : (St × Int64)} {r : va_W} {p1 : Int32} {z : (Int32 × St) ⊕ Nat} (hR : some z = sp_X9_pass p1 σ) : Ct l γ yX9_pass (Cond.code yX9_pass cX9_pass 2 (some .int)) ({ frames := 7, cells := mcz z, slots := msz z, locals := 116 } : Room) [.ref as9, .int p1] (wB γ h σ ++ (wB γ g τ ++ (wS as9 (h 0) (g 0) an aq (ad 0) (ap 0) ++ (wN an (h 0) ν ++ (wR aq (h 0) ++ (wD γ ad δ ++ (wP γ ap π ++ (r)))))))) (Pzi (fun u9 : St => wB γ h u9 ++ (wB γ g τ ++ (wS as9 (h 0) (g 0) an aq (ad 0) (ap 0) ++ (wN an (h 0) ν ++ (wR aq (h 0) ++ (wD γ ad δ ++ (wP γ ap π ++ (r)))))))) (wB γ h σ ++ (wB γ g τ ++ (wS as9 (h 0) (g 0) an aq (ad 0) (ap 0) ++ (wN an (h 0) ν ++ (wR aq (h 0) ++ (wD γ ad δ ++ (wP γ ap π ++ (r)))))))) z) (mcz z) (msz z) := by
  refine Ct_of hl (by decide +kernel) rfl (Nat.le_of_ble_eq_true rfl) (L := [some (.ref as9), some (.int p1)]) rfl ?_
  intro X Q K hQ
  generalize ((wB γ h σ ++ (wB γ g τ ++ (wS as9 (h 0) (g 0) an aq (ad 0) (ap 0) ++ (wN an (h 0) ν ++ (wR aq (h 0) ++ (wD γ ad δ ++ (wP γ ap π ++ (r))))))), Q) : MX) = M at K hQ ⊢
  unfold sp_X9_pass at hR
  refine r_iload_n 0 1 K (dk_of tX9_pass 0 rfl) rfl rfl ?_
  refine r_iconst 1 (1 : Int32) K (dk_of tX9_pass 1 rfl) (by decide) ?_
  refine r_bipush 2 (48 : Int32) K (dk_of tX9_pass 2 rfl) (by decide) ?_
  rcases ox hR with ⟨_, hc, hR⟩ | ⟨k9, hc, hR⟩
  rotate_left
  · exact r_xS 4 [.int p1, .int (1 : Int32), .int (48 : Int32)] [] k9 (wB γ h σ ++ (wB γ g τ ++ (wS as9 (h 0) (g 0) an aq (ad 0) (ap 0) ++ (wN an (h 0) ν ++ (wR aq (h 0) ++ (wD γ ad δ ++ (wP γ ap π ++ (r)))))))) K (ct_X9_needRange hl (z := .inr k9) hc.symm) cs_X9_53 ⟨rfl, rfl, rfl⟩ (dk_of tX9_pass 3 rfl) rfl rfl rfl ⟨zc hR, zs hR⟩ (r_out 4 K hQ (zc hR) (zs hR) (lxi (fun u9 : St => wB γ h u9 ++ (wB γ g τ ++ (wS as9 (h 0) (g 0) an aq (ad 0) (ap 0) ++ (wN an (h 0) ν ++ (wR aq (h 0) ++ (wD γ ad δ ++ (wP γ ap π ++ (r)))))))) hR))
  refine r_cSv 4 [.int p1, .int (1 : Int32), .int (48 : Int32)] [] (wB γ h σ ++ (wB γ g τ ++ (wS as9 (h 0) (g 0) an aq (ad 0) (ap 0) ++ (wN an (h 0) ν ++ (wR aq (h 0) ++ (wD γ ad δ ++ (wP γ ap π ++ (r)))))))) K (ct_X9_needRange hl (z := .inl ()) hc.symm) cs_X9_53 ⟨rfl, rfl, rfl⟩ (dk_of tX9_pass 3 rfl) rfl rfl rfl rfl ?_
  refine r_aload_n 7 0 K (dk_of tX9_pass 4 rfl) rfl rfl ?_
  refine r_getf (C := RX9) (T := TX9) (N := 6) 8 52 0 K (dk_of tX9_pass 5 rfl) w319 gwX9 rfl rfl (by decide) rfl ?_
  refine r_getf (C := RX0) (T := TX0) (N := 9) 11 0 4 K (dk_of tX9_pass 6 rfl) w212 gwX0 rfl rfl (by decide) rfl ?_
  refine r_iload_n 14 1 K (dk_of tX9_pass 7 rfl) rfl rfl ?_
  refine r_iadd 15 K (dk_of tX9_pass 8 rfl) ?_
  refine r_sipush 16 (2000 : Int32) K (dk_of tX9_pass 9 rfl) (by decide) ?_
  refine r_ic_le 19 32 K (dk_of tX9_pass 10 rfl) (by decide) hR (fun hR => ?_) (fun hR => ?_)
  · refine r_aload_n 32 0 K (dk_of tX9_pass 16 rfl) rfl rfl ?_
    refine r_getf (C := RX9) (T := TX9) (N := 6) 33 52 0 K (dk_of tX9_pass 17 rfl) w319 gwX9 rfl rfl (by decide) rfl ?_
    refine r_iload_n 36 1 K (dk_of tX9_pass 18 rfl) rfl rfl ?_
    obtain ⟨σ1, hc, hR⟩ := o1 hR
    refine r_cVv 37 0 [.int p1] [] (wB γ h σ1 ++ (wB γ g τ ++ (wS as9 (h 0) (g 0) an aq (ad 0) (ap 0) ++ (wN an (h 0) ν ++ (wR aq (h 0) ++ (wD γ ad δ ++ (wP γ ap π ++ (r)))))))) K (ct_X0_letPass hl hc.symm) cs_X9_140 ⟨rfl, rfl, rfl⟩ (dk_of tX9_pass 19 rfl) rfl rfl rfl rfl rfl rfl ?_
    refine r_aload_n 40 0 K (dk_of tX9_pass 20 rfl) rfl rfl ?_
    refine r_getf (C := RX9) (T := TX9) (N := 6) 41 52 0 K (dk_of tX9_pass 21 rfl) w319 gwX9 rfl rfl (by decide) rfl ?_
    refine r_getf (C := RX0) (T := TX0) (N := 9) 44 0 4 K (dk_of tX9_pass 22 rfl) w212 gwX0 rfl rfl (by decide) rfl ?_
    exact r_iret 47 K hQ (dk_of tX9_pass 23 rfl) (Nat.zero_le _) (Nat.zero_le _) (lzi (fun u9 : St => wB γ h u9 ++ (wB γ g τ ++ (wS as9 (h 0) (g 0) an aq (ad 0) (ap 0) ++ (wN an (h 0) ν ++ (wR aq (h 0) ++ (wD γ ad δ ++ (wP γ ap π ++ (r)))))))) _ hR)
  · exact r_thr 22 6 K hQ rfl thr3 (dk_of tX9_pass 11 rfl) (dk_of tX9_pass 12 rfl) (dk_of tX9_pass 13 rfl) (dk_of tX9_pass 14 rfl) (dk_of tX9_pass 15 rfl) rfl (zc (Option.some.inj hR)) (zs (Option.some.inj hR)) (zc (Option.some.inj hR)) (zs (Option.some.inj hR)) (lxi (fun u9 : St => wB γ h u9 ++ (wB γ g τ ++ (wS as9 (h 0) (g 0) an aq (ad 0) (ap 0) ++ (wN an (h 0) ν ++ (wR aq (h 0) ++ (wD γ ad δ ++ (wP γ ap π ++ (r)))))))) (Option.some.inj hR))

def sp_X9_at (p1 : Int32) (p2 : Int32) (σ : St) : Option (Int32 ⊕ Nat) := bx (sp_X9_needNumber p1 (24 : Int32)) (fun _ => bx (sp_X9_needRange p2 (0 : Int32) (8 : Int32)) (fun _ => if p2 = 0 then (if p1 < 0 ∨ 24 ≤ p1.toNatClampNeg then none else (some (.inl (σ 4 p1.toNatClampNeg)))) else (if p2 = 1 then (if p1 < 0 ∨ 24 ≤ p1.toNatClampNeg then none else (some (.inl (σ 5 p1.toNatClampNeg)))) else (if p2 = 2 then (if p1 < 0 ∨ 24 ≤ p1.toNatClampNeg then none else (some (.inl (σ 6 p1.toNatClampNeg)))) else (if p2 = 3 then (if p1 < 0 ∨ 24 ≤ p1.toNatClampNeg then none else (some (.inl (σ 2 p1.toNatClampNeg)))) else (if p2 = 4 then (if p1 < 0 ∨ 24 ≤ p1.toNatClampNeg then none else (some (.inl (σ 3 p1.toNatClampNeg)))) else (if p2 = 5 then (if p1 < 0 ∨ 24 ≤ p1.toNatClampNeg then none else (some (.inl (σ 7 p1.toNatClampNeg)))) else (if p2 = 6 then (if p1 < 0 ∨ 24 ≤ p1.toNatClampNeg then none else (some (.inl (σ 8 p1.toNatClampNeg)))) else (if p2 = 7 then (if p1 < 0 ∨ 24 ≤ p1.toNatClampNeg then none else (some (.inl (σ 9 p1.toNatClampNeg)))) else (b1 (sp_X2_isClean p1 σ) (fun (x1 : Int32) => if x1 = 0 then (some (.inl (0 : Int32))) else (some (.inl (1 : Int32))))))))))))))
set_option maxHeartbeats 4000000 in
set_option maxRecDepth 100000 in
theorem ct_X9_at {l : Launch} (hl : l.stackTraces = false) {γ : Gd} {h : Nat → Nat} {g : Nat → Nat} {as9 : Nat} {an : Nat} {aq : Nat} {ad : Nat → Nat} {ap : Nat → Nat} {σ : St} {τ : St} {ν : (Nat → Int32)} {δ : St} {π : (St × Int64)} {r : va_W} {p1 : Int32} {p2 : Int32} {z : Int32 ⊕ Nat} (hR : some z = sp_X9_at p1 p2 σ) : Ct l γ yX9_at (Cond.code yX9_at cX9_at 4 (some .int)) ({ frames := 7, cells := mcz z, slots := msz z, locals := 104 } : Room) [.ref as9, .int p1, .int p2] (wB γ h σ ++ (wB γ g τ ++ (wS as9 (h 0) (g 0) an aq (ad 0) (ap 0) ++ (wN an (h 0) ν ++ (wR aq (h 0) ++ (wD γ ad δ ++ (wP γ ap π ++ (r)))))))) (Pzi0 (wB γ h σ ++ (wB γ g τ ++ (wS as9 (h 0) (g 0) an aq (ad 0) (ap 0) ++ (wN an (h 0) ν ++ (wR aq (h 0) ++ (wD γ ad δ ++ (wP γ ap π ++ (r)))))))) z) (mcz z) (msz z) := by
  refine Ct_of hl (by decide +kernel) rfl (Nat.le_of_ble_eq_true rfl) (L := [some (.ref as9), some (.int p1), some (.int p2), none]) rfl ?_
  intro X Q K hQ
  generalize ((wB γ h σ ++ (wB γ g τ ++ (wS as9 (h 0) (g 0) an aq (ad 0) (ap 0) ++ (wN an (h 0) ν ++ (wR aq (h 0) ++ (wD γ ad δ ++ (wP γ ap π ++ (r))))))), Q) : MX) = M at K hQ ⊢
  unfold sp_X9_at at hR
  refine r_iload_n 0 1 K (dk_of tX9_at 0 rfl) rfl rfl ?_
  refine r_bipush 1 (24 : Int32) K (dk_of tX9_at 1 rfl) (by decide) ?_
  rcases ox hR with ⟨_, hc, hR⟩ | ⟨k9, hc, hR⟩
  rotate_left
  · exact r_xS 3 [.int p1, .int (24 : Int32)] [] k9 (wB γ h σ ++ (wB γ g τ ++ (wS as9 (h 0) (g 0) an aq (ad 0) (ap 0) ++ (wN an (h 0) ν ++ (wR aq (h 0) ++ (wD γ ad δ ++ (wP γ ap π ++ (r)))))))) K (ct_X9_needNumber hl (z := .inr k9) hc.symm) cs_X9_49 ⟨rfl, rfl, rfl⟩ (dk_of tX9_at 2 rfl) rfl rfl rfl ⟨zc hR, zs hR⟩ (r_out 3 K hQ (zc hR) (zs hR) (lxi0 hR))
  refine r_cSv 3 [.int p1, .int (24 : Int32)] [] (wB γ h σ ++ (wB γ g τ ++ (wS as9 (h 0) (g 0) an aq (ad 0) (ap 0) ++ (wN an (h 0) ν ++ (wR aq (h 0) ++ (wD γ ad δ ++ (wP γ ap π ++ (r)))))))) K (ct_X9_needNumber hl (z := .inl ()) hc.symm) cs_X9_49 ⟨rfl, rfl, rfl⟩ (dk_of tX9_at 2 rfl) rfl rfl rfl rfl ?_
  refine r_iload_n 6 2 K (dk_of tX9_at 3 rfl) rfl rfl ?_
  refine r_iconst 7 (0 : Int32) K (dk_of tX9_at 4 rfl) (by decide) ?_
  refine r_bipush 8 (8 : Int32) K (dk_of tX9_at 5 rfl) (by decide) ?_
  rcases ox hR with ⟨_, hc, hR⟩ | ⟨k9, hc, hR⟩
  rotate_left
  · exact r_xS 10 [.int p2, .int (0 : Int32), .int (8 : Int32)] [] k9 (wB γ h σ ++ (wB γ g τ ++ (wS as9 (h 0) (g 0) an aq (ad 0) (ap 0) ++ (wN an (h 0) ν ++ (wR aq (h 0) ++ (wD γ ad δ ++ (wP γ ap π ++ (r)))))))) K (ct_X9_needRange hl (z := .inr k9) hc.symm) cs_X9_53 ⟨rfl, rfl, rfl⟩ (dk_of tX9_at 6 rfl) rfl rfl rfl ⟨zc hR, zs hR⟩ (r_out 10 K hQ (zc hR) (zs hR) (lxi0 hR))
  refine r_cSv 10 [.int p2, .int (0 : Int32), .int (8 : Int32)] [] (wB γ h σ ++ (wB γ g τ ++ (wS as9 (h 0) (g 0) an aq (ad 0) (ap 0) ++ (wN an (h 0) ν ++ (wR aq (h 0) ++ (wD γ ad δ ++ (wP γ ap π ++ (r)))))))) K (ct_X9_needRange hl (z := .inl ()) hc.symm) cs_X9_53 ⟨rfl, rfl, rfl⟩ (dk_of tX9_at 6 rfl) rfl rfl rfl rfl ?_
  refine r_aload_n 13 0 K (dk_of tX9_at 7 rfl) rfl rfl ?_
  refine r_getf (C := RX9) (T := TX9) (N := 6) 14 52 0 K (dk_of tX9_at 8 rfl) w319 gwX9 rfl rfl (by decide) rfl ?_
  refine r_getf (C := RX0) (T := TX0) (N := 9) 17 0 0 K (dk_of tX9_at 9 rfl) w202 gwX0 rfl rfl (by decide) rfl ?_
  refine r_astore_n 20 3 [some (.ref as9), some (.int p1), some (.int p2), some (.ref (h 1))] K (dk_of tX9_at 10 rfl) rfl rfl rfl (by decide) ?_
  refine r_iload_n 21 2 K (dk_of tX9_at 11 rfl) rfl rfl ?_
  refine r_case hR (fun c22_0 hR => ?_) (fun c22_0 hR => ?_)
  · refine r_tswIn 22 68 K (v := 0) c22_0 (dk_of tX9_at 12 rfl) (by decide) (by decide) rfl (by decide) ?_
    refine r_aload_n 68 3 K (dk_of tX9_at 13 rfl) rfl rfl ?_
    refine r_getf (C := RX2) (T := TX2) (N := 8) 69 1 2 K (dk_of tX9_at 14 rfl) w53 gwX2 rfl rfl (by decide) rfl ?_
    refine r_iload_n 72 1 K (dk_of tX9_at 15 rfl) rfl rfl ?_
    refine r_ialdR 73 4 K (dk_of tX9_at 16 rfl) rfl hR (fun hR => ?_)
    exact r_iret 74 K hQ (dk_of tX9_at 17 rfl) (Nat.zero_le _) (Nat.zero_le _) (lzi0 hR)
  · refine r_case hR (fun c22_1 hR => ?_) (fun c22_1 hR => ?_)
    · refine r_tswIn 22 75 K (v := 1) c22_1 (dk_of tX9_at 12 rfl) (by decide) (by decide) rfl (by decide) ?_
      refine r_aload_n 75 3 K (dk_of tX9_at 18 rfl) rfl rfl ?_
      refine r_getf (C := RX2) (T := TX2) (N := 8) 76 1 3 K (dk_of tX9_at 19 rfl) w58 gwX2 rfl rfl (by decide) rfl ?_
      refine r_iload_n 79 1 K (dk_of tX9_at 20 rfl) rfl rfl ?_
      refine r_ialdR 80 5 K (dk_of tX9_at 21 rfl) rfl hR (fun hR => ?_)
      exact r_iret 81 K hQ (dk_of tX9_at 22 rfl) (Nat.zero_le _) (Nat.zero_le _) (lzi0 hR)
    · refine r_case hR (fun c22_2 hR => ?_) (fun c22_2 hR => ?_)
      · refine r_tswIn 22 82 K (v := 2) c22_2 (dk_of tX9_at 12 rfl) (by decide) (by decide) rfl (by decide) ?_
        refine r_aload_n 82 3 K (dk_of tX9_at 23 rfl) rfl rfl ?_
        refine r_getf (C := RX2) (T := TX2) (N := 8) 83 1 4 K (dk_of tX9_at 24 rfl) w61 gwX2 rfl rfl (by decide) rfl ?_
        refine r_iload_n 86 1 K (dk_of tX9_at 25 rfl) rfl rfl ?_
        refine r_ialdR 87 6 K (dk_of tX9_at 26 rfl) rfl hR (fun hR => ?_)
        exact r_iret 88 K hQ (dk_of tX9_at 27 rfl) (Nat.zero_le _) (Nat.zero_le _) (lzi0 hR)
      · refine r_case hR (fun c22_3 hR => ?_) (fun c22_3 hR => ?_)
        · refine r_tswIn 22 89 K (v := 3) c22_3 (dk_of tX9_at 12 rfl) (by decide) (by decide) rfl (by decide) ?_
          refine r_aload_n 89 3 K (dk_of tX9_at 28 rfl) rfl rfl ?_
          refine r_getf (C := RX2) (T := TX2) (N := 8) 90 1 0 K (dk_of tX9_at 29 rfl) w45 gwX2 rfl rfl (by decide) rfl ?_
          refine r_iload_n 93 1 K (dk_of tX9_at 30 rfl) rfl rfl ?_
          refine r_ialdR 94 2 K (dk_of tX9_at 31 rfl) rfl hR (fun hR => ?_)
          exact r_iret 95 K hQ (dk_of tX9_at 32 rfl) (Nat.zero_le _) (Nat.zero_le _) (lzi0 hR)
        · refine r_case hR (fun c22_4 hR => ?_) (fun c22_4 hR => ?_)
          · refine r_tswIn 22 96 K (v := 4) c22_4 (dk_of tX9_at 12 rfl) (by decide) (by decide) rfl (by decide) ?_
            refine r_aload_n 96 3 K (dk_of tX9_at 33 rfl) rfl rfl ?_
            refine r_getf (C := RX2) (T := TX2) (N := 8) 97 1 1 K (dk_of tX9_at 34 rfl) w48 gwX2 rfl rfl (by decide) rfl ?_
            refine r_iload_n 100 1 K (dk_of tX9_at 35 rfl) rfl rfl ?_
            refine r_ialdR 101 3 K (dk_of tX9_at 36 rfl) rfl hR (fun hR => ?_)
            exact r_iret 102 K hQ (dk_of tX9_at 37 rfl) (Nat.zero_le _) (Nat.zero_le _) (lzi0 hR)
          · refine r_case hR (fun c22_5 hR => ?_) (fun c22_5 hR => ?_)
            · refine r_tswIn 22 103 K (v := 5) c22_5 (dk_of tX9_at 12 rfl) (by decide) (by decide) rfl (by decide) ?_
              refine r_aload_n 103 3 K (dk_of tX9_at 38 rfl) rfl rfl ?_
              refine r_getf (C := RX2) (T := TX2) (N := 8) 104 1 5 K (dk_of tX9_at 39 rfl) w64 gwX2 rfl rfl (by decide) rfl ?_
              refine r_iload_n 107 1 K (dk_of tX9_at 40 rfl) rfl rfl ?_
              refine r_ialdR 108 7 K (dk_of tX9_at 41 rfl) rfl hR (fun hR => ?_)
              exact r_iret 109 K hQ (dk_of tX9_at 42 rfl) (Nat.zero_le _) (Nat.zero_le _) (lzi0 hR)
            · refine r_case hR (fun c22_6 hR => ?_) (fun c22_6 hR => ?_)
              · refine r_tswIn 22 110 K (v := 6) c22_6 (dk_of tX9_at 12 rfl) (by decide) (by decide) rfl (by decide) ?_
                refine r_aload_n 110 3 K (dk_of tX9_at 43 rfl) rfl rfl ?_
                refine r_getf (C := RX2) (T := TX2) (N := 8) 111 1 6 K (dk_of tX9_at 44 rfl) w66 gwX2 rfl rfl (by decide) rfl ?_
                refine r_iload_n 114 1 K (dk_of tX9_at 45 rfl) rfl rfl ?_
                refine r_ialdR 115 8 K (dk_of tX9_at 46 rfl) rfl hR (fun hR => ?_)
                exact r_iret 116 K hQ (dk_of tX9_at 47 rfl) (Nat.zero_le _) (Nat.zero_le _) (lzi0 hR)
              · refine r_case hR (fun c22_7 hR => ?_) (fun c22_7 hR => ?_)
                · refine r_tswIn 22 117 K (v := 7) c22_7 (dk_of tX9_at 12 rfl) (by decide) (by decide) rfl (by decide) ?_
                  refine r_aload_n 117 3 K (dk_of tX9_at 48 rfl) rfl rfl ?_
                  refine r_getf (C := RX2) (T := TX2) (N := 8) 118 1 7 K (dk_of tX9_at 49 rfl) w68 gwX2 rfl rfl (by decide) rfl ?_
                  refine r_iload_n 121 1 K (dk_of tX9_at 50 rfl) rfl rfl ?_
                  refine r_ialdR 122 9 K (dk_of tX9_at 51 rfl) rfl hR (fun hR => ?_)
                  exact r_iret 123 K hQ (dk_of tX9_at 52 rfl) (Nat.zero_le _) (Nat.zero_le _) (lzi0 hR)
                · refine r_tswOut 22 124 K (dk_of tX9_at 12 rfl) (by have e0 := i32_ne (0) c22_0 (by decide); have e1 := i32_ne (1) c22_1 (by decide); have e2 := i32_ne (2) c22_2 (by decide); have e3 := i32_ne (3) c22_3 (by decide); have e4 := i32_ne (4) c22_4 (by decide); have e5 := i32_ne (5) c22_5 (by decide); have e6 := i32_ne (6) c22_6 (by decide); have e7 := i32_ne (7) c22_7 (by decide); omega) (by decide) ?_
                  refine r_aload_n 124 3 K (dk_of tX9_at 53 rfl) rfl rfl ?_
                  refine r_iload_n 125 1 K (dk_of tX9_at 54 rfl) rfl rfl ?_
                  obtain ⟨x1, hc, hR⟩ := o1 hR
                  refine r_cVi 126 1 [.int p1] [] x1 (wB γ h σ ++ (wB γ g τ ++ (wS as9 (h 0) (g 0) an aq (ad 0) (ap 0) ++ (wN an (h 0) ν ++ (wR aq (h 0) ++ (wD γ ad δ ++ (wP γ ap π ++ (r)))))))) K (ct_X2_isClean hl hc.symm) cs_X9_161 ⟨rfl, rfl, rfl⟩ (dk_of tX9_at 55 rfl) rfl rfl rfl rfl rfl rfl ?_
                  refine r_if_eq 129 136 K (dk_of tX9_at 56 rfl) (by decide) hR (fun hR => ?_) (fun hR => ?_)
                  · refine r_iconst 136 (0 : Int32) K (dk_of tX9_at 59 rfl) (by decide) ?_
                    exact r_iret 137 K hQ (dk_of tX9_at 60 rfl) (Nat.zero_le _) (Nat.zero_le _) (lzi0 hR)
                  · refine r_iconst 132 (1 : Int32) K (dk_of tX9_at 57 rfl) (by decide) ?_
                    refine r_goto 133 137 K (dk_of tX9_at 58 rfl) (by decide) ?_
                    exact r_iret 137 K hQ (dk_of tX9_at 60 rfl) (Nat.zero_le _) (Nat.zero_le _) (lzi0 hR)

def sp_X9_needRoomForMeans  (σ : St) : Option ((Unit) ⊕ Nat) := if (σ 14 0) < (20 : Int32) then (some (.inl ())) else (some (.inr 3))
set_option maxHeartbeats 4000000 in
set_option maxRecDepth 100000 in
theorem ct_X9_needRoomForMeans {l : Launch} (hl : l.stackTraces = false) {γ : Gd} {h : Nat → Nat} {g : Nat → Nat} {as9 : Nat} {an : Nat} {aq : Nat} {ad : Nat → Nat} {ap : Nat → Nat} {σ : St} {τ : St} {ν : (Nat → Int32)} {δ : St} {π : (St × Int64)} {r : va_W}  {z : (Unit) ⊕ Nat} (hR : some z = sp_X9_needRoomForMeans σ) : Ct l γ yX9_needRoomForMeans (Cond.code yX9_needRoomForMeans cX9_needRoomForMeans 1 none) ({ frames := 6, cells := mcz z, slots := msz z, locals := 82 } : Room) [.ref as9] (wB γ h σ ++ (wB γ g τ ++ (wS as9 (h 0) (g 0) an aq (ad 0) (ap 0) ++ (wN an (h 0) ν ++ (wR aq (h 0) ++ (wD γ ad δ ++ (wP γ ap π ++ (r)))))))) (Pzv0 (wB γ h σ ++ (wB γ g τ ++ (wS as9 (h 0) (g 0) an aq (ad 0) (ap 0) ++ (wN an (h 0) ν ++ (wR aq (h 0) ++ (wD γ ad δ ++ (wP γ ap π ++ (r)))))))) z) (mcz z) (msz z) := by
  refine Ct_of hl (by decide +kernel) rfl (Nat.le_of_ble_eq_true rfl) (L := [some (.ref as9)]) rfl ?_
  intro X Q K hQ
  generalize ((wB γ h σ ++ (wB γ g τ ++ (wS as9 (h 0) (g 0) an aq (ad 0) (ap 0) ++ (wN an (h 0) ν ++ (wR aq (h 0) ++ (wD γ ad δ ++ (wP γ ap π ++ (r))))))), Q) : MX) = M at K hQ ⊢
  unfold sp_X9_needRoomForMeans at hR
  refine r_aload_n 0 0 K (dk_of tX9_needRoomForMeans 0 rfl) rfl rfl ?_
  refine r_getf (C := RX9) (T := TX9) (N := 6) 1 52 0 K (dk_of tX9_needRoomForMeans 1 rfl) w319 gwX9 rfl rfl (by decide) rfl ?_
  refine r_getf (C := RX0) (T := TX0) (N := 9) 4 0 2 K (dk_of tX9_needRoomForMeans 2 rfl) w208 gwX0 rfl rfl (by decide) rfl ?_
  refine r_getf (C := RX4) (T := TX4) (N := 9) 7 14 0 K (dk_of tX9_needRoomForMeans 3 rfl) w124 gwX4 rfl rfl (by decide) rfl ?_
  refine r_bipush 10 (20 : Int32) K (dk_of tX9_needRoomForMeans 4 rfl) (by decide) ?_
  refine r_ic_lt 12 26 K (dk_of tX9_needRoomForMeans 5 rfl) (by decide) hR (fun hR => ?_) (fun hR => ?_)
  · exact r_vret 26 K hQ (dk_of tX9_needRoomForMeans 11 rfl) (Nat.zero_le _) (Nat.zero_le _) (lzv0 hR)
  · exact r_thrW 15 8 K hQ rfl thr3 (dk_of tX9_needRoomForMeans 6 rfl) (dk_of tX9_needRoomForMeans 7 rfl) (dk_of tX9_needRoomForMeans 8 rfl) (dk_of tX9_needRoomForMeans 9 rfl) (dk_of tX9_needRoomForMeans 10 rfl) rfl (zc (Option.some.inj hR)) (zs (Option.some.inj hR)) (zc (Option.some.inj hR)) (zs (Option.some.inj hR)) (lxv0 (Option.some.inj hR))

def sp_X9_team (p1 : Int32) (p2 : Int32) (σ : St) : Option ((Int32 × St) ⊕ Nat) := bx (sp_X9_needRange p1 (1 : Int32) (50 : Int32)) (fun _ => bx (sp_X9_needRoomForMeans σ) (fun _ => b2 (sp_X4_add (2 : Int32) (-1 : Int32) p1 σ) (fun (x1 : Int32) (σ2 : St) => if x1 < 0 ∨ 20 ≤ x1.toNatClampNeg then none else (sl (stU σ2 21 x1.toNatClampNeg (vp_nar .boolean p2)) (fun σ3 : St => some (.inl (x1, σ3)))))))
set_option maxHeartbeats 4000000 in
set_option maxRecDepth 100000 in
theorem ct_X9_team {l : Launch} (hl : l.stackTraces = false) {γ : Gd} {h : Nat → Nat} {g : Nat → Nat} {as9 : Nat} {an : Nat} {aq : Nat} {ad : Nat → Nat} {ap : Nat → Nat} {σ : St} {τ : St} {ν : (Nat → Int32)} {δ : St} {π : (St × Int64)} {r : va_W} {p1 : Int32} {p2 : Int32} {z : (Int32 × St) ⊕ Nat} (hR : some z = sp_X9_team p1 p2 σ) : Ct l γ yX9_team (Cond.code yX9_team cX9_team 4 (some .int)) ({ frames := 7, cells := mcz z, slots := msz z, locals := 104 } : Room) [.ref as9, .int p1, .int p2] (wB γ h σ ++ (wB γ g τ ++ (wS as9 (h 0) (g 0) an aq (ad 0) (ap 0) ++ (wN an (h 0) ν ++ (wR aq (h 0) ++ (wD γ ad δ ++ (wP γ ap π ++ (r)))))))) (Pzi (fun u9 : St => wB γ h u9 ++ (wB γ g τ ++ (wS as9 (h 0) (g 0) an aq (ad 0) (ap 0) ++ (wN an (h 0) ν ++ (wR aq (h 0) ++ (wD γ ad δ ++ (wP γ ap π ++ (r)))))))) (wB γ h σ ++ (wB γ g τ ++ (wS as9 (h 0) (g 0) an aq (ad 0) (ap 0) ++ (wN an (h 0) ν ++ (wR aq (h 0) ++ (wD γ ad δ ++ (wP γ ap π ++ (r)))))))) z) (mcz z) (msz z) := by
  refine Ct_of hl (by decide +kernel) rfl (Nat.le_of_ble_eq_true rfl) (L := [some (.ref as9), some (.int p1), some (.int p2), none]) rfl ?_
  intro X Q K hQ
  generalize ((wB γ h σ ++ (wB γ g τ ++ (wS as9 (h 0) (g 0) an aq (ad 0) (ap 0) ++ (wN an (h 0) ν ++ (wR aq (h 0) ++ (wD γ ad δ ++ (wP γ ap π ++ (r))))))), Q) : MX) = M at K hQ ⊢
  unfold sp_X9_team at hR
  refine r_iload_n 0 1 K (dk_of tX9_team 0 rfl) rfl rfl ?_
  refine r_iconst 1 (1 : Int32) K (dk_of tX9_team 1 rfl) (by decide) ?_
  refine r_bipush 2 (50 : Int32) K (dk_of tX9_team 2 rfl) (by decide) ?_
  rcases ox hR with ⟨_, hc, hR⟩ | ⟨k9, hc, hR⟩
  rotate_left
  · exact r_xS 4 [.int p1, .int (1 : Int32), .int (50 : Int32)] [] k9 (wB γ h σ ++ (wB γ g τ ++ (wS as9 (h 0) (g 0) an aq (ad 0) (ap 0) ++ (wN an (h 0) ν ++ (wR aq (h 0) ++ (wD γ ad δ ++ (wP γ ap π ++ (r)))))))) K (ct_X9_needRange hl (z := .inr k9) hc.symm) cs_X9_53 ⟨rfl, rfl, rfl⟩ (dk_of tX9_team 3 rfl) rfl rfl rfl ⟨zc hR, zs hR⟩ (r_out 4 K hQ (zc hR) (zs hR) (lxi (fun u9 : St => wB γ h u9 ++ (wB γ g τ ++ (wS as9 (h 0) (g 0) an aq (ad 0) (ap 0) ++ (wN an (h 0) ν ++ (wR aq (h 0) ++ (wD γ ad δ ++ (wP γ ap π ++ (r)))))))) hR))
  refine r_cSv 4 [.int p1, .int (1 : Int32), .int (50 : Int32)] [] (wB γ h σ ++ (wB γ g τ ++ (wS as9 (h 0) (g 0) an aq (ad 0) (ap 0) ++ (wN an (h 0) ν ++ (wR aq (h 0) ++ (wD γ ad δ ++ (wP γ ap π ++ (r)))))))) K (ct_X9_needRange hl (z := .inl ()) hc.symm) cs_X9_53 ⟨rfl, rfl, rfl⟩ (dk_of tX9_team 3 rfl) rfl rfl rfl rfl ?_
  refine r_aload_n 7 0 K (dk_of tX9_team 4 rfl) rfl rfl ?_
  rcases ox hR with ⟨_, hc, hR⟩ | ⟨k9, hc, hR⟩
  rotate_left
  · exact r_xV 8 52 [] [] k9 (wB γ h σ ++ (wB γ g τ ++ (wS as9 (h 0) (g 0) an aq (ad 0) (ap 0) ++ (wN an (h 0) ν ++ (wR aq (h 0) ++ (wD γ ad δ ++ (wP γ ap π ++ (r)))))))) K (ct_X9_needRoomForMeans hl (z := .inr k9) hc.symm) cs_X9_169 ⟨rfl, rfl, rfl⟩ (dk_of tX9_team 5 rfl) rfl rfl rfl rfl rfl ⟨zc hR, zs hR⟩ (r_out 8 K hQ (zc hR) (zs hR) (lxi (fun u9 : St => wB γ h u9 ++ (wB γ g τ ++ (wS as9 (h 0) (g 0) an aq (ad 0) (ap 0) ++ (wN an (h 0) ν ++ (wR aq (h 0) ++ (wD γ ad δ ++ (wP γ ap π ++ (r)))))))) hR))
  refine r_cVv 8 52 [] [] (wB γ h σ ++ (wB γ g τ ++ (wS as9 (h 0) (g 0) an aq (ad 0) (ap 0) ++ (wN an (h 0) ν ++ (wR aq (h 0) ++ (wD γ ad δ ++ (wP γ ap π ++ (r)))))))) K (ct_X9_needRoomForMeans hl (z := .inl ()) hc.symm) cs_X9_169 ⟨rfl, rfl, rfl⟩ (dk_of tX9_team 5 rfl) rfl rfl rfl rfl rfl rfl ?_
  refine r_aload_n 11 0 K (dk_of tX9_team 6 rfl) rfl rfl ?_
  refine r_getf (C := RX9) (T := TX9) (N := 6) 12 52 0 K (dk_of tX9_team 7 rfl) w319 gwX9 rfl rfl (by decide) rfl ?_
  refine r_getf (C := RX0) (T := TX0) (N := 9) 15 0 2 K (dk_of tX9_team 8 rfl) w208 gwX0 rfl rfl (by decide) rfl ?_
  refine r_iconst 18 (2 : Int32) K (dk_of tX9_team 9 rfl) (by decide) ?_
  refine r_iconst 19 (-1) K (dk_of tX9_team 10 rfl) (by decide) ?_
  refine r_iload_n 20 1 K (dk_of tX9_team 11 rfl) rfl rfl ?_
  obtain ⟨x1, σ2, hc, hR⟩ := o2 hR
  refine r_cVi 21 14 [.int (2 : Int32), .int (-1 : Int32), .int p1] [] x1 (wB γ h σ2 ++ (wB γ g τ ++ (wS as9 (h 0) (g 0) an aq (ad 0) (ap 0) ++ (wN an (h 0) ν ++ (wR aq (h 0) ++ (wD γ ad δ ++ (wP γ ap π ++ (r)))))))) K (ct_X4_add hl hc.symm) cs_X9_172 ⟨rfl, rfl, rfl⟩ (dk_of tX9_team 12 rfl) rfl rfl rfl rfl rfl rfl ?_
  refine r_istore_n 24 3 [some (.ref as9), some (.int p1), some (.int p2), some (.int x1)] K (dk_of tX9_team 13 rfl) rfl rfl rfl (by decide) ?_
  refine r_aload_n 25 0 K (dk_of tX9_team 14 rfl) rfl rfl ?_
  refine r_getf (C := RX9) (T := TX9) (N := 6) 26 52 0 K (dk_of tX9_team 15 rfl) w319 gwX9 rfl rfl (by decide) rfl ?_
  refine r_getf (C := RX0) (T := TX0) (N := 9) 29 0 2 K (dk_of tX9_team 16 rfl) w208 gwX0 rfl rfl (by decide) rfl ?_
  refine r_getf (C := RX4) (T := TX4) (N := 9) 32 14 7 K (dk_of tX9_team 17 rfl) w143 gwX4 rfl rfl (by decide) rfl ?_
  refine r_iload_n 35 3 K (dk_of tX9_team 18 rfl) rfl rfl ?_
  refine r_iload_n 36 2 K (dk_of tX9_team 19 rfl) rfl rfl ?_
  refine r_zastR 37 21 K (dk_of tX9_team 20 rfl) rfl sB_21 hR (fun hR => ?_)
  refine r_nmS (fun σ3 : St => wB γ h σ3 ++ (wB γ g τ ++ (wS as9 (h 0) (g 0) an aq (ad 0) (ap 0) ++ (wN an (h 0) ν ++ (wR aq (h 0) ++ (wD γ ad δ ++ (wP γ ap π ++ (r)))))))) hR (fun σ3 hR => ?_)
  refine r_iload_n 38 3 K (dk_of tX9_team 21 rfl) rfl rfl ?_
  exact r_iret 39 K hQ (dk_of tX9_team 22 rfl) (Nat.zero_le _) (Nat.zero_le _) (lzi (fun u9 : St => wB γ h u9 ++ (wB γ g τ ++ (wS as9 (h 0) (g 0) an aq (ad 0) (ap 0) ++ (wN an (h 0) ν ++ (wR aq (h 0) ++ (wD γ ad δ ++ (wP γ ap π ++ (r)))))))) _ hR)

def sp_X9_needShore (p1 : Int32) (σ : St) : Option ((Unit) ⊕ Nat) := b1 (sp_X2_isWater p1 σ) (fun (x1 : Int32) => if x1 = 0 then (some (.inl ())) else (some (.inr 3)))
set_option maxHeartbeats 4000000 in
set_option maxRecDepth 100000 in
theorem ct_X9_needShore {l : Launch} (hl : l.stackTraces = false) {γ : Gd} {h : Nat → Nat} {g : Nat → Nat} {as9 : Nat} {an : Nat} {aq : Nat} {ad : Nat → Nat} {ap : Nat → Nat} {σ : St} {τ : St} {ν : (Nat → Int32)} {δ : St} {π : (St × Int64)} {r : va_W} {p1 : Int32} {z : (Unit) ⊕ Nat} (hR : some z = sp_X9_needShore p1 σ) : Ct l γ yX9_needShore (Cond.code yX9_needShore cX9_needShore 2 none) ({ frames := 6, cells := mcz z, slots := msz z, locals := 82 } : Room) [.ref as9, .int p1] (wB γ h σ ++ (wB γ g τ ++ (wS as9 (h 0) (g 0) an aq (ad 0) (ap 0) ++ (wN an (h 0) ν ++ (wR aq (h 0) ++ (wD γ ad δ ++ (wP γ ap π ++ (r)))))))) (Pzv0 (wB γ h σ ++ (wB γ g τ ++ (wS as9 (h 0) (g 0) an aq (ad 0) (ap 0) ++ (wN an (h 0) ν ++ (wR aq (h 0) ++ (wD γ ad δ ++ (wP γ ap π ++ (r)))))))) z) (mcz z) (msz z) := by
  refine Ct_of hl (by decide +kernel) rfl (Nat.le_of_ble_eq_true rfl) (L := [some (.ref as9), some (.int p1)]) rfl ?_
  intro X Q K hQ
  generalize ((wB γ h σ ++ (wB γ g τ ++ (wS as9 (h 0) (g 0) an aq (ad 0) (ap 0) ++ (wN an (h 0) ν ++ (wR aq (h 0) ++ (wD γ ad δ ++ (wP γ ap π ++ (r))))))), Q) : MX) = M at K hQ ⊢
  unfold sp_X9_needShore at hR
  refine r_aload_n 0 0 K (dk_of tX9_needShore 0 rfl) rfl rfl ?_
  refine r_getf (C := RX9) (T := TX9) (N := 6) 1 52 0 K (dk_of tX9_needShore 1 rfl) w319 gwX9 rfl rfl (by decide) rfl ?_
  refine r_getf (C := RX0) (T := TX0) (N := 9) 4 0 0 K (dk_of tX9_needShore 2 rfl) w202 gwX0 rfl rfl (by decide) rfl ?_
  refine r_iload_n 7 1 K (dk_of tX9_needShore 3 rfl) rfl rfl ?_
  obtain ⟨x1, hc, hR⟩ := o1 hR
  refine r_cVi 8 1 [.int p1] [] x1 (wB γ h σ ++ (wB γ g τ ++ (wS as9 (h 0) (g 0) an aq (ad 0) (ap 0) ++ (wN an (h 0) ν ++ (wR aq (h 0) ++ (wD γ ad δ ++ (wP γ ap π ++ (r)))))))) K (ct_X2_isWater hl hc.symm) cs_X9_291 ⟨rfl, rfl, rfl⟩ (dk_of tX9_needShore 4 rfl) rfl rfl rfl rfl rfl rfl ?_
  refine r_if_eq 11 25 K (dk_of tX9_needShore 5 rfl) (by decide) hR (fun hR => ?_) (fun hR => ?_)
  · exact r_vret 25 K hQ (dk_of tX9_needShore 11 rfl) (Nat.zero_le _) (Nat.zero_le _) (lzv0 hR)
  · exact r_thrW 14 10 K hQ rfl thr3 (dk_of tX9_needShore 6 rfl) (dk_of tX9_needShore 7 rfl) (dk_of tX9_needShore 8 rfl) (dk_of tX9_needShore 9 rfl) (dk_of tX9_needShore 10 rfl) rfl (zc (Option.some.inj hR)) (zs (Option.some.inj hR)) (zc (Option.some.inj hR)) (zs (Option.some.inj hR)) (lxv0 (Option.some.inj hR))

def sp_X9_birds (p1 : Int32) (p2 : Int32) (σ : St) : Option ((Int32 × St) ⊕ Nat) := bx (sp_X9_needNumber p1 (24 : Int32)) (fun _ => bx (sp_X9_needRange p2 (1 : Int32) (100 : Int32)) (fun _ => bx (sp_X9_needShore p1 σ) (fun _ => if p1 < 0 ∨ 24 ≤ p1.toNatClampNeg then none else (if ((σ 7 p1.toNatClampNeg) + p2) ≤ (1000 : Int32) then (if p1 < 0 ∨ 24 ≤ p1.toNatClampNeg then none else (if p1 < 0 ∨ 24 ≤ p1.toNatClampNeg then none else (sl (stU σ 7 p1.toNatClampNeg ((σ 7 p1.toNatClampNeg) + p2)) (fun σ1 : St => if p1 < 0 ∨ 24 ≤ p1.toNatClampNeg then none else (some (.inl ((σ1 7 p1.toNatClampNeg), σ1))))))) else (some (.inr 3))))))
set_option maxHeartbeats 4000000 in
set_option maxRecDepth 100000 in
theorem ct_X9_birds {l : Launch} (hl : l.stackTraces = false) {γ : Gd} {h : Nat → Nat} {g : Nat → Nat} {as9 : Nat} {an : Nat} {aq : Nat} {ad : Nat → Nat} {ap : Nat → Nat} {σ : St} {τ : St} {ν : (Nat → Int32)} {δ : St} {π : (St × Int64)} {r : va_W} {p1 : Int32} {p2 : Int32} {z : (Int32 × St) ⊕ Nat} (hR : some z = sp_X9_birds p1 p2 σ) : Ct l γ yX9_birds (Cond.code yX9_birds cX9_birds 3 (some .int)) ({ frames := 7, cells := mcz z, slots := msz z, locals := 104 } : Room) [.ref as9, .int p1, .int p2] (wB γ h σ ++ (wB γ g τ ++ (wS as9 (h 0) (g 0) an aq (ad 0) (ap 0) ++ (wN an (h 0) ν ++ (wR aq (h 0) ++ (wD γ ad δ ++ (wP γ ap π ++ (r)))))))) (Pzi (fun u9 : St => wB γ h u9 ++ (wB γ g τ ++ (wS as9 (h 0) (g 0) an aq (ad 0) (ap 0) ++ (wN an (h 0) ν ++ (wR aq (h 0) ++ (wD γ ad δ ++ (wP γ ap π ++ (r)))))))) (wB γ h σ ++ (wB γ g τ ++ (wS as9 (h 0) (g 0) an aq (ad 0) (ap 0) ++ (wN an (h 0) ν ++ (wR aq (h 0) ++ (wD γ ad δ ++ (wP γ ap π ++ (r)))))))) z) (mcz z) (msz z) := by
  refine Ct_of hl (by decide +kernel) rfl (Nat.le_of_ble_eq_true rfl) (L := [some (.ref as9), some (.int p1), some (.int p2)]) rfl ?_
  intro X Q K hQ
  generalize ((wB γ h σ ++ (wB γ g τ ++ (wS as9 (h 0) (g 0) an aq (ad 0) (ap 0) ++ (wN an (h 0) ν ++ (wR aq (h 0) ++ (wD γ ad δ ++ (wP γ ap π ++ (r))))))), Q) : MX) = M at K hQ ⊢
  unfold sp_X9_birds at hR
  refine r_iload_n 0 1 K (dk_of tX9_birds 0 rfl) rfl rfl ?_
  refine r_bipush 1 (24 : Int32) K (dk_of tX9_birds 1 rfl) (by decide) ?_
  rcases ox hR with ⟨_, hc, hR⟩ | ⟨k9, hc, hR⟩
  rotate_left
  · exact r_xS 3 [.int p1, .int (24 : Int32)] [] k9 (wB γ h σ ++ (wB γ g τ ++ (wS as9 (h 0) (g 0) an aq (ad 0) (ap 0) ++ (wN an (h 0) ν ++ (wR aq (h 0) ++ (wD γ ad δ ++ (wP γ ap π ++ (r)))))))) K (ct_X9_needNumber hl (z := .inr k9) hc.symm) cs_X9_49 ⟨rfl, rfl, rfl⟩ (dk_of tX9_birds 2 rfl) rfl rfl rfl ⟨zc hR, zs hR⟩ (r_out 3 K hQ (zc hR) (zs hR) (lxi (fun u9 : St => wB γ h u9 ++ (wB γ g τ ++ (wS as9 (h 0) (g 0) an aq (ad 0) (ap 0) ++ (wN an (h 0) ν ++ (wR aq (h 0) ++ (wD γ ad δ ++ (wP γ ap π ++ (r)))))))) hR))
  refine r_cSv 3 [.int p1, .int (24 : Int32)] [] (wB γ h σ ++ (wB γ g τ ++ (wS as9 (h 0) (g 0) an aq (ad 0) (ap 0) ++ (wN an (h 0) ν ++ (wR aq (h 0) ++ (wD γ ad δ ++ (wP γ ap π ++ (r)))))))) K (ct_X9_needNumber hl (z := .inl ()) hc.symm) cs_X9_49 ⟨rfl, rfl, rfl⟩ (dk_of tX9_birds 2 rfl) rfl rfl rfl rfl ?_
  refine r_iload_n 6 2 K (dk_of tX9_birds 3 rfl) rfl rfl ?_
  refine r_iconst 7 (1 : Int32) K (dk_of tX9_birds 4 rfl) (by decide) ?_
  refine r_bipush 8 (100 : Int32) K (dk_of tX9_birds 5 rfl) (by decide) ?_
  rcases ox hR with ⟨_, hc, hR⟩ | ⟨k9, hc, hR⟩
  rotate_left
  · exact r_xS 10 [.int p2, .int (1 : Int32), .int (100 : Int32)] [] k9 (wB γ h σ ++ (wB γ g τ ++ (wS as9 (h 0) (g 0) an aq (ad 0) (ap 0) ++ (wN an (h 0) ν ++ (wR aq (h 0) ++ (wD γ ad δ ++ (wP γ ap π ++ (r)))))))) K (ct_X9_needRange hl (z := .inr k9) hc.symm) cs_X9_53 ⟨rfl, rfl, rfl⟩ (dk_of tX9_birds 6 rfl) rfl rfl rfl ⟨zc hR, zs hR⟩ (r_out 10 K hQ (zc hR) (zs hR) (lxi (fun u9 : St => wB γ h u9 ++ (wB γ g τ ++ (wS as9 (h 0) (g 0) an aq (ad 0) (ap 0) ++ (wN an (h 0) ν ++ (wR aq (h 0) ++ (wD γ ad δ ++ (wP γ ap π ++ (r)))))))) hR))
  refine r_cSv 10 [.int p2, .int (1 : Int32), .int (100 : Int32)] [] (wB γ h σ ++ (wB γ g τ ++ (wS as9 (h 0) (g 0) an aq (ad 0) (ap 0) ++ (wN an (h 0) ν ++ (wR aq (h 0) ++ (wD γ ad δ ++ (wP γ ap π ++ (r)))))))) K (ct_X9_needRange hl (z := .inl ()) hc.symm) cs_X9_53 ⟨rfl, rfl, rfl⟩ (dk_of tX9_birds 6 rfl) rfl rfl rfl rfl ?_
  refine r_aload_n 13 0 K (dk_of tX9_birds 7 rfl) rfl rfl ?_
  refine r_iload_n 14 1 K (dk_of tX9_birds 8 rfl) rfl rfl ?_
  rcases ox hR with ⟨_, hc, hR⟩ | ⟨k9, hc, hR⟩
  rotate_left
  · exact r_xV 15 52 [.int p1] [] k9 (wB γ h σ ++ (wB γ g τ ++ (wS as9 (h 0) (g 0) an aq (ad 0) (ap 0) ++ (wN an (h 0) ν ++ (wR aq (h 0) ++ (wD γ ad δ ++ (wP γ ap π ++ (r)))))))) K (ct_X9_needShore hl (z := .inr k9) hc.symm) cs_X9_198 ⟨rfl, rfl, rfl⟩ (dk_of tX9_birds 9 rfl) rfl rfl rfl rfl rfl ⟨zc hR, zs hR⟩ (r_out 15 K hQ (zc hR) (zs hR) (lxi (fun u9 : St => wB γ h u9 ++ (wB γ g τ ++ (wS as9 (h 0) (g 0) an aq (ad 0) (ap 0) ++ (wN an (h 0) ν ++ (wR aq (h 0) ++ (wD γ ad δ ++ (wP γ ap π ++ (r)))))))) hR))
  refine r_cVv 15 52 [.int p1] [] (wB γ h σ ++ (wB γ g τ ++ (wS as9 (h 0) (g 0) an aq (ad 0) (ap 0) ++ (wN an (h 0) ν ++ (wR aq (h 0) ++ (wD γ ad δ ++ (wP γ ap π ++ (r)))))))) K (ct_X9_needShore hl (z := .inl ()) hc.symm) cs_X9_198 ⟨rfl, rfl, rfl⟩ (dk_of tX9_birds 9 rfl) rfl rfl rfl rfl rfl rfl ?_
  refine r_aload_n 18 0 K (dk_of tX9_birds 10 rfl) rfl rfl ?_
  refine r_getf (C := RX9) (T := TX9) (N := 6) 19 52 0 K (dk_of tX9_birds 11 rfl) w319 gwX9 rfl rfl (by decide) rfl ?_
  refine r_getf (C := RX0) (T := TX0) (N := 9) 22 0 0 K (dk_of tX9_birds 12 rfl) w202 gwX0 rfl rfl (by decide) rfl ?_
  refine r_getf (C := RX2) (T := TX2) (N := 8) 25 1 5 K (dk_of tX9_birds 13 rfl) w64 gwX2 rfl rfl (by decide) rfl ?_
  refine r_iload_n 28 1 K (dk_of tX9_birds 14 rfl) rfl rfl ?_
  refine r_ialdR 29 7 K (dk_of tX9_birds 15 rfl) rfl hR (fun hR => ?_)
  refine r_iload_n 30 2 K (dk_of tX9_birds 16 rfl) rfl rfl ?_
  refine r_iadd 31 K (dk_of tX9_birds 17 rfl) ?_
  refine r_sipush 32 (1000 : Int32) K (dk_of tX9_birds 18 rfl) (by decide) ?_
  refine r_ic_le 35 48 K (dk_of tX9_birds 19 rfl) (by decide) hR (fun hR => ?_) (fun hR => ?_)
  · refine r_aload_n 48 0 K (dk_of tX9_birds 25 rfl) rfl rfl ?_
    refine r_getf (C := RX9) (T := TX9) (N := 6) 49 52 0 K (dk_of tX9_birds 26 rfl) w319 gwX9 rfl rfl (by decide) rfl ?_
    refine r_getf (C := RX0) (T := TX0) (N := 9) 52 0 0 K (dk_of tX9_birds 27 rfl) w202 gwX0 rfl rfl (by decide) rfl ?_
    refine r_getf (C := RX2) (T := TX2) (N := 8) 55 1 5 K (dk_of tX9_birds 28 rfl) w64 gwX2 rfl rfl (by decide) rfl ?_
    refine r_iload_n 58 1 K (dk_of tX9_birds 29 rfl) rfl rfl ?_
    refine r_dup2 59 K (dk_of tX9_birds 30 rfl) rfl rfl ?_
    refine r_ialdR 60 7 K (dk_of tX9_birds 31 rfl) rfl hR (fun hR => ?_)
    refine r_iload_n 61 2 K (dk_of tX9_birds 32 rfl) rfl rfl ?_
    refine r_iadd 62 K (dk_of tX9_birds 33 rfl) ?_
    refine r_iastR 63 7 K (dk_of tX9_birds 34 rfl) rfl sB_7 hR (fun hR => ?_)
    refine r_nmS (fun σ1 : St => wB γ h σ1 ++ (wB γ g τ ++ (wS as9 (h 0) (g 0) an aq (ad 0) (ap 0) ++ (wN an (h 0) ν ++ (wR aq (h 0) ++ (wD γ ad δ ++ (wP γ ap π ++ (r)))))))) hR (fun σ1 hR => ?_)
    refine r_aload_n 64 0 K (dk_of tX9_birds 35 rfl) rfl rfl ?_
    refine r_getf (C := RX9) (T := TX9) (N := 6) 65 52 0 K (dk_of tX9_birds 36 rfl) w319 gwX9 rfl rfl (by decide) rfl ?_
    refine r_getf (C := RX0) (T := TX0) (N := 9) 68 0 0 K (dk_of tX9_birds 37 rfl) w202 gwX0 rfl rfl (by decide) rfl ?_
    refine r_getf (C := RX2) (T := TX2) (N := 8) 71 1 5 K (dk_of tX9_birds 38 rfl) w64 gwX2 rfl rfl (by decide) rfl ?_
    refine r_iload_n 74 1 K (dk_of tX9_birds 39 rfl) rfl rfl ?_
    refine r_ialdR 75 7 K (dk_of tX9_birds 40 rfl) rfl hR (fun hR => ?_)
    exact r_iret 76 K hQ (dk_of tX9_birds 41 rfl) (Nat.zero_le _) (Nat.zero_le _) (lzi (fun u9 : St => wB γ h u9 ++ (wB γ g τ ++ (wS as9 (h 0) (g 0) an aq (ad 0) (ap 0) ++ (wN an (h 0) ν ++ (wR aq (h 0) ++ (wD γ ad δ ++ (wP γ ap π ++ (r)))))))) _ hR)
  · exact r_thr 38 13 K hQ rfl thr3 (dk_of tX9_birds 20 rfl) (dk_of tX9_birds 21 rfl) (dk_of tX9_birds 22 rfl) (dk_of tX9_birds 23 rfl) (dk_of tX9_birds 24 rfl) rfl (zc (Option.some.inj hR)) (zs (Option.some.inj hR)) (zc (Option.some.inj hR)) (zs (Option.some.inj hR)) (lxi (fun u9 : St => wB γ h u9 ++ (wB γ g τ ++ (wS as9 (h 0) (g 0) an aq (ad 0) (ap 0) ++ (wN an (h 0) ν ++ (wR aq (h 0) ++ (wD γ ad δ ++ (wP γ ap π ++ (r)))))))) (Option.some.inj hR))

def sp_X9_claim (p1 : Int32) (π : (St × Int64)) : Option ((Int32 × (St × Int64)) ⊕ Nat) := bx (sp_X9_needRange p1 (1 : Int32) (1000000 : Int32)) (fun _ => if (π.1 0 0) < (20 : Int32) then (b2 (sp_X6_add p1 π) (fun (x1 : Int32) (π2 : (St × Int64)) => some (.inl (x1, π2)))) else (some (.inr 3)))
set_option maxHeartbeats 4000000 in
set_option maxRecDepth 100000 in
theorem ct_X9_claim {l : Launch} (hl : l.stackTraces = false) {γ : Gd} {h : Nat → Nat} {g : Nat → Nat} {as9 : Nat} {an : Nat} {aq : Nat} {ad : Nat → Nat} {ap : Nat → Nat} {σ : St} {τ : St} {ν : (Nat → Int32)} {δ : St} {π : (St × Int64)} {r : va_W} {p1 : Int32} {z : (Int32 × (St × Int64)) ⊕ Nat} (hR : some z = sp_X9_claim p1 π) : Ct l γ yX9_claim (Cond.code yX9_claim cX9_claim 2 (some .int)) ({ frames := 7, cells := mcz z, slots := msz z, locals := 104 } : Room) [.ref as9, .int p1] (wB γ h σ ++ (wB γ g τ ++ (wS as9 (h 0) (g 0) an aq (ad 0) (ap 0) ++ (wN an (h 0) ν ++ (wR aq (h 0) ++ (wD γ ad δ ++ (wP γ ap π ++ (r)))))))) (Pzi (fun u9 : (St × Int64) => wB γ h σ ++ (wB γ g τ ++ (wS as9 (h 0) (g 0) an aq (ad 0) (ap 0) ++ (wN an (h 0) ν ++ (wR aq (h 0) ++ (wD γ ad δ ++ (wP γ ap u9 ++ (r)))))))) (wB γ h σ ++ (wB γ g τ ++ (wS as9 (h 0) (g 0) an aq (ad 0) (ap 0) ++ (wN an (h 0) ν ++ (wR aq (h 0) ++ (wD γ ad δ ++ (wP γ ap π ++ (r)))))))) z) (mcz z) (msz z) := by
  refine Ct_of hl (by decide +kernel) rfl (Nat.le_of_ble_eq_true rfl) (L := [some (.ref as9), some (.int p1)]) rfl ?_
  intro X Q K hQ
  generalize ((wB γ h σ ++ (wB γ g τ ++ (wS as9 (h 0) (g 0) an aq (ad 0) (ap 0) ++ (wN an (h 0) ν ++ (wR aq (h 0) ++ (wD γ ad δ ++ (wP γ ap π ++ (r))))))), Q) : MX) = M at K hQ ⊢
  unfold sp_X9_claim at hR
  refine r_iload_n 0 1 K (dk_of tX9_claim 0 rfl) rfl rfl ?_
  refine r_iconst 1 (1 : Int32) K (dk_of tX9_claim 1 rfl) (by decide) ?_
  refine r_ldcw 2 1000000 K (dk_of tX9_claim 2 rfl) w631 ?_
  rcases ox hR with ⟨_, hc, hR⟩ | ⟨k9, hc, hR⟩
  rotate_left
  · exact r_xS 5 [.int p1, .int (1 : Int32), .int (1000000 : Int32)] [] k9 (wB γ h σ ++ (wB γ g τ ++ (wS as9 (h 0) (g 0) an aq (ad 0) (ap 0) ++ (wN an (h 0) ν ++ (wR aq (h 0) ++ (wD γ ad δ ++ (wP γ ap π ++ (r)))))))) K (ct_X9_needRange hl (z := .inr k9) hc.symm) cs_X9_53 ⟨rfl, rfl, rfl⟩ (dk_of tX9_claim 3 rfl) rfl rfl rfl ⟨zc hR, zs hR⟩ (r_out 5 K hQ (zc hR) (zs hR) (lxi (fun u9 : (St × Int64) => wB γ h σ ++ (wB γ g τ ++ (wS as9 (h 0) (g 0) an aq (ad 0) (ap 0) ++ (wN an (h 0) ν ++ (wR aq (h 0) ++ (wD γ ad δ ++ (wP γ ap u9 ++ (r)))))))) hR))
  refine r_cSv 5 [.int p1, .int (1 : Int32), .int (1000000 : Int32)] [] (wB γ h σ ++ (wB γ g τ ++ (wS as9 (h 0) (g 0) an aq (ad 0) (ap 0) ++ (wN an (h 0) ν ++ (wR aq (h 0) ++ (wD γ ad δ ++ (wP γ ap π ++ (r)))))))) K (ct_X9_needRange hl (z := .inl ()) hc.symm) cs_X9_53 ⟨rfl, rfl, rfl⟩ (dk_of tX9_claim 3 rfl) rfl rfl rfl rfl ?_
  refine r_aload_n 8 0 K (dk_of tX9_claim 4 rfl) rfl rfl ?_
  refine r_getf (C := RX9) (T := TX9) (N := 6) 9 52 5 K (dk_of tX9_claim 5 rfl) w324 gwX9 rfl rfl (by decide) rfl ?_
  refine r_getf (C := RX6) (T := TX6) (N := 5) 12 58 0 K (dk_of tX9_claim 6 rfl) w301 gwX6 rfl rfl (by decide) rfl ?_
  refine r_bipush 15 (20 : Int32) K (dk_of tX9_claim 7 rfl) (by decide) ?_
  refine r_ic_lt 17 31 K (dk_of tX9_claim 8 rfl) (by decide) hR (fun hR => ?_) (fun hR => ?_)
  · refine r_aload_n 31 0 K (dk_of tX9_claim 14 rfl) rfl rfl ?_
    refine r_getf (C := RX9) (T := TX9) (N := 6) 32 52 5 K (dk_of tX9_claim 15 rfl) w324 gwX9 rfl rfl (by decide) rfl ?_
    refine r_iload_n 35 1 K (dk_of tX9_claim 16 rfl) rfl rfl ?_
    refine r_perm (wP γ ap π ++ (wB γ h σ ++ (wB γ g τ ++ (wS as9 (h 0) (g 0) an aq (ad 0) (ap 0) ++ (wN an (h 0) ν ++ (wR aq (h 0) ++ (wD γ ad δ ++ (r)))))))) (List.Perm.trans (List.Perm.trans (List.Perm.trans (List.Perm.trans (List.Perm.trans (List.Perm.append_left _ (List.Perm.append_left _ (List.Perm.append_left _ (List.Perm.append_left _ (List.Perm.append_left _ (List.perm_append_comm_assoc _ _ _)))))) (List.Perm.append_left _ (List.Perm.append_left _ (List.Perm.append_left _ (List.Perm.append_left _ (List.perm_append_comm_assoc _ _ _)))))) (List.Perm.append_left _ (List.Perm.append_left _ (List.Perm.append_left _ (List.perm_append_comm_assoc _ _ _))))) (List.Perm.append_left _ (List.Perm.append_left _ (List.perm_append_comm_assoc _ _ _)))) (List.Perm.append_left _ (List.perm_append_comm_assoc _ _ _))) (List.perm_append_comm_assoc _ _ _)) 36 ?_
    obtain ⟨x1, π2, hc, hR⟩ := o2 hR
    refine r_cVi 36 0 [.int p1] [] x1 (wP γ ap π2 ++ (wB γ h σ ++ (wB γ g τ ++ (wS as9 (h 0) (g 0) an aq (ad 0) (ap 0) ++ (wN an (h 0) ν ++ (wR aq (h 0) ++ (wD γ ad δ ++ (r)))))))) K (ct_X6_add hl hc.symm) cs_X9_268 ⟨rfl, rfl, rfl⟩ (dk_of tX9_claim 17 rfl) rfl rfl rfl rfl rfl rfl ?_
    refine r_perm (wB γ h σ ++ (wB γ g τ ++ (wS as9 (h 0) (g 0) an aq (ad 0) (ap 0) ++ (wN an (h 0) ν ++ (wR aq (h 0) ++ (wD γ ad δ ++ (wP γ ap π2 ++ (r)))))))) (List.Perm.trans (List.Perm.trans (List.Perm.trans (List.Perm.trans (List.Perm.trans (List.perm_append_comm_assoc _ _ _) (List.Perm.append_left _ (List.perm_append_comm_assoc _ _ _))) (List.Perm.append_left _ (List.Perm.append_left _ (List.perm_append_comm_assoc _ _ _)))) (List.Perm.append_left _ (List.Perm.append_left _ (List.Perm.append_left _ (List.perm_append_comm_assoc _ _ _))))) (List.Perm.append_left _ (List.Perm.append_left _ (List.Perm.append_left _ (List.Perm.append_left _ (List.perm_append_comm_assoc _ _ _)))))) (List.Perm.append_left _ (List.Perm.append_left _ (List.Perm.append_left _ (List.Perm.append_left _ (List.Perm.append_left _ (List.perm_append_comm_assoc _ _ _))))))) 39 ?_
    exact r_iret 39 K hQ (dk_of tX9_claim 18 rfl) (Nat.zero_le _) (Nat.zero_le _) (lzi (fun u9 : (St × Int64) => wB γ h σ ++ (wB γ g τ ++ (wS as9 (h 0) (g 0) an aq (ad 0) (ap 0) ++ (wN an (h 0) ν ++ (wR aq (h 0) ++ (wD γ ad δ ++ (wP γ ap u9 ++ (r)))))))) _ hR)
  · exact r_thrW 20 14 K hQ rfl thr3 (dk_of tX9_claim 9 rfl) (dk_of tX9_claim 10 rfl) (dk_of tX9_claim 11 rfl) (dk_of tX9_claim 12 rfl) (dk_of tX9_claim 13 rfl) rfl (zc (Option.some.inj hR)) (zs (Option.some.inj hR)) (zc (Option.some.inj hR)) (zs (Option.some.inj hR)) (lxi (fun u9 : (St × Int64) => wB γ h σ ++ (wB γ g τ ++ (wS as9 (h 0) (g 0) an aq (ad 0) (ap 0) ++ (wN an (h 0) ν ++ (wR aq (h 0) ++ (wD γ ad δ ++ (wP γ ap u9 ++ (r)))))))) (Option.some.inj hR))

def sp_X9_layers (p1 : Int32) (p2 : Int32) (π : (St × Int64)) : Option ((Int32 × (St × Int64)) ⊕ Nat) := bx (sp_X9_needRange p1 (0 : Int32) (10000000 : Int32)) (fun _ => bx (sp_X9_needRange p2 (0 : Int32) (10000000 : Int32)) (fun _ => sl (((π.1 0 1) + (π.1 0 2))) (fun x1 : Int32 => sl ((stU π.1 0 1 p1, π.2)) (fun π2 : (St × Int64) => sl ((stU π2.1 0 2 p2, π2.2)) (fun π3 : (St × Int64) => some (.inl (x1, π3)))))))
set_option maxHeartbeats 4000000 in
set_option maxRecDepth 100000 in
theorem ct_X9_layers {l : Launch} (hl : l.stackTraces = false) {γ : Gd} {h : Nat → Nat} {g : Nat → Nat} {as9 : Nat} {an : Nat} {aq : Nat} {ad : Nat → Nat} {ap : Nat → Nat} {σ : St} {τ : St} {ν : (Nat → Int32)} {δ : St} {π : (St × Int64)} {r : va_W} {p1 : Int32} {p2 : Int32} {z : (Int32 × (St × Int64)) ⊕ Nat} (hR : some z = sp_X9_layers p1 p2 π) : Ct l γ yX9_layers (Cond.code yX9_layers cX9_layers 4 (some .int)) ({ frames := 7, cells := mcz z, slots := msz z, locals := 104 } : Room) [.ref as9, .int p1, .int p2] (wB γ h σ ++ (wB γ g τ ++ (wS as9 (h 0) (g 0) an aq (ad 0) (ap 0) ++ (wN an (h 0) ν ++ (wR aq (h 0) ++ (wD γ ad δ ++ (wP γ ap π ++ (r)))))))) (Pzi (fun u9 : (St × Int64) => wB γ h σ ++ (wB γ g τ ++ (wS as9 (h 0) (g 0) an aq (ad 0) (ap 0) ++ (wN an (h 0) ν ++ (wR aq (h 0) ++ (wD γ ad δ ++ (wP γ ap u9 ++ (r)))))))) (wB γ h σ ++ (wB γ g τ ++ (wS as9 (h 0) (g 0) an aq (ad 0) (ap 0) ++ (wN an (h 0) ν ++ (wR aq (h 0) ++ (wD γ ad δ ++ (wP γ ap π ++ (r)))))))) z) (mcz z) (msz z) := by
  refine Ct_of hl (by decide +kernel) rfl (Nat.le_of_ble_eq_true rfl) (L := [some (.ref as9), some (.int p1), some (.int p2), none]) rfl ?_
  intro X Q K hQ
  generalize ((wB γ h σ ++ (wB γ g τ ++ (wS as9 (h 0) (g 0) an aq (ad 0) (ap 0) ++ (wN an (h 0) ν ++ (wR aq (h 0) ++ (wD γ ad δ ++ (wP γ ap π ++ (r))))))), Q) : MX) = M at K hQ ⊢
  unfold sp_X9_layers at hR
  refine r_iload_n 0 1 K (dk_of tX9_layers 0 rfl) rfl rfl ?_
  refine r_iconst 1 (0 : Int32) K (dk_of tX9_layers 1 rfl) (by decide) ?_
  refine r_ldcw 2 10000000 K (dk_of tX9_layers 2 rfl) w641 ?_
  rcases ox hR with ⟨_, hc, hR⟩ | ⟨k9, hc, hR⟩
  rotate_left
  · exact r_xS 5 [.int p1, .int (0 : Int32), .int (10000000 : Int32)] [] k9 (wB γ h σ ++ (wB γ g τ ++ (wS as9 (h 0) (g 0) an aq (ad 0) (ap 0) ++ (wN an (h 0) ν ++ (wR aq (h 0) ++ (wD γ ad δ ++ (wP γ ap π ++ (r)))))))) K (ct_X9_needRange hl (z := .inr k9) hc.symm) cs_X9_53 ⟨rfl, rfl, rfl⟩ (dk_of tX9_layers 3 rfl) rfl rfl rfl ⟨zc hR, zs hR⟩ (r_out 5 K hQ (zc hR) (zs hR) (lxi (fun u9 : (St × Int64) => wB γ h σ ++ (wB γ g τ ++ (wS as9 (h 0) (g 0) an aq (ad 0) (ap 0) ++ (wN an (h 0) ν ++ (wR aq (h 0) ++ (wD γ ad δ ++ (wP γ ap u9 ++ (r)))))))) hR))
  refine r_cSv 5 [.int p1, .int (0 : Int32), .int (10000000 : Int32)] [] (wB γ h σ ++ (wB γ g τ ++ (wS as9 (h 0) (g 0) an aq (ad 0) (ap 0) ++ (wN an (h 0) ν ++ (wR aq (h 0) ++ (wD γ ad δ ++ (wP γ ap π ++ (r)))))))) K (ct_X9_needRange hl (z := .inl ()) hc.symm) cs_X9_53 ⟨rfl, rfl, rfl⟩ (dk_of tX9_layers 3 rfl) rfl rfl rfl rfl ?_
  refine r_iload_n 8 2 K (dk_of tX9_layers 4 rfl) rfl rfl ?_
  refine r_iconst 9 (0 : Int32) K (dk_of tX9_layers 5 rfl) (by decide) ?_
  refine r_ldcw 10 10000000 K (dk_of tX9_layers 6 rfl) w641 ?_
  rcases ox hR with ⟨_, hc, hR⟩ | ⟨k9, hc, hR⟩
  rotate_left
  · exact r_xS 13 [.int p2, .int (0 : Int32), .int (10000000 : Int32)] [] k9 (wB γ h σ ++ (wB γ g τ ++ (wS as9 (h 0) (g 0) an aq (ad 0) (ap 0) ++ (wN an (h 0) ν ++ (wR aq (h 0) ++ (wD γ ad δ ++ (wP γ ap π ++ (r)))))))) K (ct_X9_needRange hl (z := .inr k9) hc.symm) cs_X9_53 ⟨rfl, rfl, rfl⟩ (dk_of tX9_layers 7 rfl) rfl rfl rfl ⟨zc hR, zs hR⟩ (r_out 13 K hQ (zc hR) (zs hR) (lxi (fun u9 : (St × Int64) => wB γ h σ ++ (wB γ g τ ++ (wS as9 (h 0) (g 0) an aq (ad 0) (ap 0) ++ (wN an (h 0) ν ++ (wR aq (h 0) ++ (wD γ ad δ ++ (wP γ ap u9 ++ (r)))))))) hR))
  refine r_cSv 13 [.int p2, .int (0 : Int32), .int (10000000 : Int32)] [] (wB γ h σ ++ (wB γ g τ ++ (wS as9 (h 0) (g 0) an aq (ad 0) (ap 0) ++ (wN an (h 0) ν ++ (wR aq (h 0) ++ (wD γ ad δ ++ (wP γ ap π ++ (r)))))))) K (ct_X9_needRange hl (z := .inl ()) hc.symm) cs_X9_53 ⟨rfl, rfl, rfl⟩ (dk_of tX9_layers 7 rfl) rfl rfl rfl rfl ?_
  refine r_aload_n 16 0 K (dk_of tX9_layers 8 rfl) rfl rfl ?_
  refine r_getf (C := RX9) (T := TX9) (N := 6) 17 52 5 K (dk_of tX9_layers 9 rfl) w324 gwX9 rfl rfl (by decide) rfl ?_
  refine r_getf (C := RX6) (T := TX6) (N := 5) 20 58 1 K (dk_of tX9_layers 10 rfl) w303 gwX6 rfl rfl (by decide) rfl ?_
  refine r_aload_n 23 0 K (dk_of tX9_layers 11 rfl) rfl rfl ?_
  refine r_getf (C := RX9) (T := TX9) (N := 6) 24 52 5 K (dk_of tX9_layers 12 rfl) w324 gwX9 rfl rfl (by decide) rfl ?_
  refine r_getf (C := RX6) (T := TX6) (N := 5) 27 58 2 K (dk_of tX9_layers 13 rfl) w305 gwX6 rfl rfl (by decide) rfl ?_
  refine r_iadd 30 K (dk_of tX9_layers 14 rfl) ?_
  refine r_nmI hR (fun x1 hR => ?_)
  refine r_istore_n 31 3 [some (.ref as9), some (.int p1), some (.int p2), some (.int x1)] K (dk_of tX9_layers 15 rfl) rfl rfl rfl (by decide) ?_
  refine r_aload_n 32 0 K (dk_of tX9_layers 16 rfl) rfl rfl ?_
  refine r_getf (C := RX9) (T := TX9) (N := 6) 33 52 5 K (dk_of tX9_layers 17 rfl) w324 gwX9 rfl rfl (by decide) rfl ?_
  refine r_iload_n 36 1 K (dk_of tX9_layers 18 rfl) rfl rfl ?_
  refine r_putf (C := RX6) (T := TX6) (N := 5) 37 58 1 K (dk_of tX9_layers 19 rfl) w303 gwX6 tyX6_ok nmX6 rfl rfl (by decide) rfl rfl rfl rfl (Nat.le_of_ble_eq_true rfl) sP_0_1_btsnqdp ?_
  refine r_nmS (fun π2 : (St × Int64) => wB γ h σ ++ (wB γ g τ ++ (wS as9 (h 0) (g 0) an aq (ad 0) (ap 0) ++ (wN an (h 0) ν ++ (wR aq (h 0) ++ (wD γ ad δ ++ (wP γ ap π2 ++ (r)))))))) hR (fun π2 hR => ?_)
  refine r_aload_n 40 0 K (dk_of tX9_layers 20 rfl) rfl rfl ?_
  refine r_getf (C := RX9) (T := TX9) (N := 6) 41 52 5 K (dk_of tX9_layers 21 rfl) w324 gwX9 rfl rfl (by decide) rfl ?_
  refine r_iload_n 44 2 K (dk_of tX9_layers 22 rfl) rfl rfl ?_
  refine r_putf (C := RX6) (T := TX6) (N := 5) 45 58 2 K (dk_of tX9_layers 23 rfl) w305 gwX6 tyX6_ok nmX6 rfl rfl (by decide) rfl rfl rfl rfl (Nat.le_of_ble_eq_true rfl) sP_0_2_btsnqdp ?_
  refine r_nmS (fun π3 : (St × Int64) => wB γ h σ ++ (wB γ g τ ++ (wS as9 (h 0) (g 0) an aq (ad 0) (ap 0) ++ (wN an (h 0) ν ++ (wR aq (h 0) ++ (wD γ ad δ ++ (wP γ ap π3 ++ (r)))))))) hR (fun π3 hR => ?_)
  refine r_iload_n 48 3 K (dk_of tX9_layers 24 rfl) rfl rfl ?_
  exact r_iret 49 K hQ (dk_of tX9_layers 25 rfl) (Nat.zero_le _) (Nat.zero_le _) (lzi (fun u9 : (St × Int64) => wB γ h σ ++ (wB γ g τ ++ (wS as9 (h 0) (g 0) an aq (ad 0) (ap 0) ++ (wN an (h 0) ν ++ (wR aq (h 0) ++ (wD γ ad δ ++ (wP γ ap u9 ++ (r)))))))) _ hR)

def sp_X9_due (p1 : Int32) (p2 : Int32) (π : (St × Int64)) : Option (Int32 ⊕ Nat) := bx (sp_X9_needNumber p1 (π.1 0 0)) (fun _ => bx (sp_X9_needRange p2 (0 : Int32) (1 : Int32)) (fun _ => b1 (sp_X6_getsOf p1 π) (fun (x1 : Int64) => b1 (sp_X6_ownersPartOf x1 π) (fun (x2 : Int64) => if p2 = 0 then (some (.inl x2.toInt32)) else (some (.inl ((x1 - x2).toInt32)))))))
set_option maxHeartbeats 4000000 in
set_option maxRecDepth 100000 in
theorem ct_X9_due {l : Launch} (hl : l.stackTraces = false) {γ : Gd} {h : Nat → Nat} {g : Nat → Nat} {as9 : Nat} {an : Nat} {aq : Nat} {ad : Nat → Nat} {ap : Nat → Nat} {σ : St} {τ : St} {ν : (Nat → Int32)} {δ : St} {π : (St × Int64)} {r : va_W} {p1 : Int32} {p2 : Int32} {z : Int32 ⊕ Nat} (hR : some z = sp_X9_due p1 p2 π) : Ct l γ yX9_due (Cond.code yX9_due cX9_due 7 (some .int)) ({ frames := 7, cells := mcz z, slots := msz z, locals := 104 } : Room) [.ref as9, .int p1, .int p2] (wB γ h σ ++ (wB γ g τ ++ (wS as9 (h 0) (g 0) an aq (ad 0) (ap 0) ++ (wN an (h 0) ν ++ (wR aq (h 0) ++ (wD γ ad δ ++ (wP γ ap π ++ (r)))))))) (Pzi0 (wB γ h σ ++ (wB γ g τ ++ (wS as9 (h 0) (g 0) an aq (ad 0) (ap 0) ++ (wN an (h 0) ν ++ (wR aq (h 0) ++ (wD γ ad δ ++ (wP γ ap π ++ (r)))))))) z) (mcz z) (msz z) := by
  refine Ct_of hl (by decide +kernel) rfl (Nat.le_of_ble_eq_true rfl) (L := [some (.ref as9), some (.int p1), some (.int p2), none, none, none, none]) rfl ?_
  intro X Q K hQ
  generalize ((wB γ h σ ++ (wB γ g τ ++ (wS as9 (h 0) (g 0) an aq (ad 0) (ap 0) ++ (wN an (h 0) ν ++ (wR aq (h 0) ++ (wD γ ad δ ++ (wP γ ap π ++ (r))))))), Q) : MX) = M at K hQ ⊢
  unfold sp_X9_due at hR
  refine r_iload_n 0 1 K (dk_of tX9_due 0 rfl) rfl rfl ?_
  refine r_aload_n 1 0 K (dk_of tX9_due 1 rfl) rfl rfl ?_
  refine r_getf (C := RX9) (T := TX9) (N := 6) 2 52 5 K (dk_of tX9_due 2 rfl) w324 gwX9 rfl rfl (by decide) rfl ?_
  refine r_getf (C := RX6) (T := TX6) (N := 5) 5 58 0 K (dk_of tX9_due 3 rfl) w301 gwX6 rfl rfl (by decide) rfl ?_
  rcases ox hR with ⟨_, hc, hR⟩ | ⟨k9, hc, hR⟩
  rotate_left
  · exact r_xS 8 [.int p1, .int (π.1 0 0)] [] k9 (wB γ h σ ++ (wB γ g τ ++ (wS as9 (h 0) (g 0) an aq (ad 0) (ap 0) ++ (wN an (h 0) ν ++ (wR aq (h 0) ++ (wD γ ad δ ++ (wP γ ap π ++ (r)))))))) K (ct_X9_needNumber hl (z := .inr k9) hc.symm) cs_X9_49 ⟨rfl, rfl, rfl⟩ (dk_of tX9_due 4 rfl) rfl rfl rfl ⟨zc hR, zs hR⟩ (r_out 8 K hQ (zc hR) (zs hR) (lxi0 hR))
  refine r_cSv 8 [.int p1, .int (π.1 0 0)] [] (wB γ h σ ++ (wB γ g τ ++ (wS as9 (h 0) (g 0) an aq (ad 0) (ap 0) ++ (wN an (h 0) ν ++ (wR aq (h 0) ++ (wD γ ad δ ++ (wP γ ap π ++ (r)))))))) K (ct_X9_needNumber hl (z := .inl ()) hc.symm) cs_X9_49 ⟨rfl, rfl, rfl⟩ (dk_of tX9_due 4 rfl) rfl rfl rfl rfl ?_
  refine r_iload_n 11 2 K (dk_of tX9_due 5 rfl) rfl rfl ?_
  refine r_iconst 12 (0 : Int32) K (dk_of tX9_due 6 rfl) (by decide) ?_
  refine r_iconst 13 (1 : Int32) K (dk_of tX9_due 7 rfl) (by decide) ?_
  rcases ox hR with ⟨_, hc, hR⟩ | ⟨k9, hc, hR⟩
  rotate_left
  · exact r_xS 14 [.int p2, .int (0 : Int32), .int (1 : Int32)] [] k9 (wB γ h σ ++ (wB γ g τ ++ (wS as9 (h 0) (g 0) an aq (ad 0) (ap 0) ++ (wN an (h 0) ν ++ (wR aq (h 0) ++ (wD γ ad δ ++ (wP γ ap π ++ (r)))))))) K (ct_X9_needRange hl (z := .inr k9) hc.symm) cs_X9_53 ⟨rfl, rfl, rfl⟩ (dk_of tX9_due 8 rfl) rfl rfl rfl ⟨zc hR, zs hR⟩ (r_out 14 K hQ (zc hR) (zs hR) (lxi0 hR))
  refine r_cSv 14 [.int p2, .int (0 : Int32), .int (1 : Int32)] [] (wB γ h σ ++ (wB γ g τ ++ (wS as9 (h 0) (g 0) an aq (ad 0) (ap 0) ++ (wN an (h 0) ν ++ (wR aq (h 0) ++ (wD γ ad δ ++ (wP γ ap π ++ (r)))))))) K (ct_X9_needRange hl (z := .inl ()) hc.symm) cs_X9_53 ⟨rfl, rfl, rfl⟩ (dk_of tX9_due 8 rfl) rfl rfl rfl rfl ?_
  refine r_aload_n 17 0 K (dk_of tX9_due 9 rfl) rfl rfl ?_
  refine r_getf (C := RX9) (T := TX9) (N := 6) 18 52 5 K (dk_of tX9_due 10 rfl) w324 gwX9 rfl rfl (by decide) rfl ?_
  refine r_iload_n 21 1 K (dk_of tX9_due 11 rfl) rfl rfl ?_
  refine r_perm (wP γ ap π ++ (wB γ h σ ++ (wB γ g τ ++ (wS as9 (h 0) (g 0) an aq (ad 0) (ap 0) ++ (wN an (h 0) ν ++ (wR aq (h 0) ++ (wD γ ad δ ++ (r)))))))) (List.Perm.trans (List.Perm.trans (List.Perm.trans (List.Perm.trans (List.Perm.trans (List.Perm.append_left _ (List.Perm.append_left _ (List.Perm.append_left _ (List.Perm.append_left _ (List.Perm.append_left _ (List.perm_append_comm_assoc _ _ _)))))) (List.Perm.append_left _ (List.Perm.append_left _ (List.Perm.append_left _ (List.Perm.append_left _ (List.perm_append_comm_assoc _ _ _)))))) (List.Perm.append_left _ (List.Perm.append_left _ (List.Perm.append_left _ (List.perm_append_comm_assoc _ _ _))))) (List.Perm.append_left _ (List.Perm.append_left _ (List.perm_append_comm_assoc _ _ _)))) (List.Perm.append_left _ (List.perm_append_comm_assoc _ _ _))) (List.perm_append_comm_assoc _ _ _)) 22 ?_
  obtain ⟨x1, hc, hR⟩ := o1 hR
  refine r_cVl 22 0 [.int p1] [] x1 (wP γ ap π ++ (wB γ h σ ++ (wB γ g τ ++ (wS as9 (h 0) (g 0) an aq (ad 0) (ap 0) ++ (wN an (h 0) ν ++ (wR aq (h 0) ++ (wD γ ad δ ++ (r)))))))) K (ct_X6_getsOf hl hc.symm) cs_X9_277 ⟨rfl, rfl, rfl⟩ (dk_of tX9_due 12 rfl) rfl rfl rfl rfl rfl rfl ?_
  refine r_perm (wB γ h σ ++ (wB γ g τ ++ (wS as9 (h 0) (g 0) an aq (ad 0) (ap 0) ++ (wN an (h 0) ν ++ (wR aq (h 0) ++ (wD γ ad δ ++ (wP γ ap π ++ (r)))))))) (List.Perm.trans (List.Perm.trans (List.Perm.trans (List.Perm.trans (List.Perm.trans (List.perm_append_comm_assoc _ _ _) (List.Perm.append_left _ (List.perm_append_comm_assoc _ _ _))) (List.Perm.append_left _ (List.Perm.append_left _ (List.perm_append_comm_assoc _ _ _)))) (List.Perm.append_left _ (List.Perm.append_left _ (List.Perm.append_left _ (List.perm_append_comm_assoc _ _ _))))) (List.Perm.append_left _ (List.Perm.append_left _ (List.Perm.append_left _ (List.Perm.append_left _ (List.perm_append_comm_assoc _ _ _)))))) (List.Perm.append_left _ (List.Perm.append_left _ (List.Perm.append_left _ (List.Perm.append_left _ (List.Perm.append_left _ (List.perm_append_comm_assoc _ _ _))))))) 25 ?_
  refine r_lstore_n 25 3 [some (.ref as9), some (.int p1), some (.int p2), some (.long x1), none, none, none] K (dk_of tX9_due 13 rfl) rfl rfl rfl (by decide) ?_
  refine r_aload_n 26 0 K (dk_of tX9_due 14 rfl) rfl rfl ?_
  refine r_getf (C := RX9) (T := TX9) (N := 6) 27 52 5 K (dk_of tX9_due 15 rfl) w324 gwX9 rfl rfl (by decide) rfl ?_
  refine r_lload_n 30 3 K (dk_of tX9_due 16 rfl) rfl rfl ?_
  refine r_perm (wP γ ap π ++ (wB γ h σ ++ (wB γ g τ ++ (wS as9 (h 0) (g 0) an aq (ad 0) (ap 0) ++ (wN an (h 0) ν ++ (wR aq (h 0) ++ (wD γ ad δ ++ (r)))))))) (List.Perm.trans (List.Perm.trans (List.Perm.trans (List.Perm.trans (List.Perm.trans (List.Perm.append_left _ (List.Perm.append_left _ (List.Perm.append_left _ (List.Perm.append_left _ (List.Perm.append_left _ (List.perm_append_comm_assoc _ _ _)))))) (List.Perm.append_left _ (List.Perm.append_left _ (List.Perm.append_left _ (List.Perm.append_left _ (List.perm_append_comm_assoc _ _ _)))))) (List.Perm.append_left _ (List.Perm.append_left _ (List.Perm.append_left _ (List.perm_append_comm_assoc _ _ _))))) (List.Perm.append_left _ (List.Perm.append_left _ (List.perm_append_comm_assoc _ _ _)))) (List.Perm.append_left _ (List.perm_append_comm_assoc _ _ _))) (List.perm_append_comm_assoc _ _ _)) 31 ?_
  obtain ⟨x2, hc, hR⟩ := o1 hR
  refine r_cVl 31 0 [.long x1] [] x2 (wP γ ap π ++ (wB γ h σ ++ (wB γ g τ ++ (wS as9 (h 0) (g 0) an aq (ad 0) (ap 0) ++ (wN an (h 0) ν ++ (wR aq (h 0) ++ (wD γ ad δ ++ (r)))))))) K (ct_X6_ownersPartOf hl hc.symm) cs_X9_281 ⟨rfl, rfl, rfl⟩ (dk_of tX9_due 17 rfl) rfl rfl rfl rfl rfl rfl ?_
  refine r_perm (wB γ h σ ++ (wB γ g τ ++ (wS as9 (h 0) (g 0) an aq (ad 0) (ap 0) ++ (wN an (h 0) ν ++ (wR aq (h 0) ++ (wD γ ad δ ++ (wP γ ap π ++ (r)))))))) (List.Perm.trans (List.Perm.trans (List.Perm.trans (List.Perm.trans (List.Perm.trans (List.perm_append_comm_assoc _ _ _) (List.Perm.append_left _ (List.perm_append_comm_assoc _ _ _))) (List.Perm.append_left _ (List.Perm.append_left _ (List.perm_append_comm_assoc _ _ _)))) (List.Perm.append_left _ (List.Perm.append_left _ (List.Perm.append_left _ (List.perm_append_comm_assoc _ _ _))))) (List.Perm.append_left _ (List.Perm.append_left _ (List.Perm.append_left _ (List.Perm.append_left _ (List.perm_append_comm_assoc _ _ _)))))) (List.Perm.append_left _ (List.Perm.append_left _ (List.Perm.append_left _ (List.Perm.append_left _ (List.Perm.append_left _ (List.perm_append_comm_assoc _ _ _))))))) 34 ?_
  refine r_lstore 34 5 [some (.ref as9), some (.int p1), some (.int p2), some (.long x1), none, some (.long x2), none] K (dk_of tX9_due 18 rfl) rfl rfl (by decide) ?_
  refine r_iload_n 36 2 K (dk_of tX9_due 19 rfl) rfl rfl ?_
  refine r_if_ne 37 45 K (dk_of tX9_due 20 rfl) (by decide) hR (fun hR => ?_) (fun hR => ?_)
  · refine r_lload 40 5 K (dk_of tX9_due 21 rfl) rfl ?_
    refine r_goto 42 49 K (dk_of tX9_due 22 rfl) (by decide) ?_
    refine r_l2i 49 K (dk_of tX9_due 26 rfl) ?_
    exact r_iret 50 K hQ (dk_of tX9_due 27 rfl) (Nat.zero_le _) (Nat.zero_le _) (lzi0 hR)
  · refine r_lload_n 45 3 K (dk_of tX9_due 23 rfl) rfl rfl ?_
    refine r_lload 46 5 K (dk_of tX9_due 24 rfl) rfl ?_
    refine r_lsub 48 K (dk_of tX9_due 25 rfl) ?_
    refine r_l2i 49 K (dk_of tX9_due 26 rfl) ?_
    exact r_iret 50 K hQ (dk_of tX9_due 27 rfl) (Nat.zero_le _) (Nat.zero_le _) (lzi0 hR)

def sp_X9_ahead (p1 : Int32) (p2 : Int32) (σ : St) (τ : St) : Option ((Int32 × St) ⊕ Nat) := bx (sp_X9_needNumber p1 (24 : Int32)) (fun _ => bx (sp_X9_needRange p2 (1 : Int32) (48 : Int32)) (fun _ => b1 (sp_X0_becomeLike τ σ) (fun (τ1 : St) => b1 (sp_X0_letPass p2 τ1) (fun (τ2 : St) => b1 (sp_X2_oilOf p1 τ2) (fun (x3 : Int32) => some (.inl (x3, τ2)))))))
set_option maxHeartbeats 4000000 in
set_option maxRecDepth 100000 in
theorem ct_X9_ahead {l : Launch} (hl : l.stackTraces = false) {γ : Gd} {h : Nat → Nat} {g : Nat → Nat} {as9 : Nat} {an : Nat} {aq : Nat} {ad : Nat → Nat} {ap : Nat → Nat} {σ : St} {τ : St} {ν : (Nat → Int32)} {δ : St} {π : (St × Int64)} {r : va_W} {p1 : Int32} {p2 : Int32} {z : (Int32 × St) ⊕ Nat} (hR : some z = sp_X9_ahead p1 p2 σ τ) : Ct l γ yX9_ahead (Cond.code yX9_ahead cX9_ahead 3 (some .int)) ({ frames := 7, cells := mcz z, slots := msz z, locals := 116 } : Room) [.ref as9, .int p1, .int p2] (wB γ h σ ++ (wB γ g τ ++ (wS as9 (h 0) (g 0) an aq (ad 0) (ap 0) ++ (wN an (h 0) ν ++ (wR aq (h 0) ++ (wD γ ad δ ++ (wP γ ap π ++ (r)))))))) (Pzi (fun u9 : St => wB γ h σ ++ (wB γ g u9 ++ (wS as9 (h 0) (g 0) an aq (ad 0) (ap 0) ++ (wN an (h 0) ν ++ (wR aq (h 0) ++ (wD γ ad δ ++ (wP γ ap π ++ (r)))))))) (wB γ h σ ++ (wB γ g τ ++ (wS as9 (h 0) (g 0) an aq (ad 0) (ap 0) ++ (wN an (h 0) ν ++ (wR aq (h 0) ++ (wD γ ad δ ++ (wP γ ap π ++ (r)))))))) z) (mcz z) (msz z) := by
  refine Ct_of hl (by decide +kernel) rfl (Nat.le_of_ble_eq_true rfl) (L := [some (.ref as9), some (.int p1), some (.int p2)]) rfl ?_
  intro X Q K hQ
  generalize ((wB γ h σ ++ (wB γ g τ ++ (wS as9 (h 0) (g 0) an aq (ad 0) (ap 0) ++ (wN an (h 0) ν ++ (wR aq (h 0) ++ (wD γ ad δ ++ (wP γ ap π ++ (r))))))), Q) : MX) = M at K hQ ⊢
  unfold sp_X9_ahead at hR
  refine r_iload_n 0 1 K (dk_of tX9_ahead 0 rfl) rfl rfl ?_
  refine r_bipush 1 (24 : Int32) K (dk_of tX9_ahead 1 rfl) (by decide) ?_
  rcases ox hR with ⟨_, hc, hR⟩ | ⟨k9, hc, hR⟩
  rotate_left
  · exact r_xS 3 [.int p1, .int (24 : Int32)] [] k9 (wB γ h σ ++ (wB γ g τ ++ (wS as9 (h 0) (g 0) an aq (ad 0) (ap 0) ++ (wN an (h 0) ν ++ (wR aq (h 0) ++ (wD γ ad δ ++ (wP γ ap π ++ (r)))))))) K (ct_X9_needNumber hl (z := .inr k9) hc.symm) cs_X9_49 ⟨rfl, rfl, rfl⟩ (dk_of tX9_ahead 2 rfl) rfl rfl rfl ⟨zc hR, zs hR⟩ (r_out 3 K hQ (zc hR) (zs hR) (lxi (fun u9 : St => wB γ h σ ++ (wB γ g u9 ++ (wS as9 (h 0) (g 0) an aq (ad 0) (ap 0) ++ (wN an (h 0) ν ++ (wR aq (h 0) ++ (wD γ ad δ ++ (wP γ ap π ++ (r)))))))) hR))
  refine r_cSv 3 [.int p1, .int (24 : Int32)] [] (wB γ h σ ++ (wB γ g τ ++ (wS as9 (h 0) (g 0) an aq (ad 0) (ap 0) ++ (wN an (h 0) ν ++ (wR aq (h 0) ++ (wD γ ad δ ++ (wP γ ap π ++ (r)))))))) K (ct_X9_needNumber hl (z := .inl ()) hc.symm) cs_X9_49 ⟨rfl, rfl, rfl⟩ (dk_of tX9_ahead 2 rfl) rfl rfl rfl rfl ?_
  refine r_iload_n 6 2 K (dk_of tX9_ahead 3 rfl) rfl rfl ?_
  refine r_iconst 7 (1 : Int32) K (dk_of tX9_ahead 4 rfl) (by decide) ?_
  refine r_bipush 8 (48 : Int32) K (dk_of tX9_ahead 5 rfl) (by decide) ?_
  rcases ox hR with ⟨_, hc, hR⟩ | ⟨k9, hc, hR⟩
  rotate_left
  · exact r_xS 10 [.int p2, .int (1 : Int32), .int (48 : Int32)] [] k9 (wB γ h σ ++ (wB γ g τ ++ (wS as9 (h 0) (g 0) an aq (ad 0) (ap 0) ++ (wN an (h 0) ν ++ (wR aq (h 0) ++ (wD γ ad δ ++ (wP γ ap π ++ (r)))))))) K (ct_X9_needRange hl (z := .inr k9) hc.symm) cs_X9_53 ⟨rfl, rfl, rfl⟩ (dk_of tX9_ahead 6 rfl) rfl rfl rfl ⟨zc hR, zs hR⟩ (r_out 10 K hQ (zc hR) (zs hR) (lxi (fun u9 : St => wB γ h σ ++ (wB γ g u9 ++ (wS as9 (h 0) (g 0) an aq (ad 0) (ap 0) ++ (wN an (h 0) ν ++ (wR aq (h 0) ++ (wD γ ad δ ++ (wP γ ap π ++ (r)))))))) hR))
  refine r_cSv 10 [.int p2, .int (1 : Int32), .int (48 : Int32)] [] (wB γ h σ ++ (wB γ g τ ++ (wS as9 (h 0) (g 0) an aq (ad 0) (ap 0) ++ (wN an (h 0) ν ++ (wR aq (h 0) ++ (wD γ ad δ ++ (wP γ ap π ++ (r)))))))) K (ct_X9_needRange hl (z := .inl ()) hc.symm) cs_X9_53 ⟨rfl, rfl, rfl⟩ (dk_of tX9_ahead 6 rfl) rfl rfl rfl rfl ?_
  refine r_aload_n 13 0 K (dk_of tX9_ahead 7 rfl) rfl rfl ?_
  refine r_getf (C := RX9) (T := TX9) (N := 6) 14 52 1 K (dk_of tX9_ahead 8 rfl) w320 gwX9 rfl rfl (by decide) rfl ?_
  refine r_aload_n 17 0 K (dk_of tX9_ahead 9 rfl) rfl rfl ?_
  refine r_getf (C := RX9) (T := TX9) (N := 6) 18 52 0 K (dk_of tX9_ahead 10 rfl) w319 gwX9 rfl rfl (by decide) rfl ?_
  refine r_perm (wB γ g τ ++ (wB γ h σ ++ (wS as9 (h 0) (g 0) an aq (ad 0) (ap 0) ++ (wN an (h 0) ν ++ (wR aq (h 0) ++ (wD γ ad δ ++ (wP γ ap π ++ (r)))))))) ((List.perm_append_comm_assoc _ _ _)) 21 ?_
  obtain ⟨τ1, hc, hR⟩ := o1 hR
  refine r_cVv 21 0 [.ref (h 0)] [] (wB γ g τ1 ++ (wB γ h σ ++ (wS as9 (h 0) (g 0) an aq (ad 0) (ap 0) ++ (wN an (h 0) ν ++ (wR aq (h 0) ++ (wD γ ad δ ++ (wP γ ap π ++ (r)))))))) K (ct_X0_becomeLike hl hc.symm) cs_X9_285 ⟨rfl, rfl, rfl⟩ (dk_of tX9_ahead 11 rfl) rfl rfl rfl rfl rfl rfl ?_
  refine r_perm (wB γ h σ ++ (wB γ g τ1 ++ (wS as9 (h 0) (g 0) an aq (ad 0) (ap 0) ++ (wN an (h 0) ν ++ (wR aq (h 0) ++ (wD γ ad δ ++ (wP γ ap π ++ (r)))))))) ((List.perm_append_comm_assoc _ _ _)) 24 ?_
  refine r_aload_n 24 0 K (dk_of tX9_ahead 12 rfl) rfl rfl ?_
  refine r_getf (C := RX9) (T := TX9) (N := 6) 25 52 1 K (dk_of tX9_ahead 13 rfl) w320 gwX9 rfl rfl (by decide) rfl ?_
  refine r_iload_n 28 2 K (dk_of tX9_ahead 14 rfl) rfl rfl ?_
  refine r_perm (wB γ g τ1 ++ (wB γ h σ ++ (wS as9 (h 0) (g 0) an aq (ad 0) (ap 0) ++ (wN an (h 0) ν ++ (wR aq (h 0) ++ (wD γ ad δ ++ (wP γ ap π ++ (r)))))))) ((List.perm_append_comm_assoc _ _ _)) 29 ?_
  obtain ⟨τ2, hc, hR⟩ := o1 hR
  refine r_cVv 29 0 [.int p2] [] (wB γ g τ2 ++ (wB γ h σ ++ (wS as9 (h 0) (g 0) an aq (ad 0) (ap 0) ++ (wN an (h 0) ν ++ (wR aq (h 0) ++ (wD γ ad δ ++ (wP γ ap π ++ (r)))))))) K (ct_X0_letPass hl hc.symm) cs_X9_140 ⟨rfl, rfl, rfl⟩ (dk_of tX9_ahead 15 rfl) rfl rfl rfl rfl rfl rfl ?_
  refine r_perm (wB γ h σ ++ (wB γ g τ2 ++ (wS as9 (h 0) (g 0) an aq (ad 0) (ap 0) ++ (wN an (h 0) ν ++ (wR aq (h 0) ++ (wD γ ad δ ++ (wP γ ap π ++ (r)))))))) ((List.perm_append_comm_assoc _ _ _)) 32 ?_
  refine r_aload_n 32 0 K (dk_of tX9_ahead 16 rfl) rfl rfl ?_
  refine r_getf (C := RX9) (T := TX9) (N := 6) 33 52 1 K (dk_of tX9_ahead 17 rfl) w320 gwX9 rfl rfl (by decide) rfl ?_
  refine r_getf (C := RX0) (T := TX0) (N := 9) 36 26 0 K (dk_of tX9_ahead 18 rfl) w202 gwX0 rfl rfl (by decide) rfl ?_
  refine r_iload_n 39 1 K (dk_of tX9_ahead 19 rfl) rfl rfl ?_
  refine r_perm (wB γ g τ2 ++ (wB γ h σ ++ (wS as9 (h 0) (g 0) an aq (ad 0) (ap 0) ++ (wN an (h 0) ν ++ (wR aq (h 0) ++ (wD γ ad δ ++ (wP γ ap π ++ (r)))))))) ((List.perm_append_comm_assoc _ _ _)) 40 ?_
  obtain ⟨x3, hc, hR⟩ := o1 hR
  refine r_cVi 40 1 [.int p1] [] x3 (wB γ g τ2 ++ (wB γ h σ ++ (wS as9 (h 0) (g 0) an aq (ad 0) (ap 0) ++ (wN an (h 0) ν ++ (wR aq (h 0) ++ (wD γ ad δ ++ (wP γ ap π ++ (r)))))))) K (ct_X2_oilOf hl hc.symm) cs_X9_288 ⟨rfl, rfl, rfl⟩ (dk_of tX9_ahead 20 rfl) rfl rfl rfl rfl rfl rfl ?_
  refine r_perm (wB γ h σ ++ (wB γ g τ2 ++ (wS as9 (h 0) (g 0) an aq (ad 0) (ap 0) ++ (wN an (h 0) ν ++ (wR aq (h 0) ++ (wD γ ad δ ++ (wP γ ap π ++ (r)))))))) ((List.perm_append_comm_assoc _ _ _)) 43 ?_
  exact r_iret 43 K hQ (dk_of tX9_ahead 21 rfl) (Nat.zero_le _) (Nat.zero_le _) (lzi (fun u9 : St => wB γ h σ ++ (wB γ g u9 ++ (wS as9 (h 0) (g 0) an aq (ad 0) (ap 0) ++ (wN an (h 0) ν ++ (wR aq (h 0) ++ (wD γ ad δ ++ (wP γ ap π ++ (r)))))))) _ hR)

def sp_X9_nextAnew (p1 : Int32) (σ : St) (ν : (Nat → Int32)) : Option ((Int32 × (Nat → Int32)) ⊕ Nat) := bx (sp_X9_needNumber p1 (24 : Int32)) (fun _ => b1 (sp_X2_isWater p1 σ) (fun (x1 : Int32) => if x1 = 0 then (b2 (sp_X5_strandedOf p1 σ ν) (fun (x2 : Int32) (ν3 : (Nat → Int32)) => some (.inl (x2, ν3)))) else (b2 (sp_X5_floatingOf p1 σ ν) (fun (x4 : Int32) (ν5 : (Nat → Int32)) => some (.inl (x4, ν5))))))
set_option maxHeartbeats 4000000 in
set_option maxRecDepth 100000 in
theorem ct_X9_nextAnew {l : Launch} (hl : l.stackTraces = false) {γ : Gd} {h : Nat → Nat} {g : Nat → Nat} {as9 : Nat} {an : Nat} {aq : Nat} {ad : Nat → Nat} {ap : Nat → Nat} {σ : St} {τ : St} {ν : (Nat → Int32)} {δ : St} {π : (St × Int64)} {r : va_W} {p1 : Int32} {z : (Int32 × (Nat → Int32)) ⊕ Nat} (hR : some z = sp_X9_nextAnew p1 σ ν) : Ct l γ yX9_nextAnew (Cond.code yX9_nextAnew cX9_nextAnew 2 (some .int)) ({ frames := 7, cells := mcz z, slots := msz z, locals := 159 } : Room) [.ref as9, .int p1] (wB γ h σ ++ (wB γ g τ ++ (wS as9 (h 0) (g 0) an aq (ad 0) (ap 0) ++ (wN an (h 0) ν ++ (wR aq (h 0) ++ (wD γ ad δ ++ (wP γ ap π ++ (r)))))))) (Pzi (fun u9 : (Nat → Int32) => wB γ h σ ++ (wB γ g τ ++ (wS as9 (h 0) (g 0) an aq (ad 0) (ap 0) ++ (wN an (h 0) u9 ++ (wR aq (h 0) ++ (wD γ ad δ ++ (wP γ ap π ++ (r)))))))) (wB γ h σ ++ (wB γ g τ ++ (wS as9 (h 0) (g 0) an aq (ad 0) (ap 0) ++ (wN an (h 0) ν ++ (wR aq (h 0) ++ (wD γ ad δ ++ (wP γ ap π ++ (r)))))))) z) (mcz z) (msz z) := by
  refine Ct_of hl (by decide +kernel) rfl (Nat.le_of_ble_eq_true rfl) (L := [some (.ref as9), some (.int p1)]) rfl ?_
  intro X Q K hQ
  generalize ((wB γ h σ ++ (wB γ g τ ++ (wS as9 (h 0) (g 0) an aq (ad 0) (ap 0) ++ (wN an (h 0) ν ++ (wR aq (h 0) ++ (wD γ ad δ ++ (wP γ ap π ++ (r))))))), Q) : MX) = M at K hQ ⊢
  unfold sp_X9_nextAnew at hR
  refine r_iload_n 0 1 K (dk_of tX9_nextAnew 0 rfl) rfl rfl ?_
  refine r_bipush 1 (24 : Int32) K (dk_of tX9_nextAnew 1 rfl) (by decide) ?_
  rcases ox hR with ⟨_, hc, hR⟩ | ⟨k9, hc, hR⟩
  rotate_left
  · exact r_xS 3 [.int p1, .int (24 : Int32)] [] k9 (wB γ h σ ++ (wB γ g τ ++ (wS as9 (h 0) (g 0) an aq (ad 0) (ap 0) ++ (wN an (h 0) ν ++ (wR aq (h 0) ++ (wD γ ad δ ++ (wP γ ap π ++ (r)))))))) K (ct_X9_needNumber hl (z := .inr k9) hc.symm) cs_X9_49 ⟨rfl, rfl, rfl⟩ (dk_of tX9_nextAnew 2 rfl) rfl rfl rfl ⟨zc hR, zs hR⟩ (r_out 3 K hQ (zc hR) (zs hR) (lxi (fun u9 : (Nat → Int32) => wB γ h σ ++ (wB γ g τ ++ (wS as9 (h 0) (g 0) an aq (ad 0) (ap 0) ++ (wN an (h 0) u9 ++ (wR aq (h 0) ++ (wD γ ad δ ++ (wP γ ap π ++ (r)))))))) hR))
  refine r_cSv 3 [.int p1, .int (24 : Int32)] [] (wB γ h σ ++ (wB γ g τ ++ (wS as9 (h 0) (g 0) an aq (ad 0) (ap 0) ++ (wN an (h 0) ν ++ (wR aq (h 0) ++ (wD γ ad δ ++ (wP γ ap π ++ (r)))))))) K (ct_X9_needNumber hl (z := .inl ()) hc.symm) cs_X9_49 ⟨rfl, rfl, rfl⟩ (dk_of tX9_nextAnew 2 rfl) rfl rfl rfl rfl ?_
  refine r_aload_n 6 0 K (dk_of tX9_nextAnew 3 rfl) rfl rfl ?_
  refine r_getf (C := RX9) (T := TX9) (N := 6) 7 52 0 K (dk_of tX9_nextAnew 4 rfl) w319 gwX9 rfl rfl (by decide) rfl ?_
  refine r_getf (C := RX0) (T := TX0) (N := 9) 10 0 0 K (dk_of tX9_nextAnew 5 rfl) w202 gwX0 rfl rfl (by decide) rfl ?_
  refine r_iload_n 13 1 K (dk_of tX9_nextAnew 6 rfl) rfl rfl ?_
  obtain ⟨x1, hc, hR⟩ := o1 hR
  refine r_cVi 14 1 [.int p1] [] x1 (wB γ h σ ++ (wB γ g τ ++ (wS as9 (h 0) (g 0) an aq (ad 0) (ap 0) ++ (wN an (h 0) ν ++ (wR aq (h 0) ++ (wD γ ad δ ++ (wP γ ap π ++ (r)))))))) K (ct_X2_isWater hl hc.symm) cs_X9_291 ⟨rfl, rfl, rfl⟩ (dk_of tX9_nextAnew 7 rfl) rfl rfl rfl rfl rfl rfl ?_
  refine r_if_eq 17 31 K (dk_of tX9_nextAnew 8 rfl) (by decide) hR (fun hR => ?_) (fun hR => ?_)
  · refine r_aload_n 31 0 K (dk_of tX9_nextAnew 14 rfl) rfl rfl ?_
    refine r_getf (C := RX9) (T := TX9) (N := 6) 32 52 2 K (dk_of tX9_nextAnew 15 rfl) w321 gwX9 rfl rfl (by decide) rfl ?_
    refine r_iload_n 35 1 K (dk_of tX9_nextAnew 16 rfl) rfl rfl ?_
    refine r_perm (wB γ h σ ++ (wN an (h 0) ν ++ (wB γ g τ ++ (wS as9 (h 0) (g 0) an aq (ad 0) (ap 0) ++ (wR aq (h 0) ++ (wD γ ad δ ++ (wP γ ap π ++ (r)))))))) (List.Perm.trans (List.Perm.append_left _ (List.Perm.append_left _ (List.perm_append_comm_assoc _ _ _))) (List.Perm.append_left _ (List.perm_append_comm_assoc _ _ _))) 36 ?_
    obtain ⟨x2, ν3, hc, hR⟩ := o2 hR
    refine r_cVi 36 26 [.int p1] [] x2 (wB γ h σ ++ (wN an (h 0) ν3 ++ (wB γ g τ ++ (wS as9 (h 0) (g 0) an aq (ad 0) (ap 0) ++ (wR aq (h 0) ++ (wD γ ad δ ++ (wP γ ap π ++ (r)))))))) K (ct_X5_strandedOf hl hc.symm) cs_X9_297 ⟨rfl, rfl, rfl⟩ (dk_of tX9_nextAnew 17 rfl) rfl rfl rfl rfl rfl rfl ?_
    refine r_perm (wB γ h σ ++ (wB γ g τ ++ (wS as9 (h 0) (g 0) an aq (ad 0) (ap 0) ++ (wN an (h 0) ν3 ++ (wR aq (h 0) ++ (wD γ ad δ ++ (wP γ ap π ++ (r)))))))) (List.Perm.trans (List.Perm.append_left _ (List.perm_append_comm_assoc _ _ _)) (List.Perm.append_left _ (List.Perm.append_left _ (List.perm_append_comm_assoc _ _ _)))) 39 ?_
    exact r_iret 39 K hQ (dk_of tX9_nextAnew 18 rfl) (Nat.zero_le _) (Nat.zero_le _) (lzi (fun u9 : (Nat → Int32) => wB γ h σ ++ (wB γ g τ ++ (wS as9 (h 0) (g 0) an aq (ad 0) (ap 0) ++ (wN an (h 0) u9 ++ (wR aq (h 0) ++ (wD γ ad δ ++ (wP γ ap π ++ (r)))))))) _ hR)
  · refine r_aload_n 20 0 K (dk_of tX9_nextAnew 9 rfl) rfl rfl ?_
    refine r_getf (C := RX9) (T := TX9) (N := 6) 21 52 2 K (dk_of tX9_nextAnew 10 rfl) w321 gwX9 rfl rfl (by decide) rfl ?_
    refine r_iload_n 24 1 K (dk_of tX9_nextAnew 11 rfl) rfl rfl ?_
    refine r_perm (wB γ h σ ++ (wN an (h 0) ν ++ (wB γ g τ ++ (wS as9 (h 0) (g 0) an aq (ad 0) (ap 0) ++ (wR aq (h 0) ++ (wD γ ad δ ++ (wP γ ap π ++ (r)))))))) (List.Perm.trans (List.Perm.append_left _ (List.Perm.append_left _ (List.perm_append_comm_assoc _ _ _))) (List.Perm.append_left _ (List.perm_append_comm_assoc _ _ _))) 25 ?_
    obtain ⟨x4, ν5, hc, hR⟩ := o2 hR
    refine r_cVi 25 26 [.int p1] [] x4 (wB γ h σ ++ (wN an (h 0) ν5 ++ (wB γ g τ ++ (wS as9 (h 0) (g 0) an aq (ad 0) (ap 0) ++ (wR aq (h 0) ++ (wD γ ad δ ++ (wP γ ap π ++ (r)))))))) K (ct_X5_floatingOf hl hc.symm) cs_X9_294 ⟨rfl, rfl, rfl⟩ (dk_of tX9_nextAnew 12 rfl) rfl rfl rfl rfl rfl rfl ?_
    refine r_perm (wB γ h σ ++ (wB γ g τ ++ (wS as9 (h 0) (g 0) an aq (ad 0) (ap 0) ++ (wN an (h 0) ν5 ++ (wR aq (h 0) ++ (wD γ ad δ ++ (wP γ ap π ++ (r)))))))) (List.Perm.trans (List.Perm.append_left _ (List.perm_append_comm_assoc _ _ _)) (List.Perm.append_left _ (List.Perm.append_left _ (List.perm_append_comm_assoc _ _ _)))) 28 ?_
    refine r_goto 28 39 K (dk_of tX9_nextAnew 13 rfl) (by decide) ?_
    exact r_iret 39 K hQ (dk_of tX9_nextAnew 18 rfl) (Nat.zero_le _) (Nat.zero_le _) (lzi (fun u9 : (Nat → Int32) => wB γ h σ ++ (wB γ g τ ++ (wS as9 (h 0) (g 0) an aq (ad 0) (ap 0) ++ (wN an (h 0) u9 ++ (wR aq (h 0) ++ (wD γ ad δ ++ (wP γ ap π ++ (r)))))))) _ hR)

def sp_X9_sum (p1 : Int32) (σ : St) (δ : St) : Option (Int32 ⊕ Nat) := bx (sp_X9_needRange p1 (0 : Int32) (11 : Int32)) (fun _ => if p1 = 0 then (some (.inl (σ 0 4))) else (if p1 = 1 then (some (.inl (σ 23 0))) else (if p1 = 2 then (b1 (sp_X8_allLitres σ) (fun (x1 : Int32) => some (.inl x1))) else (if p1 = 3 then (b1 (sp_X2_allFloating σ) (fun (x2 : Int32) => some (.inl x2))) else (if p1 = 4 then (some (.inl (σ 23 2))) else (if p1 = 5 then (some (.inl (σ 23 3))) else (if p1 = 6 then (some (.inl (σ 23 4))) else (if p1 = 7 then (b1 (sp_X2_allStranded σ) (fun (x3 : Int32) => some (.inl x3))) else (if p1 = 8 then (b1 (sp_X4_allInStores σ) (fun (x4 : Int32) => some (.inl x4))) else (if p1 = 9 then (some (.inl (σ 23 5))) else (if p1 = 10 then (some (.inl (σ 23 6))) else (b1 (sp_X3_allWaste δ) (fun (x5 : Int32) => some (.inl x5))))))))))))))
set_option maxHeartbeats 4000000 in
set_option maxRecDepth 100000 in
theorem ct_X9_sum {l : Launch} (hl : l.stackTraces = false) {γ : Gd} {h : Nat → Nat} {g : Nat → Nat} {as9 : Nat} {an : Nat} {aq : Nat} {ad : Nat → Nat} {ap : Nat → Nat} {σ : St} {τ : St} {ν : (Nat → Int32)} {δ : St} {π : (St × Int64)} {r : va_W} {p1 : Int32} {z : Int32 ⊕ Nat} (hR : some z = sp_X9_sum p1 σ δ) : Ct l γ yX9_sum (Cond.code yX9_sum cX9_sum 3 (some .int)) ({ frames := 7, cells := mcz z, slots := msz z, locals := 104 } : Room) [.ref as9, .int p1] (wB γ h σ ++ (wB γ g τ ++ (wS as9 (h 0) (g 0) an aq (ad 0) (ap 0) ++ (wN an (h 0) ν ++ (wR aq (h 0) ++ (wD γ ad δ ++ (wP γ ap π ++ (r)))))))) (Pzi0 (wB γ h σ ++ (wB γ g τ ++ (wS as9 (h 0) (g 0) an aq (ad 0) (ap 0) ++ (wN an (h 0) ν ++ (wR aq (h 0) ++ (wD γ ad δ ++ (wP γ ap π ++ (r)))))))) z) (mcz z) (msz z) := by
  refine Ct_of hl (by decide +kernel) rfl (Nat.le_of_ble_eq_true rfl) (L := [some (.ref as9), some (.int p1), none]) rfl ?_
  intro X Q K hQ
  generalize ((wB γ h σ ++ (wB γ g τ ++ (wS as9 (h 0) (g 0) an aq (ad 0) (ap 0) ++ (wN an (h 0) ν ++ (wR aq (h 0) ++ (wD γ ad δ ++ (wP γ ap π ++ (r))))))), Q) : MX) = M at K hQ ⊢
  unfold sp_X9_sum at hR
  refine r_iload_n 0 1 K (dk_of tX9_sum 0 rfl) rfl rfl ?_
  refine r_iconst 1 (0 : Int32) K (dk_of tX9_sum 1 rfl) (by decide) ?_
  refine r_bipush 2 (11 : Int32) K (dk_of tX9_sum 2 rfl) (by decide) ?_
  rcases ox hR with ⟨_, hc, hR⟩ | ⟨k9, hc, hR⟩
  rotate_left
  · exact r_xS 4 [.int p1, .int (0 : Int32), .int (11 : Int32)] [] k9 (wB γ h σ ++ (wB γ g τ ++ (wS as9 (h 0) (g 0) an aq (ad 0) (ap 0) ++ (wN an (h 0) ν ++ (wR aq (h 0) ++ (wD γ ad δ ++ (wP γ ap π ++ (r)))))))) K (ct_X9_needRange hl (z := .inr k9) hc.symm) cs_X9_53 ⟨rfl, rfl, rfl⟩ (dk_of tX9_sum 3 rfl) rfl rfl rfl ⟨zc hR, zs hR⟩ (r_out 4 K hQ (zc hR) (zs hR) (lxi0 hR))
  refine r_cSv 4 [.int p1, .int (0 : Int32), .int (11 : Int32)] [] (wB γ h σ ++ (wB γ g τ ++ (wS as9 (h 0) (g 0) an aq (ad 0) (ap 0) ++ (wN an (h 0) ν ++ (wR aq (h 0) ++ (wD γ ad δ ++ (wP γ ap π ++ (r)))))))) K (ct_X9_needRange hl (z := .inl ()) hc.symm) cs_X9_53 ⟨rfl, rfl, rfl⟩ (dk_of tX9_sum 3 rfl) rfl rfl rfl rfl ?_
  refine r_aload_n 7 0 K (dk_of tX9_sum 4 rfl) rfl rfl ?_
  refine r_getf (C := RX9) (T := TX9) (N := 6) 8 52 0 K (dk_of tX9_sum 5 rfl) w319 gwX9 rfl rfl (by decide) rfl ?_
  refine r_getf (C := RX0) (T := TX0) (N := 9) 11 0 3 K (dk_of tX9_sum 6 rfl) w211 gwX0 rfl rfl (by decide) rfl ?_
  refine r_astore_n 14 2 [some (.ref as9), some (.int p1), some (.ref (h 23))] K (dk_of tX9_sum 7 rfl) rfl rfl rfl (by decide) ?_
  refine r_iload_n 15 1 K (dk_of tX9_sum 8 rfl) rfl rfl ?_
  refine r_case hR (fun c16_0 hR => ?_) (fun c16_0 hR => ?_)
  · refine r_tswIn 16 76 K (v := 0) c16_0 (dk_of tX9_sum 9 rfl) (by decide) (by decide) rfl (by decide) ?_
    refine r_aload_n 76 0 K (dk_of tX9_sum 10 rfl) rfl rfl ?_
    refine r_getf (C := RX9) (T := TX9) (N := 6) 77 52 0 K (dk_of tX9_sum 11 rfl) w319 gwX9 rfl rfl (by decide) rfl ?_
    refine r_getf (C := RX0) (T := TX0) (N := 9) 80 0 4 K (dk_of tX9_sum 12 rfl) w212 gwX0 rfl rfl (by decide) rfl ?_
    exact r_iret 83 K hQ (dk_of tX9_sum 13 rfl) (Nat.zero_le _) (Nat.zero_le _) (lzi0 hR)
  · refine r_case hR (fun c16_1 hR => ?_) (fun c16_1 hR => ?_)
    · refine r_tswIn 16 84 K (v := 1) c16_1 (dk_of tX9_sum 9 rfl) (by decide) (by decide) rfl (by decide) ?_
      refine r_aload_n 84 2 K (dk_of tX9_sum 14 rfl) rfl rfl ?_
      refine r_getf (C := RX1) (T := TX1) (N := 7) 85 23 0 K (dk_of tX9_sum 15 rfl) w172 gwX1 rfl rfl (by decide) rfl ?_
      exact r_iret 88 K hQ (dk_of tX9_sum 16 rfl) (Nat.zero_le _) (Nat.zero_le _) (lzi0 hR)
    · refine r_case hR (fun c16_2 hR => ?_) (fun c16_2 hR => ?_)
      · refine r_tswIn 16 89 K (v := 2) c16_2 (dk_of tX9_sum 9 rfl) (by decide) (by decide) rfl (by decide) ?_
        refine r_aload_n 89 0 K (dk_of tX9_sum 17 rfl) rfl rfl ?_
        refine r_getf (C := RX9) (T := TX9) (N := 6) 90 52 0 K (dk_of tX9_sum 18 rfl) w319 gwX9 rfl rfl (by decide) rfl ?_
        refine r_getf (C := RX0) (T := TX0) (N := 9) 93 0 1 K (dk_of tX9_sum 19 rfl) w205 gwX0 rfl rfl (by decide) rfl ?_
        obtain ⟨x1, hc, hR⟩ := o1 hR
        refine r_cVi 96 10 [] [] x1 (wB γ h σ ++ (wB γ g τ ++ (wS as9 (h 0) (g 0) an aq (ad 0) (ap 0) ++ (wN an (h 0) ν ++ (wR aq (h 0) ++ (wD γ ad δ ++ (wP γ ap π ++ (r)))))))) K (ct_X8_allLitres hl hc.symm) cs_X9_309 ⟨rfl, rfl, rfl⟩ (dk_of tX9_sum 20 rfl) rfl rfl rfl rfl rfl rfl ?_
        exact r_iret 99 K hQ (dk_of tX9_sum 21 rfl) (Nat.zero_le _) (Nat.zero_le _) (lzi0 hR)
      · refine r_case hR (fun c16_3 hR => ?_) (fun c16_3 hR => ?_)
        · refine r_tswIn 16 100 K (v := 3) c16_3 (dk_of tX9_sum 9 rfl) (by decide) (by decide) rfl (by decide) ?_
          refine r_aload_n 100 0 K (dk_of tX9_sum 22 rfl) rfl rfl ?_
          refine r_getf (C := RX9) (T := TX9) (N := 6) 101 52 0 K (dk_of tX9_sum 23 rfl) w319 gwX9 rfl rfl (by decide) rfl ?_
          refine r_getf (C := RX0) (T := TX0) (N := 9) 104 0 0 K (dk_of tX9_sum 24 rfl) w202 gwX0 rfl rfl (by decide) rfl ?_
          obtain ⟨x2, hc, hR⟩ := o1 hR
          refine r_cVi 107 1 [] [] x2 (wB γ h σ ++ (wB γ g τ ++ (wS as9 (h 0) (g 0) an aq (ad 0) (ap 0) ++ (wN an (h 0) ν ++ (wR aq (h 0) ++ (wD γ ad δ ++ (wP γ ap π ++ (r)))))))) K (ct_X2_allFloating hl hc.symm) cs_X9_313 ⟨rfl, rfl, rfl⟩ (dk_of tX9_sum 25 rfl) rfl rfl rfl rfl rfl rfl ?_
          exact r_iret 110 K hQ (dk_of tX9_sum 26 rfl) (Nat.zero_le _) (Nat.zero_le _) (lzi0 hR)
        · refine r_case hR (fun c16_4 hR => ?_) (fun c16_4 hR => ?_)
          · refine r_tswIn 16 111 K (v := 4) c16_4 (dk_of tX9_sum 9 rfl) (by decide) (by decide) rfl (by decide) ?_
            refine r_aload_n 111 2 K (dk_of tX9_sum 27 rfl) rfl rfl ?_
            refine r_getf (C := RX1) (T := TX1) (N := 7) 112 23 2 K (dk_of tX9_sum 28 rfl) w176 gwX1 rfl rfl (by decide) rfl ?_
            exact r_iret 115 K hQ (dk_of tX9_sum 29 rfl) (Nat.zero_le _) (Nat.zero_le _) (lzi0 hR)
          · refine r_case hR (fun c16_5 hR => ?_) (fun c16_5 hR => ?_)
            · refine r_tswIn 16 116 K (v := 5) c16_5 (dk_of tX9_sum 9 rfl) (by decide) (by decide) rfl (by decide) ?_
              refine r_aload_n 116 2 K (dk_of tX9_sum 30 rfl) rfl rfl ?_
              refine r_getf (C := RX1) (T := TX1) (N := 7) 117 23 3 K (dk_of tX9_sum 31 rfl) w178 gwX1 rfl rfl (by decide) rfl ?_
              exact r_iret 120 K hQ (dk_of tX9_sum 32 rfl) (Nat.zero_le _) (Nat.zero_le _) (lzi0 hR)
            · refine r_case hR (fun c16_6 hR => ?_) (fun c16_6 hR => ?_)
              · refine r_tswIn 16 121 K (v := 6) c16_6 (dk_of tX9_sum 9 rfl) (by decide) (by decide) rfl (by decide) ?_
                refine r_aload_n 121 2 K (dk_of tX9_sum 33 rfl) rfl rfl ?_
                refine r_getf (C := RX1) (T := TX1) (N := 7) 122 23 4 K (dk_of tX9_sum 34 rfl) w180 gwX1 rfl rfl (by decide) rfl ?_
                exact r_iret 125 K hQ (dk_of tX9_sum 35 rfl) (Nat.zero_le _) (Nat.zero_le _) (lzi0 hR)
              · refine r_case hR (fun c16_7 hR => ?_) (fun c16_7 hR => ?_)
                · refine r_tswIn 16 126 K (v := 7) c16_7 (dk_of tX9_sum 9 rfl) (by decide) (by decide) rfl (by decide) ?_
                  refine r_aload_n 126 0 K (dk_of tX9_sum 36 rfl) rfl rfl ?_
                  refine r_getf (C := RX9) (T := TX9) (N := 6) 127 52 0 K (dk_of tX9_sum 37 rfl) w319 gwX9 rfl rfl (by decide) rfl ?_
                  refine r_getf (C := RX0) (T := TX0) (N := 9) 130 0 0 K (dk_of tX9_sum 38 rfl) w202 gwX0 rfl rfl (by decide) rfl ?_
                  obtain ⟨x3, hc, hR⟩ := o1 hR
                  refine r_cVi 133 1 [] [] x3 (wB γ h σ ++ (wB γ g τ ++ (wS as9 (h 0) (g 0) an aq (ad 0) (ap 0) ++ (wN an (h 0) ν ++ (wR aq (h 0) ++ (wD γ ad δ ++ (wP γ ap π ++ (r)))))))) K (ct_X2_allStranded hl hc.symm) cs_X9_325 ⟨rfl, rfl, rfl⟩ (dk_of tX9_sum 39 rfl) rfl rfl rfl rfl rfl rfl ?_
                  exact r_iret 136 K hQ (dk_of tX9_sum 40 rfl) (Nat.zero_le _) (Nat.zero_le _) (lzi0 hR)
                · refine r_case hR (fun c16_8 hR => ?_) (fun c16_8 hR => ?_)
                  · refine r_tswIn 16 137 K (v := 8) c16_8 (dk_of tX9_sum 9 rfl) (by decide) (by decide) rfl (by decide) ?_
                    refine r_aload_n 137 0 K (dk_of tX9_sum 41 rfl) rfl rfl ?_
                    refine r_getf (C := RX9) (T := TX9) (N := 6) 138 52 0 K (dk_of tX9_sum 42 rfl) w319 gwX9 rfl rfl (by decide) rfl ?_
                    refine r_getf (C := RX0) (T := TX0) (N := 9) 141 0 2 K (dk_of tX9_sum 43 rfl) w208 gwX0 rfl rfl (by decide) rfl ?_
                    obtain ⟨x4, hc, hR⟩ := o1 hR
                    refine r_cVi 144 14 [] [] x4 (wB γ h σ ++ (wB γ g τ ++ (wS as9 (h 0) (g 0) an aq (ad 0) (ap 0) ++ (wN an (h 0) ν ++ (wR aq (h 0) ++ (wD γ ad δ ++ (wP γ ap π ++ (r)))))))) K (ct_X4_allInStores hl hc.symm) cs_X9_328 ⟨rfl, rfl, rfl⟩ (dk_of tX9_sum 44 rfl) rfl rfl rfl rfl rfl rfl ?_
                    exact r_iret 147 K hQ (dk_of tX9_sum 45 rfl) (Nat.zero_le _) (Nat.zero_le _) (lzi0 hR)
                  · refine r_case hR (fun c16_9 hR => ?_) (fun c16_9 hR => ?_)
                    · refine r_tswIn 16 148 K (v := 9) c16_9 (dk_of tX9_sum 9 rfl) (by decide) (by decide) rfl (by decide) ?_
                      refine r_aload_n 148 2 K (dk_of tX9_sum 46 rfl) rfl rfl ?_
                      refine r_getf (C := RX1) (T := TX1) (N := 7) 149 23 5 K (dk_of tX9_sum 47 rfl) w182 gwX1 rfl rfl (by decide) rfl ?_
                      exact r_iret 152 K hQ (dk_of tX9_sum 48 rfl) (Nat.zero_le _) (Nat.zero_le _) (lzi0 hR)
                    · refine r_case hR (fun c16_10 hR => ?_) (fun c16_10 hR => ?_)
                      · refine r_tswIn 16 153 K (v := 10) c16_10 (dk_of tX9_sum 9 rfl) (by decide) (by decide) rfl (by decide) ?_
                        refine r_aload_n 153 2 K (dk_of tX9_sum 49 rfl) rfl rfl ?_
                        refine r_getf (C := RX1) (T := TX1) (N := 7) 154 23 6 K (dk_of tX9_sum 50 rfl) w184 gwX1 rfl rfl (by decide) rfl ?_
                        exact r_iret 157 K hQ (dk_of tX9_sum 51 rfl) (Nat.zero_le _) (Nat.zero_le _) (lzi0 hR)
                      · refine r_tswOut 16 158 K (dk_of tX9_sum 9 rfl) (by have e0 := i32_ne (0) c16_0 (by decide); have e1 := i32_ne (1) c16_1 (by decide); have e2 := i32_ne (2) c16_2 (by decide); have e3 := i32_ne (3) c16_3 (by decide); have e4 := i32_ne (4) c16_4 (by decide); have e5 := i32_ne (5) c16_5 (by decide); have e6 := i32_ne (6) c16_6 (by decide); have e7 := i32_ne (7) c16_7 (by decide); have e8 := i32_ne (8) c16_8 (by decide); have e9 := i32_ne (9) c16_9 (by decide); have e10 := i32_ne (10) c16_10 (by decide); omega) (by decide) ?_
                        refine r_aload_n 158 0 K (dk_of tX9_sum 52 rfl) rfl rfl ?_
                        refine r_getf (C := RX9) (T := TX9) (N := 6) 159 52 4 K (dk_of tX9_sum 53 rfl) w323 gwX9 rfl rfl (by decide) rfl ?_
                        refine r_perm (wD γ ad δ ++ (wB γ h σ ++ (wB γ g τ ++ (wS as9 (h 0) (g 0) an aq (ad 0) (ap 0) ++ (wN an (h 0) ν ++ (wR aq (h 0) ++ (wP γ ap π ++ (r)))))))) (List.Perm.trans (List.Perm.trans (List.Perm.trans (List.Perm.trans (List.Perm.append_left _ (List.Perm.append_left _ (List.Perm.append_left _ (List.Perm.append_left _ (List.perm_append_comm_assoc _ _ _))))) (List.Perm.append_left _ (List.Perm.append_left _ (List.Perm.append_left _ (List.perm_append_comm_assoc _ _ _))))) (List.Perm.append_left _ (List.Perm.append_left _ (List.perm_append_comm_assoc _ _ _)))) (List.Perm.append_left _ (List.perm_append_comm_assoc _ _ _))) (List.perm_append_comm_assoc _ _ _)) 162 ?_
                        obtain ⟨x5, hc, hR⟩ := o1 hR
                        refine r_cVi 162 0 [] [] x5 (wD γ ad δ ++ (wB γ h σ ++ (wB γ g τ ++ (wS as9 (h 0) (g 0) an aq (ad 0) (ap 0) ++ (wN an (h 0) ν ++ (wR aq (h 0) ++ (wP γ ap π ++ (r)))))))) K (ct_X3_allWaste hl hc.symm) cs_X9_337 ⟨rfl, rfl, rfl⟩ (dk_of tX9_sum 54 rfl) rfl rfl rfl rfl rfl rfl ?_
                        refine r_perm (wB γ h σ ++ (wB γ g τ ++ (wS as9 (h 0) (g 0) an aq (ad 0) (ap 0) ++ (wN an (h 0) ν ++ (wR aq (h 0) ++ (wD γ ad δ ++ (wP γ ap π ++ (r)))))))) (List.Perm.trans (List.Perm.trans (List.Perm.trans (List.Perm.trans (List.perm_append_comm_assoc _ _ _) (List.Perm.append_left _ (List.perm_append_comm_assoc _ _ _))) (List.Perm.append_left _ (List.Perm.append_left _ (List.perm_append_comm_assoc _ _ _)))) (List.Perm.append_left _ (List.Perm.append_left _ (List.Perm.append_left _ (List.perm_append_comm_assoc _ _ _))))) (List.Perm.append_left _ (List.Perm.append_left _ (List.Perm.append_left _ (List.Perm.append_left _ (List.perm_append_comm_assoc _ _ _)))))) 165 ?_
                        exact r_iret 165 K hQ (dk_of tX9_sum 55 rfl) (Nat.zero_le _) (Nat.zero_le _) (lzi0 hR)

def sp_X9_boom (p1 : Int32) (p2 : Int32) (p3 : Int32) (σ : St) : Option ((Int32 × St) ⊕ Nat) := bx (sp_X9_needNumber p1 (24 : Int32)) (fun _ => bx (sp_X9_needRange p2 (0 : Int32) (3 : Int32)) (fun _ => bx (sp_X9_needRange p3 (1 : Int32) (9 : Int32)) (fun _ => b1 (sp_X4_boomOn p1 p2 σ) (fun (x1 : Int32) => if x1 = (-1 : Int32) then (bx (sp_X9_needRoomForMeans σ) (fun _ => b2 (sp_X4_add (0 : Int32) p1 p3 σ) (fun (x2 : Int32) (σ3 : St) => if x2 < 0 ∨ 20 ≤ x2.toNatClampNeg then none else (sl (stU σ3 17 x2.toNatClampNeg p2) (fun σ4 : St => some (.inl (x2, σ4))))))) else (some (.inr 3))))))
set_option maxHeartbeats 4000000 in
set_option maxRecDepth 100000 in
theorem ct_X9_boom {l : Launch} (hl : l.stackTraces = false) {γ : Gd} {h : Nat → Nat} {g : Nat → Nat} {as9 : Nat} {an : Nat} {aq : Nat} {ad : Nat → Nat} {ap : Nat → Nat} {σ : St} {τ : St} {ν : (Nat → Int32)} {δ : St} {π : (St × Int64)} {r : va_W} {p1 : Int32} {p2 : Int32} {p3 : Int32} {z : (Int32 × St) ⊕ Nat} (hR : some z = sp_X9_boom p1 p2 p3 σ) : Ct l γ yX9_boom (Cond.code yX9_boom cX9_boom 5 (some .int)) ({ frames := 7, cells := mcz z, slots := msz z, locals := 104 } : Room) [.ref as9, .int p1, .int p2, .int p3] (wB γ h σ ++ (wB γ g τ ++ (wS as9 (h 0) (g 0) an aq (ad 0) (ap 0) ++ (wN an (h 0) ν ++ (wR aq (h 0) ++ (wD γ ad δ ++ (wP γ ap π ++ (r)))))))) (Pzi (fun u9 : St => wB γ h u9 ++ (wB γ g τ ++ (wS as9 (h 0) (g 0) an aq (ad 0) (ap 0) ++ (wN an (h 0) ν ++ (wR aq (h 0) ++ (wD γ ad δ ++ (wP γ ap π ++ (r)))))))) (wB γ h σ ++ (wB γ g τ ++ (wS as9 (h 0) (g 0) an aq (ad 0) (ap 0) ++ (wN an (h 0) ν ++ (wR aq (h 0) ++ (wD γ ad δ ++ (wP γ ap π ++ (r)))))))) z) (mcz z) (msz z) := by
  refine Ct_of hl (by decide +kernel) rfl (Nat.le_of_ble_eq_true rfl) (L := [some (.ref as9), some (.int p1), some (.int p2), some (.int p3), none]) rfl ?_
  intro X Q K hQ
  generalize ((wB γ h σ ++ (wB γ g τ ++ (wS as9 (h 0) (g 0) an aq (ad 0) (ap 0) ++ (wN an (h 0) ν ++ (wR aq (h 0) ++ (wD γ ad δ ++ (wP γ ap π ++ (r))))))), Q) : MX) = M at K hQ ⊢
  unfold sp_X9_boom at hR
  refine r_iload_n 0 1 K (dk_of tX9_boom 0 rfl) rfl rfl ?_
  refine r_bipush 1 (24 : Int32) K (dk_of tX9_boom 1 rfl) (by decide) ?_
  rcases ox hR with ⟨_, hc, hR⟩ | ⟨k9, hc, hR⟩
  rotate_left
  · exact r_xS 3 [.int p1, .int (24 : Int32)] [] k9 (wB γ h σ ++ (wB γ g τ ++ (wS as9 (h 0) (g 0) an aq (ad 0) (ap 0) ++ (wN an (h 0) ν ++ (wR aq (h 0) ++ (wD γ ad δ ++ (wP γ ap π ++ (r)))))))) K (ct_X9_needNumber hl (z := .inr k9) hc.symm) cs_X9_49 ⟨rfl, rfl, rfl⟩ (dk_of tX9_boom 2 rfl) rfl rfl rfl ⟨zc hR, zs hR⟩ (r_out 3 K hQ (zc hR) (zs hR) (lxi (fun u9 : St => wB γ h u9 ++ (wB γ g τ ++ (wS as9 (h 0) (g 0) an aq (ad 0) (ap 0) ++ (wN an (h 0) ν ++ (wR aq (h 0) ++ (wD γ ad δ ++ (wP γ ap π ++ (r)))))))) hR))
  refine r_cSv 3 [.int p1, .int (24 : Int32)] [] (wB γ h σ ++ (wB γ g τ ++ (wS as9 (h 0) (g 0) an aq (ad 0) (ap 0) ++ (wN an (h 0) ν ++ (wR aq (h 0) ++ (wD γ ad δ ++ (wP γ ap π ++ (r)))))))) K (ct_X9_needNumber hl (z := .inl ()) hc.symm) cs_X9_49 ⟨rfl, rfl, rfl⟩ (dk_of tX9_boom 2 rfl) rfl rfl rfl rfl ?_
  refine r_iload_n 6 2 K (dk_of tX9_boom 3 rfl) rfl rfl ?_
  refine r_iconst 7 (0 : Int32) K (dk_of tX9_boom 4 rfl) (by decide) ?_
  refine r_iconst 8 (3 : Int32) K (dk_of tX9_boom 5 rfl) (by decide) ?_
  rcases ox hR with ⟨_, hc, hR⟩ | ⟨k9, hc, hR⟩
  rotate_left
  · exact r_xS 9 [.int p2, .int (0 : Int32), .int (3 : Int32)] [] k9 (wB γ h σ ++ (wB γ g τ ++ (wS as9 (h 0) (g 0) an aq (ad 0) (ap 0) ++ (wN an (h 0) ν ++ (wR aq (h 0) ++ (wD γ ad δ ++ (wP γ ap π ++ (r)))))))) K (ct_X9_needRange hl (z := .inr k9) hc.symm) cs_X9_53 ⟨rfl, rfl, rfl⟩ (dk_of tX9_boom 6 rfl) rfl rfl rfl ⟨zc hR, zs hR⟩ (r_out 9 K hQ (zc hR) (zs hR) (lxi (fun u9 : St => wB γ h u9 ++ (wB γ g τ ++ (wS as9 (h 0) (g 0) an aq (ad 0) (ap 0) ++ (wN an (h 0) ν ++ (wR aq (h 0) ++ (wD γ ad δ ++ (wP γ ap π ++ (r)))))))) hR))
  refine r_cSv 9 [.int p2, .int (0 : Int32), .int (3 : Int32)] [] (wB γ h σ ++ (wB γ g τ ++ (wS as9 (h 0) (g 0) an aq (ad 0) (ap 0) ++ (wN an (h 0) ν ++ (wR aq (h 0) ++ (wD γ ad δ ++ (wP γ ap π ++ (r)))))))) K (ct_X9_needRange hl (z := .inl ()) hc.symm) cs_X9_53 ⟨rfl, rfl, rfl⟩ (dk_of tX9_boom 6 rfl) rfl rfl rfl rfl ?_
  refine r_iload_n 12 3 K (dk_of tX9_boom 7 rfl) rfl rfl ?_
  refine r_iconst 13 (1 : Int32) K (dk_of tX9_boom 8 rfl) (by decide) ?_
  refine r_bipush 14 (9 : Int32) K (dk_of tX9_boom 9 rfl) (by decide) ?_
  rcases ox hR with ⟨_, hc, hR⟩ | ⟨k9, hc, hR⟩
  rotate_left
  · exact r_xS 16 [.int p3, .int (1 : Int32), .int (9 : Int32)] [] k9 (wB γ h σ ++ (wB γ g τ ++ (wS as9 (h 0) (g 0) an aq (ad 0) (ap 0) ++ (wN an (h 0) ν ++ (wR aq (h 0) ++ (wD γ ad δ ++ (wP γ ap π ++ (r)))))))) K (ct_X9_needRange hl (z := .inr k9) hc.symm) cs_X9_53 ⟨rfl, rfl, rfl⟩ (dk_of tX9_boom 10 rfl) rfl rfl rfl ⟨zc hR, zs hR⟩ (r_out 16 K hQ (zc hR) (zs hR) (lxi (fun u9 : St => wB γ h u9 ++ (wB γ g τ ++ (wS as9 (h 0) (g 0) an aq (ad 0) (ap 0) ++ (wN an (h 0) ν ++ (wR aq (h 0) ++ (wD γ ad δ ++ (wP γ ap π ++ (r)))))))) hR))
  refine r_cSv 16 [.int p3, .int (1 : Int32), .int (9 : Int32)] [] (wB γ h σ ++ (wB γ g τ ++ (wS as9 (h 0) (g 0) an aq (ad 0) (ap 0) ++ (wN an (h 0) ν ++ (wR aq (h 0) ++ (wD γ ad δ ++ (wP γ ap π ++ (r)))))))) K (ct_X9_needRange hl (z := .inl ()) hc.symm) cs_X9_53 ⟨rfl, rfl, rfl⟩ (dk_of tX9_boom 10 rfl) rfl rfl rfl rfl ?_
  refine r_aload_n 19 0 K (dk_of tX9_boom 11 rfl) rfl rfl ?_
  refine r_getf (C := RX9) (T := TX9) (N := 6) 20 52 0 K (dk_of tX9_boom 12 rfl) w319 gwX9 rfl rfl (by decide) rfl ?_
  refine r_getf (C := RX0) (T := TX0) (N := 9) 23 0 2 K (dk_of tX9_boom 13 rfl) w208 gwX0 rfl rfl (by decide) rfl ?_
  refine r_iload_n 26 1 K (dk_of tX9_boom 14 rfl) rfl rfl ?_
  refine r_iload_n 27 2 K (dk_of tX9_boom 15 rfl) rfl rfl ?_
  obtain ⟨x1, hc, hR⟩ := o1 hR
  refine r_cVi 28 14 [.int p1, .int p2] [] x1 (wB γ h σ ++ (wB γ g τ ++ (wS as9 (h 0) (g 0) an aq (ad 0) (ap 0) ++ (wN an (h 0) ν ++ (wR aq (h 0) ++ (wD γ ad δ ++ (wP γ ap π ++ (r)))))))) K (ct_X4_boomOn hl hc.symm) cs_X9_164 ⟨rfl, rfl, rfl⟩ (dk_of tX9_boom 16 rfl) rfl rfl rfl rfl rfl rfl ?_
  refine r_iconst 31 (-1) K (dk_of tX9_boom 17 rfl) (by decide) ?_
  refine r_ic_eq 32 45 K (dk_of tX9_boom 18 rfl) (by decide) hR (fun hR => ?_) (fun hR => ?_)
  · refine r_aload_n 45 0 K (dk_of tX9_boom 24 rfl) rfl rfl ?_
    rcases ox hR with ⟨_, hc, hR⟩ | ⟨k9, hc, hR⟩
    rotate_left
    · exact r_xV 46 52 [] [] k9 (wB γ h σ ++ (wB γ g τ ++ (wS as9 (h 0) (g 0) an aq (ad 0) (ap 0) ++ (wN an (h 0) ν ++ (wR aq (h 0) ++ (wD γ ad δ ++ (wP γ ap π ++ (r)))))))) K (ct_X9_needRoomForMeans hl (z := .inr k9) hc.symm) cs_X9_169 ⟨rfl, rfl, rfl⟩ (dk_of tX9_boom 25 rfl) rfl rfl rfl rfl rfl ⟨zc hR, zs hR⟩ (r_out 46 K hQ (zc hR) (zs hR) (lxi (fun u9 : St => wB γ h u9 ++ (wB γ g τ ++ (wS as9 (h 0) (g 0) an aq (ad 0) (ap 0) ++ (wN an (h 0) ν ++ (wR aq (h 0) ++ (wD γ ad δ ++ (wP γ ap π ++ (r)))))))) hR))
    refine r_cVv 46 52 [] [] (wB γ h σ ++ (wB γ g τ ++ (wS as9 (h 0) (g 0) an aq (ad 0) (ap 0) ++ (wN an (h 0) ν ++ (wR aq (h 0) ++ (wD γ ad δ ++ (wP γ ap π ++ (r)))))))) K (ct_X9_needRoomForMeans hl (z := .inl ()) hc.symm) cs_X9_169 ⟨rfl, rfl, rfl⟩ (dk_of tX9_boom 25 rfl) rfl rfl rfl rfl rfl rfl ?_
    refine r_aload_n 49 0 K (dk_of tX9_boom 26 rfl) rfl rfl ?_
    refine r_getf (C := RX9) (T := TX9) (N := 6) 50 52 0 K (dk_of tX9_boom 27 rfl) w319 gwX9 rfl rfl (by decide) rfl ?_
    refine r_getf (C := RX0) (T := TX0) (N := 9) 53 0 2 K (dk_of tX9_boom 28 rfl) w208 gwX0 rfl rfl (by decide) rfl ?_
    refine r_iconst 56 (0 : Int32) K (dk_of tX9_boom 29 rfl) (by decide) ?_
    refine r_iload_n 57 1 K (dk_of tX9_boom 30 rfl) rfl rfl ?_
    refine r_iload_n 58 3 K (dk_of tX9_boom 31 rfl) rfl rfl ?_
    obtain ⟨x2, σ3, hc, hR⟩ := o2 hR
    refine r_cVi 59 14 [.int (0 : Int32), .int p1, .int p3] [] x2 (wB γ h σ3 ++ (wB γ g τ ++ (wS as9 (h 0) (g 0) an aq (ad 0) (ap 0) ++ (wN an (h 0) ν ++ (wR aq (h 0) ++ (wD γ ad δ ++ (wP γ ap π ++ (r)))))))) K (ct_X4_add hl hc.symm) cs_X9_172 ⟨rfl, rfl, rfl⟩ (dk_of tX9_boom 32 rfl) rfl rfl rfl rfl rfl rfl ?_
    refine r_istore 62 4 [some (.ref as9), some (.int p1), some (.int p2), some (.int p3), some (.int x2)] K (dk_of tX9_boom 33 rfl) rfl rfl (by decide) ?_
    refine r_aload_n 64 0 K (dk_of tX9_boom 34 rfl) rfl rfl ?_
    refine r_getf (C := RX9) (T := TX9) (N := 6) 65 52 0 K (dk_of tX9_boom 35 rfl) w319 gwX9 rfl rfl (by decide) rfl ?_
    refine r_getf (C := RX0) (T := TX0) (N := 9) 68 0 2 K (dk_of tX9_boom 36 rfl) w208 gwX0 rfl rfl (by decide) rfl ?_
    refine r_getf (C := RX4) (T := TX4) (N := 9) 71 14 3 K (dk_of tX9_boom 37 rfl) w132 gwX4 rfl rfl (by decide) rfl ?_
    refine r_iload 74 4 K (dk_of tX9_boom 38 rfl) rfl ?_
    refine r_iload_n 76 2 K (dk_of tX9_boom 39 rfl) rfl rfl ?_
    refine r_iastR 77 17 K (dk_of tX9_boom 40 rfl) rfl sB_17 hR (fun hR => ?_)
    refine r_nmS (fun σ4 : St => wB γ h σ4 ++ (wB γ g τ ++ (wS as9 (h 0) (g 0) an aq (ad 0) (ap 0) ++ (wN an (h 0) ν ++ (wR aq (h 0) ++ (wD γ ad δ ++ (wP γ ap π ++ (r)))))))) hR (fun σ4 hR => ?_)
    refine r_iload 78 4 K (dk_of tX9_boom 41 rfl) rfl ?_
    exact r_iret 80 K hQ (dk_of tX9_boom 42 rfl) (Nat.zero_le _) (Nat.zero_le _) (lzi (fun u9 : St => wB γ h u9 ++ (wB γ g τ ++ (wS as9 (h 0) (g 0) an aq (ad 0) (ap 0) ++ (wN an (h 0) ν ++ (wR aq (h 0) ++ (wD γ ad δ ++ (wP γ ap π ++ (r)))))))) _ hR)
  · exact r_thr 35 7 K hQ rfl thr3 (dk_of tX9_boom 19 rfl) (dk_of tX9_boom 20 rfl) (dk_of tX9_boom 21 rfl) (dk_of tX9_boom 22 rfl) (dk_of tX9_boom 23 rfl) rfl (zc (Option.some.inj hR)) (zs (Option.some.inj hR)) (zc (Option.some.inj hR)) (zs (Option.some.inj hR)) (lxi (fun u9 : St => wB γ h u9 ++ (wB γ g τ ++ (wS as9 (h 0) (g 0) an aq (ad 0) (ap 0) ++ (wN an (h 0) ν ++ (wR aq (h 0) ++ (wD γ ad δ ++ (wP γ ap π ++ (r)))))))) (Option.some.inj hR))

def sp_X9_needWater (p1 : Int32) (σ : St) : Option ((Unit) ⊕ Nat) := b1 (sp_X2_isWater p1 σ) (fun (x1 : Int32) => if x1 = 0 then (some (.inr 3)) else (some (.inl ())))
set_option maxHeartbeats 4000000 in
set_option maxRecDepth 100000 in
theorem ct_X9_needWater {l : Launch} (hl : l.stackTraces = false) {γ : Gd} {h : Nat → Nat} {g : Nat → Nat} {as9 : Nat} {an : Nat} {aq : Nat} {ad : Nat → Nat} {ap : Nat → Nat} {σ : St} {τ : St} {ν : (Nat → Int32)} {δ : St} {π : (St × Int64)} {r : va_W} {p1 : Int32} {z : (Unit) ⊕ Nat} (hR : some z = sp_X9_needWater p1 σ) : Ct l γ yX9_needWater (Cond.code yX9_needWater cX9_needWater 2 none) ({ frames := 6, cells := mcz z, slots := msz z, locals := 82 } : Room) [.ref as9, .int p1] (wB γ h σ ++ (wB γ g τ ++ (wS as9 (h 0) (g 0) an aq (ad 0) (ap 0) ++ (wN an (h 0) ν ++ (wR aq (h 0) ++ (wD γ ad δ ++ (wP γ ap π ++ (r)))))))) (Pzv0 (wB γ h σ ++ (wB γ g τ ++ (wS as9 (h 0) (g 0) an aq (ad 0) (ap 0) ++ (wN an (h 0) ν ++ (wR aq (h 0) ++ (wD γ ad δ ++ (wP γ ap π ++ (r)))))))) z) (mcz z) (msz z) := by
  refine Ct_of hl (by decide +kernel) rfl (Nat.le_of_ble_eq_true rfl) (L := [some (.ref as9), some (.int p1)]) rfl ?_
  intro X Q K hQ
  generalize ((wB γ h σ ++ (wB γ g τ ++ (wS as9 (h 0) (g 0) an aq (ad 0) (ap 0) ++ (wN an (h 0) ν ++ (wR aq (h 0) ++ (wD γ ad δ ++ (wP γ ap π ++ (r))))))), Q) : MX) = M at K hQ ⊢
  unfold sp_X9_needWater at hR
  refine r_aload_n 0 0 K (dk_of tX9_needWater 0 rfl) rfl rfl ?_
  refine r_getf (C := RX9) (T := TX9) (N := 6) 1 52 0 K (dk_of tX9_needWater 1 rfl) w319 gwX9 rfl rfl (by decide) rfl ?_
  refine r_getf (C := RX0) (T := TX0) (N := 9) 4 0 0 K (dk_of tX9_needWater 2 rfl) w202 gwX0 rfl rfl (by decide) rfl ?_
  refine r_iload_n 7 1 K (dk_of tX9_needWater 3 rfl) rfl rfl ?_
  obtain ⟨x1, hc, hR⟩ := o1 hR
  refine r_cVi 8 1 [.int p1] [] x1 (wB γ h σ ++ (wB γ g τ ++ (wS as9 (h 0) (g 0) an aq (ad 0) (ap 0) ++ (wN an (h 0) ν ++ (wR aq (h 0) ++ (wD γ ad δ ++ (wP γ ap π ++ (r)))))))) K (ct_X2_isWater hl hc.symm) cs_X9_291 ⟨rfl, rfl, rfl⟩ (dk_of tX9_needWater 4 rfl) rfl rfl rfl rfl rfl rfl ?_
  refine r_if_ne 11 25 K (dk_of tX9_needWater 5 rfl) (by decide) hR (fun hR => ?_) (fun hR => ?_)
  · exact r_thrW 14 4 K hQ rfl thr3 (dk_of tX9_needWater 6 rfl) (dk_of tX9_needWater 7 rfl) (dk_of tX9_needWater 8 rfl) (dk_of tX9_needWater 9 rfl) (dk_of tX9_needWater 10 rfl) rfl (zc (Option.some.inj hR)) (zs (Option.some.inj hR)) (zc (Option.some.inj hR)) (zs (Option.some.inj hR)) (lxv0 (Option.some.inj hR))
  · exact r_vret 25 K hQ (dk_of tX9_needWater 11 rfl) (Nat.zero_le _) (Nat.zero_le _) (lzv0 hR)

def sp_X9_skimmer (p1 : Int32) (p2 : Int32) (p3 : Int32) (σ : St) : Option ((Int32 × St) ⊕ Nat) := bx (sp_X9_needNumber p1 (24 : Int32)) (fun _ => bx (sp_X9_needRange p2 (1 : Int32) (500 : Int32)) (fun _ => bx (sp_X9_needRange p3 (1 : Int32) (5000 : Int32)) (fun _ => bx (sp_X9_needWater p1 σ) (fun _ => bx (sp_X9_needRoomForMeans σ) (fun _ => b2 (sp_X4_add (1 : Int32) p1 p2 σ) (fun (x1 : Int32) (σ2 : St) => if x1 < 0 ∨ 20 ≤ x1.toNatClampNeg then none else (sl (stU σ2 19 x1.toNatClampNeg p3) (fun σ3 : St => some (.inl (x1, σ3))))))))))
set_option maxHeartbeats 4000000 in
set_option maxRecDepth 100000 in
theorem ct_X9_skimmer {l : Launch} (hl : l.stackTraces = false) {γ : Gd} {h : Nat → Nat} {g : Nat → Nat} {as9 : Nat} {an : Nat} {aq : Nat} {ad : Nat → Nat} {ap : Nat → Nat} {σ : St} {τ : St} {ν : (Nat → Int32)} {δ : St} {π : (St × Int64)} {r : va_W} {p1 : Int32} {p2 : Int32} {p3 : Int32} {z : (Int32 × St) ⊕ Nat} (hR : some z = sp_X9_skimmer p1 p2 p3 σ) : Ct l γ yX9_skimmer (Cond.code yX9_skimmer cX9_skimmer 5 (some .int)) ({ frames := 7, cells := mcz z, slots := msz z, locals := 104 } : Room) [.ref as9, .int p1, .int p2, .int p3] (wB γ h σ ++ (wB γ g τ ++ (wS as9 (h 0) (g 0) an aq (ad 0) (ap 0) ++ (wN an (h 0) ν ++ (wR aq (h 0) ++ (wD γ ad δ ++ (wP γ ap π ++ (r)))))))) (Pzi (fun u9 : St => wB γ h u9 ++ (wB γ g τ ++ (wS as9 (h 0) (g 0) an aq (ad 0) (ap 0) ++ (wN an (h 0) ν ++ (wR aq (h 0) ++ (wD γ ad δ ++ (wP γ ap π ++ (r)))))))) (wB γ h σ ++ (wB γ g τ ++ (wS as9 (h 0) (g 0) an aq (ad 0) (ap 0) ++ (wN an (h 0) ν ++ (wR aq (h 0) ++ (wD γ ad δ ++ (wP γ ap π ++ (r)))))))) z) (mcz z) (msz z) := by
  refine Ct_of hl (by decide +kernel) rfl (Nat.le_of_ble_eq_true rfl) (L := [some (.ref as9), some (.int p1), some (.int p2), some (.int p3), none]) rfl ?_
  intro X Q K hQ
  generalize ((wB γ h σ ++ (wB γ g τ ++ (wS as9 (h 0) (g 0) an aq (ad 0) (ap 0) ++ (wN an (h 0) ν ++ (wR aq (h 0) ++ (wD γ ad δ ++ (wP γ ap π ++ (r))))))), Q) : MX) = M at K hQ ⊢
  unfold sp_X9_skimmer at hR
  refine r_iload_n 0 1 K (dk_of tX9_skimmer 0 rfl) rfl rfl ?_
  refine r_bipush 1 (24 : Int32) K (dk_of tX9_skimmer 1 rfl) (by decide) ?_
  rcases ox hR with ⟨_, hc, hR⟩ | ⟨k9, hc, hR⟩
  rotate_left
  · exact r_xS 3 [.int p1, .int (24 : Int32)] [] k9 (wB γ h σ ++ (wB γ g τ ++ (wS as9 (h 0) (g 0) an aq (ad 0) (ap 0) ++ (wN an (h 0) ν ++ (wR aq (h 0) ++ (wD γ ad δ ++ (wP γ ap π ++ (r)))))))) K (ct_X9_needNumber hl (z := .inr k9) hc.symm) cs_X9_49 ⟨rfl, rfl, rfl⟩ (dk_of tX9_skimmer 2 rfl) rfl rfl rfl ⟨zc hR, zs hR⟩ (r_out 3 K hQ (zc hR) (zs hR) (lxi (fun u9 : St => wB γ h u9 ++ (wB γ g τ ++ (wS as9 (h 0) (g 0) an aq (ad 0) (ap 0) ++ (wN an (h 0) ν ++ (wR aq (h 0) ++ (wD γ ad δ ++ (wP γ ap π ++ (r)))))))) hR))
  refine r_cSv 3 [.int p1, .int (24 : Int32)] [] (wB γ h σ ++ (wB γ g τ ++ (wS as9 (h 0) (g 0) an aq (ad 0) (ap 0) ++ (wN an (h 0) ν ++ (wR aq (h 0) ++ (wD γ ad δ ++ (wP γ ap π ++ (r)))))))) K (ct_X9_needNumber hl (z := .inl ()) hc.symm) cs_X9_49 ⟨rfl, rfl, rfl⟩ (dk_of tX9_skimmer 2 rfl) rfl rfl rfl rfl ?_
  refine r_iload_n 6 2 K (dk_of tX9_skimmer 3 rfl) rfl rfl ?_
  refine r_iconst 7 (1 : Int32) K (dk_of tX9_skimmer 4 rfl) (by decide) ?_
  refine r_sipush 8 (500 : Int32) K (dk_of tX9_skimmer 5 rfl) (by decide) ?_
  rcases ox hR with ⟨_, hc, hR⟩ | ⟨k9, hc, hR⟩
  rotate_left
  · exact r_xS 11 [.int p2, .int (1 : Int32), .int (500 : Int32)] [] k9 (wB γ h σ ++ (wB γ g τ ++ (wS as9 (h 0) (g 0) an aq (ad 0) (ap 0) ++ (wN an (h 0) ν ++ (wR aq (h 0) ++ (wD γ ad δ ++ (wP γ ap π ++ (r)))))))) K (ct_X9_needRange hl (z := .inr k9) hc.symm) cs_X9_53 ⟨rfl, rfl, rfl⟩ (dk_of tX9_skimmer 6 rfl) rfl rfl rfl ⟨zc hR, zs hR⟩ (r_out 11 K hQ (zc hR) (zs hR) (lxi (fun u9 : St => wB γ h u9 ++ (wB γ g τ ++ (wS as9 (h 0) (g 0) an aq (ad 0) (ap 0) ++ (wN an (h 0) ν ++ (wR aq (h 0) ++ (wD γ ad δ ++ (wP γ ap π ++ (r)))))))) hR))
  refine r_cSv 11 [.int p2, .int (1 : Int32), .int (500 : Int32)] [] (wB γ h σ ++ (wB γ g τ ++ (wS as9 (h 0) (g 0) an aq (ad 0) (ap 0) ++ (wN an (h 0) ν ++ (wR aq (h 0) ++ (wD γ ad δ ++ (wP γ ap π ++ (r)))))))) K (ct_X9_needRange hl (z := .inl ()) hc.symm) cs_X9_53 ⟨rfl, rfl, rfl⟩ (dk_of tX9_skimmer 6 rfl) rfl rfl rfl rfl ?_
  refine r_iload_n 14 3 K (dk_of tX9_skimmer 7 rfl) rfl rfl ?_
  refine r_iconst 15 (1 : Int32) K (dk_of tX9_skimmer 8 rfl) (by decide) ?_
  refine r_sipush 16 (5000 : Int32) K (dk_of tX9_skimmer 9 rfl) (by decide) ?_
  rcases ox hR with ⟨_, hc, hR⟩ | ⟨k9, hc, hR⟩
  rotate_left
  · exact r_xS 19 [.int p3, .int (1 : Int32), .int (5000 : Int32)] [] k9 (wB γ h σ ++ (wB γ g τ ++ (wS as9 (h 0) (g 0) an aq (ad 0) (ap 0) ++ (wN an (h 0) ν ++ (wR aq (h 0) ++ (wD γ ad δ ++ (wP γ ap π ++ (r)))))))) K (ct_X9_needRange hl (z := .inr k9) hc.symm) cs_X9_53 ⟨rfl, rfl, rfl⟩ (dk_of tX9_skimmer 10 rfl) rfl rfl rfl ⟨zc hR, zs hR⟩ (r_out 19 K hQ (zc hR) (zs hR) (lxi (fun u9 : St => wB γ h u9 ++ (wB γ g τ ++ (wS as9 (h 0) (g 0) an aq (ad 0) (ap 0) ++ (wN an (h 0) ν ++ (wR aq (h 0) ++ (wD γ ad δ ++ (wP γ ap π ++ (r)))))))) hR))
  refine r_cSv 19 [.int p3, .int (1 : Int32), .int (5000 : Int32)] [] (wB γ h σ ++ (wB γ g τ ++ (wS as9 (h 0) (g 0) an aq (ad 0) (ap 0) ++ (wN an (h 0) ν ++ (wR aq (h 0) ++ (wD γ ad δ ++ (wP γ ap π ++ (r)))))))) K (ct_X9_needRange hl (z := .inl ()) hc.symm) cs_X9_53 ⟨rfl, rfl, rfl⟩ (dk_of tX9_skimmer 10 rfl) rfl rfl rfl rfl ?_
  refine r_aload_n 22 0 K (dk_of tX9_skimmer 11 rfl) rfl rfl ?_
  refine r_iload_n 23 1 K (dk_of tX9_skimmer 12 rfl) rfl rfl ?_
  rcases ox hR with ⟨_, hc, hR⟩ | ⟨k9, hc, hR⟩
  rotate_left
  · exact r_xV 24 52 [.int p1] [] k9 (wB γ h σ ++ (wB γ g τ ++ (wS as9 (h 0) (g 0) an aq (ad 0) (ap 0) ++ (wN an (h 0) ν ++ (wR aq (h 0) ++ (wD γ ad δ ++ (wP γ ap π ++ (r)))))))) K (ct_X9_needWater hl (z := .inr k9) hc.symm) cs_X9_102 ⟨rfl, rfl, rfl⟩ (dk_of tX9_skimmer 13 rfl) rfl rfl rfl rfl rfl ⟨zc hR, zs hR⟩ (r_out 24 K hQ (zc hR) (zs hR) (lxi (fun u9 : St => wB γ h u9 ++ (wB γ g τ ++ (wS as9 (h 0) (g 0) an aq (ad 0) (ap 0) ++ (wN an (h 0) ν ++ (wR aq (h 0) ++ (wD γ ad δ ++ (wP γ ap π ++ (r)))))))) hR))
  refine r_cVv 24 52 [.int p1] [] (wB γ h σ ++ (wB γ g τ ++ (wS as9 (h 0) (g 0) an aq (ad 0) (ap 0) ++ (wN an (h 0) ν ++ (wR aq (h 0) ++ (wD γ ad δ ++ (wP γ ap π ++ (r)))))))) K (ct_X9_needWater hl (z := .inl ()) hc.symm) cs_X9_102 ⟨rfl, rfl, rfl⟩ (dk_of tX9_skimmer 13 rfl) rfl rfl rfl rfl rfl rfl ?_
  refine r_aload_n 27 0 K (dk_of tX9_skimmer 14 rfl) rfl rfl ?_
  rcases ox hR with ⟨_, hc, hR⟩ | ⟨k9, hc, hR⟩
  rotate_left
  · exact r_xV 28 52 [] [] k9 (wB γ h σ ++ (wB γ g τ ++ (wS as9 (h 0) (g 0) an aq (ad 0) (ap 0) ++ (wN an (h 0) ν ++ (wR aq (h 0) ++ (wD γ ad δ ++ (wP γ ap π ++ (r)))))))) K (ct_X9_needRoomForMeans hl (z := .inr k9) hc.symm) cs_X9_169 ⟨rfl, rfl, rfl⟩ (dk_of tX9_skimmer 15 rfl) rfl rfl rfl rfl rfl ⟨zc hR, zs hR⟩ (r_out 28 K hQ (zc hR) (zs hR) (lxi (fun u9 : St => wB γ h u9 ++ (wB γ g τ ++ (wS as9 (h 0) (g 0) an aq (ad 0) (ap 0) ++ (wN an (h 0) ν ++ (wR aq (h 0) ++ (wD γ ad δ ++ (wP γ ap π ++ (r)))))))) hR))
  refine r_cVv 28 52 [] [] (wB γ h σ ++ (wB γ g τ ++ (wS as9 (h 0) (g 0) an aq (ad 0) (ap 0) ++ (wN an (h 0) ν ++ (wR aq (h 0) ++ (wD γ ad δ ++ (wP γ ap π ++ (r)))))))) K (ct_X9_needRoomForMeans hl (z := .inl ()) hc.symm) cs_X9_169 ⟨rfl, rfl, rfl⟩ (dk_of tX9_skimmer 15 rfl) rfl rfl rfl rfl rfl rfl ?_
  refine r_aload_n 31 0 K (dk_of tX9_skimmer 16 rfl) rfl rfl ?_
  refine r_getf (C := RX9) (T := TX9) (N := 6) 32 52 0 K (dk_of tX9_skimmer 17 rfl) w319 gwX9 rfl rfl (by decide) rfl ?_
  refine r_getf (C := RX0) (T := TX0) (N := 9) 35 0 2 K (dk_of tX9_skimmer 18 rfl) w208 gwX0 rfl rfl (by decide) rfl ?_
  refine r_iconst 38 (1 : Int32) K (dk_of tX9_skimmer 19 rfl) (by decide) ?_
  refine r_iload_n 39 1 K (dk_of tX9_skimmer 20 rfl) rfl rfl ?_
  refine r_iload_n 40 2 K (dk_of tX9_skimmer 21 rfl) rfl rfl ?_
  obtain ⟨x1, σ2, hc, hR⟩ := o2 hR
  refine r_cVi 41 14 [.int (1 : Int32), .int p1, .int p2] [] x1 (wB γ h σ2 ++ (wB γ g τ ++ (wS as9 (h 0) (g 0) an aq (ad 0) (ap 0) ++ (wN an (h 0) ν ++ (wR aq (h 0) ++ (wD γ ad δ ++ (wP γ ap π ++ (r)))))))) K (ct_X4_add hl hc.symm) cs_X9_172 ⟨rfl, rfl, rfl⟩ (dk_of tX9_skimmer 22 rfl) rfl rfl rfl rfl rfl rfl ?_
  refine r_istore 44 4 [some (.ref as9), some (.int p1), some (.int p2), some (.int p3), some (.int x1)] K (dk_of tX9_skimmer 23 rfl) rfl rfl (by decide) ?_
  refine r_aload_n 46 0 K (dk_of tX9_skimmer 24 rfl) rfl rfl ?_
  refine r_getf (C := RX9) (T := TX9) (N := 6) 47 52 0 K (dk_of tX9_skimmer 25 rfl) w319 gwX9 rfl rfl (by decide) rfl ?_
  refine r_getf (C := RX0) (T := TX0) (N := 9) 50 0 2 K (dk_of tX9_skimmer 26 rfl) w208 gwX0 rfl rfl (by decide) rfl ?_
  refine r_getf (C := RX4) (T := TX4) (N := 9) 53 14 5 K (dk_of tX9_skimmer 27 rfl) w138 gwX4 rfl rfl (by decide) rfl ?_
  refine r_iload 56 4 K (dk_of tX9_skimmer 28 rfl) rfl ?_
  refine r_iload_n 58 3 K (dk_of tX9_skimmer 29 rfl) rfl rfl ?_
  refine r_iastR 59 19 K (dk_of tX9_skimmer 30 rfl) rfl sB_19 hR (fun hR => ?_)
  refine r_nmS (fun σ3 : St => wB γ h σ3 ++ (wB γ g τ ++ (wS as9 (h 0) (g 0) an aq (ad 0) (ap 0) ++ (wN an (h 0) ν ++ (wR aq (h 0) ++ (wD γ ad δ ++ (wP γ ap π ++ (r)))))))) hR (fun σ3 hR => ?_)
  refine r_iload 60 4 K (dk_of tX9_skimmer 31 rfl) rfl ?_
  exact r_iret 62 K hQ (dk_of tX9_skimmer 32 rfl) (Nat.zero_le _) (Nat.zero_le _) (lzi (fun u9 : St => wB γ h u9 ++ (wB γ g τ ++ (wS as9 (h 0) (g 0) an aq (ad 0) (ap 0) ++ (wN an (h 0) ν ++ (wR aq (h 0) ++ (wD γ ad δ ++ (wP γ ap π ++ (r)))))))) _ hR)

def sp_X9_ship (p1 : Int32) (p2 : Int32) (σ : St) : Option ((Int32 × St) ⊕ Nat) := bx (sp_X9_needNumber p1 (24 : Int32)) (fun _ => bx (sp_X9_needRange p2 (0 : Int32) (100000 : Int32)) (fun _ => bx (sp_X9_needWater p1 σ) (fun _ => if (σ 10 0) < (4 : Int32) then (b2 (sp_X8_add p1 p2 σ) (fun (x1 : Int32) (σ2 : St) => some (.inl (x1, σ2)))) else (some (.inr 3)))))
set_option maxHeartbeats 4000000 in
set_option maxRecDepth 100000 in
theorem ct_X9_ship {l : Launch} (hl : l.stackTraces = false) {γ : Gd} {h : Nat → Nat} {g : Nat → Nat} {as9 : Nat} {an : Nat} {aq : Nat} {ad : Nat → Nat} {ap : Nat → Nat} {σ : St} {τ : St} {ν : (Nat → Int32)} {δ : St} {π : (St × Int64)} {r : va_W} {p1 : Int32} {p2 : Int32} {z : (Int32 × St) ⊕ Nat} (hR : some z = sp_X9_ship p1 p2 σ) : Ct l γ yX9_ship (Cond.code yX9_ship cX9_ship 3 (some .int)) ({ frames := 7, cells := mcz z, slots := msz z, locals := 104 } : Room) [.ref as9, .int p1, .int p2] (wB γ h σ ++ (wB γ g τ ++ (wS as9 (h 0) (g 0) an aq (ad 0) (ap 0) ++ (wN an (h 0) ν ++ (wR aq (h 0) ++ (wD γ ad δ ++ (wP γ ap π ++ (r)))))))) (Pzi (fun u9 : St => wB γ h u9 ++ (wB γ g τ ++ (wS as9 (h 0) (g 0) an aq (ad 0) (ap 0) ++ (wN an (h 0) ν ++ (wR aq (h 0) ++ (wD γ ad δ ++ (wP γ ap π ++ (r)))))))) (wB γ h σ ++ (wB γ g τ ++ (wS as9 (h 0) (g 0) an aq (ad 0) (ap 0) ++ (wN an (h 0) ν ++ (wR aq (h 0) ++ (wD γ ad δ ++ (wP γ ap π ++ (r)))))))) z) (mcz z) (msz z) := by
  refine Ct_of hl (by decide +kernel) rfl (Nat.le_of_ble_eq_true rfl) (L := [some (.ref as9), some (.int p1), some (.int p2)]) rfl ?_
  intro X Q K hQ
  generalize ((wB γ h σ ++ (wB γ g τ ++ (wS as9 (h 0) (g 0) an aq (ad 0) (ap 0) ++ (wN an (h 0) ν ++ (wR aq (h 0) ++ (wD γ ad δ ++ (wP γ ap π ++ (r))))))), Q) : MX) = M at K hQ ⊢
  unfold sp_X9_ship at hR
  refine r_iload_n 0 1 K (dk_of tX9_ship 0 rfl) rfl rfl ?_
  refine r_bipush 1 (24 : Int32) K (dk_of tX9_ship 1 rfl) (by decide) ?_
  rcases ox hR with ⟨_, hc, hR⟩ | ⟨k9, hc, hR⟩
  rotate_left
  · exact r_xS 3 [.int p1, .int (24 : Int32)] [] k9 (wB γ h σ ++ (wB γ g τ ++ (wS as9 (h 0) (g 0) an aq (ad 0) (ap 0) ++ (wN an (h 0) ν ++ (wR aq (h 0) ++ (wD γ ad δ ++ (wP γ ap π ++ (r)))))))) K (ct_X9_needNumber hl (z := .inr k9) hc.symm) cs_X9_49 ⟨rfl, rfl, rfl⟩ (dk_of tX9_ship 2 rfl) rfl rfl rfl ⟨zc hR, zs hR⟩ (r_out 3 K hQ (zc hR) (zs hR) (lxi (fun u9 : St => wB γ h u9 ++ (wB γ g τ ++ (wS as9 (h 0) (g 0) an aq (ad 0) (ap 0) ++ (wN an (h 0) ν ++ (wR aq (h 0) ++ (wD γ ad δ ++ (wP γ ap π ++ (r)))))))) hR))
  refine r_cSv 3 [.int p1, .int (24 : Int32)] [] (wB γ h σ ++ (wB γ g τ ++ (wS as9 (h 0) (g 0) an aq (ad 0) (ap 0) ++ (wN an (h 0) ν ++ (wR aq (h 0) ++ (wD γ ad δ ++ (wP γ ap π ++ (r)))))))) K (ct_X9_needNumber hl (z := .inl ()) hc.symm) cs_X9_49 ⟨rfl, rfl, rfl⟩ (dk_of tX9_ship 2 rfl) rfl rfl rfl rfl ?_
  refine r_iload_n 6 2 K (dk_of tX9_ship 3 rfl) rfl rfl ?_
  refine r_iconst 7 (0 : Int32) K (dk_of tX9_ship 4 rfl) (by decide) ?_
  refine r_ldc 8 100000 K (dk_of tX9_ship 5 rfl) w800 ?_
  rcases ox hR with ⟨_, hc, hR⟩ | ⟨k9, hc, hR⟩
  rotate_left
  · exact r_xS 10 [.int p2, .int (0 : Int32), .int (100000 : Int32)] [] k9 (wB γ h σ ++ (wB γ g τ ++ (wS as9 (h 0) (g 0) an aq (ad 0) (ap 0) ++ (wN an (h 0) ν ++ (wR aq (h 0) ++ (wD γ ad δ ++ (wP γ ap π ++ (r)))))))) K (ct_X9_needRange hl (z := .inr k9) hc.symm) cs_X9_53 ⟨rfl, rfl, rfl⟩ (dk_of tX9_ship 6 rfl) rfl rfl rfl ⟨zc hR, zs hR⟩ (r_out 10 K hQ (zc hR) (zs hR) (lxi (fun u9 : St => wB γ h u9 ++ (wB γ g τ ++ (wS as9 (h 0) (g 0) an aq (ad 0) (ap 0) ++ (wN an (h 0) ν ++ (wR aq (h 0) ++ (wD γ ad δ ++ (wP γ ap π ++ (r)))))))) hR))
  refine r_cSv 10 [.int p2, .int (0 : Int32), .int (100000 : Int32)] [] (wB γ h σ ++ (wB γ g τ ++ (wS as9 (h 0) (g 0) an aq (ad 0) (ap 0) ++ (wN an (h 0) ν ++ (wR aq (h 0) ++ (wD γ ad δ ++ (wP γ ap π ++ (r)))))))) K (ct_X9_needRange hl (z := .inl ()) hc.symm) cs_X9_53 ⟨rfl, rfl, rfl⟩ (dk_of tX9_ship 6 rfl) rfl rfl rfl rfl ?_
  refine r_aload_n 13 0 K (dk_of tX9_ship 7 rfl) rfl rfl ?_
  refine r_iload_n 14 1 K (dk_of tX9_ship 8 rfl) rfl rfl ?_
  rcases ox hR with ⟨_, hc, hR⟩ | ⟨k9, hc, hR⟩
  rotate_left
  · exact r_xV 15 52 [.int p1] [] k9 (wB γ h σ ++ (wB γ g τ ++ (wS as9 (h 0) (g 0) an aq (ad 0) (ap 0) ++ (wN an (h 0) ν ++ (wR aq (h 0) ++ (wD γ ad δ ++ (wP γ ap π ++ (r)))))))) K (ct_X9_needWater hl (z := .inr k9) hc.symm) cs_X9_102 ⟨rfl, rfl, rfl⟩ (dk_of tX9_ship 9 rfl) rfl rfl rfl rfl rfl ⟨zc hR, zs hR⟩ (r_out 15 K hQ (zc hR) (zs hR) (lxi (fun u9 : St => wB γ h u9 ++ (wB γ g τ ++ (wS as9 (h 0) (g 0) an aq (ad 0) (ap 0) ++ (wN an (h 0) ν ++ (wR aq (h 0) ++ (wD γ ad δ ++ (wP γ ap π ++ (r)))))))) hR))
  refine r_cVv 15 52 [.int p1] [] (wB γ h σ ++ (wB γ g τ ++ (wS as9 (h 0) (g 0) an aq (ad 0) (ap 0) ++ (wN an (h 0) ν ++ (wR aq (h 0) ++ (wD γ ad δ ++ (wP γ ap π ++ (r)))))))) K (ct_X9_needWater hl (z := .inl ()) hc.symm) cs_X9_102 ⟨rfl, rfl, rfl⟩ (dk_of tX9_ship 9 rfl) rfl rfl rfl rfl rfl rfl ?_
  refine r_aload_n 18 0 K (dk_of tX9_ship 10 rfl) rfl rfl ?_
  refine r_getf (C := RX9) (T := TX9) (N := 6) 19 52 0 K (dk_of tX9_ship 11 rfl) w319 gwX9 rfl rfl (by decide) rfl ?_
  refine r_getf (C := RX0) (T := TX0) (N := 9) 22 0 1 K (dk_of tX9_ship 12 rfl) w205 gwX0 rfl rfl (by decide) rfl ?_
  refine r_getf (C := RX8) (T := TX8) (N := 4) 25 10 0 K (dk_of tX9_ship 13 rfl) w96 gwX8 rfl rfl (by decide) rfl ?_
  refine r_iconst 28 (4 : Int32) K (dk_of tX9_ship 14 rfl) (by decide) ?_
  refine r_ic_lt 29 42 K (dk_of tX9_ship 15 rfl) (by decide) hR (fun hR => ?_) (fun hR => ?_)
  · refine r_aload_n 42 0 K (dk_of tX9_ship 21 rfl) rfl rfl ?_
    refine r_getf (C := RX9) (T := TX9) (N := 6) 43 52 0 K (dk_of tX9_ship 22 rfl) w319 gwX9 rfl rfl (by decide) rfl ?_
    refine r_getf (C := RX0) (T := TX0) (N := 9) 46 0 1 K (dk_of tX9_ship 23 rfl) w205 gwX0 rfl rfl (by decide) rfl ?_
    refine r_iload_n 49 1 K (dk_of tX9_ship 24 rfl) rfl rfl ?_
    refine r_iload_n 50 2 K (dk_of tX9_ship 25 rfl) rfl rfl ?_
    obtain ⟨x1, σ2, hc, hR⟩ := o2 hR
    refine r_cVi 51 10 [.int p1, .int p2] [] x1 (wB γ h σ2 ++ (wB γ g τ ++ (wS as9 (h 0) (g 0) an aq (ad 0) (ap 0) ++ (wN an (h 0) ν ++ (wR aq (h 0) ++ (wD γ ad δ ++ (wP γ ap π ++ (r)))))))) K (ct_X8_add hl hc.symm) cs_X9_121 ⟨rfl, rfl, rfl⟩ (dk_of tX9_ship 26 rfl) rfl rfl rfl rfl rfl rfl ?_
    exact r_iret 54 K hQ (dk_of tX9_ship 27 rfl) (Nat.zero_le _) (Nat.zero_le _) (lzi (fun u9 : St => wB γ h u9 ++ (wB γ g τ ++ (wS as9 (h 0) (g 0) an aq (ad 0) (ap 0) ++ (wN an (h 0) ν ++ (wR aq (h 0) ++ (wD γ ad δ ++ (wP γ ap π ++ (r)))))))) _ hR)
  · exact r_thr 32 5 K hQ rfl thr3 (dk_of tX9_ship 16 rfl) (dk_of tX9_ship 17 rfl) (dk_of tX9_ship 18 rfl) (dk_of tX9_ship 19 rfl) (dk_of tX9_ship 20 rfl) rfl (zc (Option.some.inj hR)) (zs (Option.some.inj hR)) (zc (Option.some.inj hR)) (zs (Option.some.inj hR)) (lxi (fun u9 : St => wB γ h u9 ++ (wB γ g τ ++ (wS as9 (h 0) (g 0) an aq (ad 0) (ap 0) ++ (wN an (h 0) ν ++ (wR aq (h 0) ++ (wD γ ad δ ++ (wP γ ap π ++ (r)))))))) (Option.some.inj hR))

def sp_X9_needSort (p1 : Int32) (p2 : Int32) (σ : St) : Option ((Unit) ⊕ Nat) := if p1 < 0 ∨ 20 ≤ p1.toNatClampNeg then none else (if (σ 15 p1.toNatClampNeg) = p2 then (some (.inl ())) else (some (.inr 3)))
set_option maxHeartbeats 4000000 in
set_option maxRecDepth 100000 in
theorem ct_X9_needSort {l : Launch} (hl : l.stackTraces = false) {γ : Gd} {h : Nat → Nat} {g : Nat → Nat} {as9 : Nat} {an : Nat} {aq : Nat} {ad : Nat → Nat} {ap : Nat → Nat} {σ : St} {τ : St} {ν : (Nat → Int32)} {δ : St} {π : (St × Int64)} {r : va_W} {p1 : Int32} {p2 : Int32} {z : (Unit) ⊕ Nat} (hR : some z = sp_X9_needSort p1 p2 σ) : Ct l γ yX9_needSort (Cond.code yX9_needSort cX9_needSort 3 none) ({ frames := 6, cells := mcz z, slots := msz z, locals := 82 } : Room) [.ref as9, .int p1, .int p2] (wB γ h σ ++ (wB γ g τ ++ (wS as9 (h 0) (g 0) an aq (ad 0) (ap 0) ++ (wN an (h 0) ν ++ (wR aq (h 0) ++ (wD γ ad δ ++ (wP γ ap π ++ (r)))))))) (Pzv0 (wB γ h σ ++ (wB γ g τ ++ (wS as9 (h 0) (g 0) an aq (ad 0) (ap 0) ++ (wN an (h 0) ν ++ (wR aq (h 0) ++ (wD γ ad δ ++ (wP γ ap π ++ (r)))))))) z) (mcz z) (msz z) := by
  refine Ct_of hl (by decide +kernel) rfl (Nat.le_of_ble_eq_true rfl) (L := [some (.ref as9), some (.int p1), some (.int p2)]) rfl ?_
  intro X Q K hQ
  generalize ((wB γ h σ ++ (wB γ g τ ++ (wS as9 (h 0) (g 0) an aq (ad 0) (ap 0) ++ (wN an (h 0) ν ++ (wR aq (h 0) ++ (wD γ ad δ ++ (wP γ ap π ++ (r))))))), Q) : MX) = M at K hQ ⊢
  unfold sp_X9_needSort at hR
  refine r_aload_n 0 0 K (dk_of tX9_needSort 0 rfl) rfl rfl ?_
  refine r_getf (C := RX9) (T := TX9) (N := 6) 1 52 0 K (dk_of tX9_needSort 1 rfl) w319 gwX9 rfl rfl (by decide) rfl ?_
  refine r_getf (C := RX0) (T := TX0) (N := 9) 4 0 2 K (dk_of tX9_needSort 2 rfl) w208 gwX0 rfl rfl (by decide) rfl ?_
  refine r_getf (C := RX4) (T := TX4) (N := 9) 7 14 1 K (dk_of tX9_needSort 3 rfl) w127 gwX4 rfl rfl (by decide) rfl ?_
  refine r_iload_n 10 1 K (dk_of tX9_needSort 4 rfl) rfl rfl ?_
  refine r_ialdR 11 15 K (dk_of tX9_needSort 5 rfl) rfl hR (fun hR => ?_)
  refine r_iload_n 12 2 K (dk_of tX9_needSort 6 rfl) rfl rfl ?_
  refine r_ic_eq 13 27 K (dk_of tX9_needSort 7 rfl) (by decide) hR (fun hR => ?_) (fun hR => ?_)
  · exact r_vret 27 K hQ (dk_of tX9_needSort 13 rfl) (Nat.zero_le _) (Nat.zero_le _) (lzv0 hR)
  · exact r_thrW 16 9 K hQ rfl thr3 (dk_of tX9_needSort 8 rfl) (dk_of tX9_needSort 9 rfl) (dk_of tX9_needSort 10 rfl) (dk_of tX9_needSort 11 rfl) (dk_of tX9_needSort 12 rfl) rfl (zc (Option.some.inj hR)) (zs (Option.some.inj hR)) (zc (Option.some.inj hR)) (zs (Option.some.inj hR)) (lxv0 (Option.some.inj hR))

def sp_X9_clean (p1 : Int32) (p2 : Int32) (σ : St) (δ : St) : Option ((Int32 × St × St) ⊕ Nat) := bx (sp_X9_needNumber p1 (σ 14 0)) (fun _ => bx (sp_X9_needNumber p2 (24 : Int32)) (fun _ => bx (sp_X9_needSort p1 (2 : Int32) σ) (fun _ => bx (sp_X9_needShore p2 σ) (fun _ => b1 (sp_X4_canWork p1 (σ 0 4) σ) (fun (x1 : Int32) => if x1 = 0 then (some (.inr 3)) else (b1 (sp_X4_noteWork p1 (σ 0 4) σ) (fun (σ2 : St) => if p1 < 0 ∨ 20 ≤ p1.toNatClampNeg then none else (if p2 < 0 ∨ 24 ≤ p2.toNatClampNeg then none else (sl ((iMin ((10 : Int32) * (σ2 18 p1.toNatClampNeg)) (σ2 6 p2.toNatClampNeg))) (fun x3 : Int32 => if p2 < 0 ∨ 24 ≤ p2.toNatClampNeg then none else (if p2 < 0 ∨ 24 ≤ p2.toNatClampNeg then none else (sl (stU σ2 6 p2.toNatClampNeg ((σ2 6 p2.toNatClampNeg) - x3)) (fun σ4 : St => sl (stU δ 1 (1 : Int32).toNatClampNeg ((δ 1 (1 : Int32).toNatClampNeg) + x3)) (fun δ5 : St => some (.inl (x3, σ4, δ5))))))))))))))))
set_option maxHeartbeats 4000000 in
set_option maxRecDepth 100000 in
theorem ct_X9_clean {l : Launch} (hl : l.stackTraces = false) {γ : Gd} {h : Nat → Nat} {g : Nat → Nat} {as9 : Nat} {an : Nat} {aq : Nat} {ad : Nat → Nat} {ap : Nat → Nat} {σ : St} {τ : St} {ν : (Nat → Int32)} {δ : St} {π : (St × Int64)} {r : va_W} {p1 : Int32} {p2 : Int32} {z : (Int32 × St × St) ⊕ Nat} (hR : some z = sp_X9_clean p1 p2 σ δ) : Ct l γ yX9_clean (Cond.code yX9_clean cX9_clean 4 (some .int)) ({ frames := 7, cells := mcz z, slots := msz z, locals := 104 } : Room) [.ref as9, .int p1, .int p2] (wB γ h σ ++ (wB γ g τ ++ (wS as9 (h 0) (g 0) an aq (ad 0) (ap 0) ++ (wN an (h 0) ν ++ (wR aq (h 0) ++ (wD γ ad δ ++ (wP γ ap π ++ (r)))))))) (Pzi (fun u9 : St × St => wB γ h u9.1 ++ (wB γ g τ ++ (wS as9 (h 0) (g 0) an aq (ad 0) (ap 0) ++ (wN an (h 0) ν ++ (wR aq (h 0) ++ (wD γ ad u9.2 ++ (wP γ ap π ++ (r)))))))) (wB γ h σ ++ (wB γ g τ ++ (wS as9 (h 0) (g 0) an aq (ad 0) (ap 0) ++ (wN an (h 0) ν ++ (wR aq (h 0) ++ (wD γ ad δ ++ (wP γ ap π ++ (r)))))))) z) (mcz z) (msz z) := by
  refine Ct_of hl (by decide +kernel) rfl (Nat.le_of_ble_eq_true rfl) (L := [some (.ref as9), some (.int p1), some (.int p2), none]) rfl ?_
  intro X Q K hQ
  generalize ((wB γ h σ ++ (wB γ g τ ++ (wS as9 (h 0) (g 0) an aq (ad 0) (ap 0) ++ (wN an (h 0) ν ++ (wR aq (h 0) ++ (wD γ ad δ ++ (wP γ ap π ++ (r))))))), Q) : MX) = M at K hQ ⊢
  unfold sp_X9_clean at hR
  refine r_iload_n 0 1 K (dk_of tX9_clean 0 rfl) rfl rfl ?_
  refine r_aload_n 1 0 K (dk_of tX9_clean 1 rfl) rfl rfl ?_
  refine r_getf (C := RX9) (T := TX9) (N := 6) 2 52 0 K (dk_of tX9_clean 2 rfl) w319 gwX9 rfl rfl (by decide) rfl ?_
  refine r_getf (C := RX0) (T := TX0) (N := 9) 5 0 2 K (dk_of tX9_clean 3 rfl) w208 gwX0 rfl rfl (by decide) rfl ?_
  refine r_getf (C := RX4) (T := TX4) (N := 9) 8 14 0 K (dk_of tX9_clean 4 rfl) w124 gwX4 rfl rfl (by decide) rfl ?_
  rcases ox hR with ⟨_, hc, hR⟩ | ⟨k9, hc, hR⟩
  rotate_left
  · exact r_xS 11 [.int p1, .int (σ 14 0)] [] k9 (wB γ h σ ++ (wB γ g τ ++ (wS as9 (h 0) (g 0) an aq (ad 0) (ap 0) ++ (wN an (h 0) ν ++ (wR aq (h 0) ++ (wD γ ad δ ++ (wP γ ap π ++ (r)))))))) K (ct_X9_needNumber hl (z := .inr k9) hc.symm) cs_X9_49 ⟨rfl, rfl, rfl⟩ (dk_of tX9_clean 5 rfl) rfl rfl rfl ⟨zc hR, zs hR⟩ (r_out 11 K hQ (zc hR) (zs hR) (lxi (fun u9 : St × St => wB γ h u9.1 ++ (wB γ g τ ++ (wS as9 (h 0) (g 0) an aq (ad 0) (ap 0) ++ (wN an (h 0) ν ++ (wR aq (h 0) ++ (wD γ ad u9.2 ++ (wP γ ap π ++ (r)))))))) hR))
  refine r_cSv 11 [.int p1, .int (σ 14 0)] [] (wB γ h σ ++ (wB γ g τ ++ (wS as9 (h 0) (g 0) an aq (ad 0) (ap 0) ++ (wN an (h 0) ν ++ (wR aq (h 0) ++ (wD γ ad δ ++ (wP γ ap π ++ (r)))))))) K (ct_X9_needNumber hl (z := .inl ()) hc.symm) cs_X9_49 ⟨rfl, rfl, rfl⟩ (dk_of tX9_clean 5 rfl) rfl rfl rfl rfl ?_
  refine r_iload_n 14 2 K (dk_of tX9_clean 6 rfl) rfl rfl ?_
  refine r_bipush 15 (24 : Int32) K (dk_of tX9_clean 7 rfl) (by decide) ?_
  rcases ox hR with ⟨_, hc, hR⟩ | ⟨k9, hc, hR⟩
  rotate_left
  · exact r_xS 17 [.int p2, .int (24 : Int32)] [] k9 (wB γ h σ ++ (wB γ g τ ++ (wS as9 (h 0) (g 0) an aq (ad 0) (ap 0) ++ (wN an (h 0) ν ++ (wR aq (h 0) ++ (wD γ ad δ ++ (wP γ ap π ++ (r)))))))) K (ct_X9_needNumber hl (z := .inr k9) hc.symm) cs_X9_49 ⟨rfl, rfl, rfl⟩ (dk_of tX9_clean 8 rfl) rfl rfl rfl ⟨zc hR, zs hR⟩ (r_out 17 K hQ (zc hR) (zs hR) (lxi (fun u9 : St × St => wB γ h u9.1 ++ (wB γ g τ ++ (wS as9 (h 0) (g 0) an aq (ad 0) (ap 0) ++ (wN an (h 0) ν ++ (wR aq (h 0) ++ (wD γ ad u9.2 ++ (wP γ ap π ++ (r)))))))) hR))
  refine r_cSv 17 [.int p2, .int (24 : Int32)] [] (wB γ h σ ++ (wB γ g τ ++ (wS as9 (h 0) (g 0) an aq (ad 0) (ap 0) ++ (wN an (h 0) ν ++ (wR aq (h 0) ++ (wD γ ad δ ++ (wP γ ap π ++ (r)))))))) K (ct_X9_needNumber hl (z := .inl ()) hc.symm) cs_X9_49 ⟨rfl, rfl, rfl⟩ (dk_of tX9_clean 8 rfl) rfl rfl rfl rfl ?_
  refine r_aload_n 20 0 K (dk_of tX9_clean 9 rfl) rfl rfl ?_
  refine r_iload_n 21 1 K (dk_of tX9_clean 10 rfl) rfl rfl ?_
  refine r_iconst 22 (2 : Int32) K (dk_of tX9_clean 11 rfl) (by decide) ?_
  rcases ox hR with ⟨_, hc, hR⟩ | ⟨k9, hc, hR⟩
  rotate_left
  · exact r_xV 23 52 [.int p1, .int (2 : Int32)] [] k9 (wB γ h σ ++ (wB γ g τ ++ (wS as9 (h 0) (g 0) an aq (ad 0) (ap 0) ++ (wN an (h 0) ν ++ (wR aq (h 0) ++ (wD γ ad δ ++ (wP γ ap π ++ (r)))))))) K (ct_X9_needSort hl (z := .inr k9) hc.symm) cs_X9_186 ⟨rfl, rfl, rfl⟩ (dk_of tX9_clean 12 rfl) rfl rfl rfl rfl rfl ⟨zc hR, zs hR⟩ (r_out 23 K hQ (zc hR) (zs hR) (lxi (fun u9 : St × St => wB γ h u9.1 ++ (wB γ g τ ++ (wS as9 (h 0) (g 0) an aq (ad 0) (ap 0) ++ (wN an (h 0) ν ++ (wR aq (h 0) ++ (wD γ ad u9.2 ++ (wP γ ap π ++ (r)))))))) hR))
  refine r_cVv 23 52 [.int p1, .int (2 : Int32)] [] (wB γ h σ ++ (wB γ g τ ++ (wS as9 (h 0) (g 0) an aq (ad 0) (ap 0) ++ (wN an (h 0) ν ++ (wR aq (h 0) ++ (wD γ ad δ ++ (wP γ ap π ++ (r)))))))) K (ct_X9_needSort hl (z := .inl ()) hc.symm) cs_X9_186 ⟨rfl, rfl, rfl⟩ (dk_of tX9_clean 12 rfl) rfl rfl rfl rfl rfl rfl ?_
  refine r_aload_n 26 0 K (dk_of tX9_clean 13 rfl) rfl rfl ?_
  refine r_iload_n 27 2 K (dk_of tX9_clean 14 rfl) rfl rfl ?_
  rcases ox hR with ⟨_, hc, hR⟩ | ⟨k9, hc, hR⟩
  rotate_left
  · exact r_xV 28 52 [.int p2] [] k9 (wB γ h σ ++ (wB γ g τ ++ (wS as9 (h 0) (g 0) an aq (ad 0) (ap 0) ++ (wN an (h 0) ν ++ (wR aq (h 0) ++ (wD γ ad δ ++ (wP γ ap π ++ (r)))))))) K (ct_X9_needShore hl (z := .inr k9) hc.symm) cs_X9_198 ⟨rfl, rfl, rfl⟩ (dk_of tX9_clean 15 rfl) rfl rfl rfl rfl rfl ⟨zc hR, zs hR⟩ (r_out 28 K hQ (zc hR) (zs hR) (lxi (fun u9 : St × St => wB γ h u9.1 ++ (wB γ g τ ++ (wS as9 (h 0) (g 0) an aq (ad 0) (ap 0) ++ (wN an (h 0) ν ++ (wR aq (h 0) ++ (wD γ ad u9.2 ++ (wP γ ap π ++ (r)))))))) hR))
  refine r_cVv 28 52 [.int p2] [] (wB γ h σ ++ (wB γ g τ ++ (wS as9 (h 0) (g 0) an aq (ad 0) (ap 0) ++ (wN an (h 0) ν ++ (wR aq (h 0) ++ (wD γ ad δ ++ (wP γ ap π ++ (r)))))))) K (ct_X9_needShore hl (z := .inl ()) hc.symm) cs_X9_198 ⟨rfl, rfl, rfl⟩ (dk_of tX9_clean 15 rfl) rfl rfl rfl rfl rfl rfl ?_
  refine r_aload_n 31 0 K (dk_of tX9_clean 16 rfl) rfl rfl ?_
  refine r_getf (C := RX9) (T := TX9) (N := 6) 32 52 0 K (dk_of tX9_clean 17 rfl) w319 gwX9 rfl rfl (by decide) rfl ?_
  refine r_getf (C := RX0) (T := TX0) (N := 9) 35 0 2 K (dk_of tX9_clean 18 rfl) w208 gwX0 rfl rfl (by decide) rfl ?_
  refine r_iload_n 38 1 K (dk_of tX9_clean 19 rfl) rfl rfl ?_
  refine r_aload_n 39 0 K (dk_of tX9_clean 20 rfl) rfl rfl ?_
  refine r_getf (C := RX9) (T := TX9) (N := 6) 40 52 0 K (dk_of tX9_clean 21 rfl) w319 gwX9 rfl rfl (by decide) rfl ?_
  refine r_getf (C := RX0) (T := TX0) (N := 9) 43 0 4 K (dk_of tX9_clean 22 rfl) w212 gwX0 rfl rfl (by decide) rfl ?_
  obtain ⟨x1, hc, hR⟩ := o1 hR
  refine r_cVi 46 14 [.int p1, .int (σ 0 4)] [] x1 (wB γ h σ ++ (wB γ g τ ++ (wS as9 (h 0) (g 0) an aq (ad 0) (ap 0) ++ (wN an (h 0) ν ++ (wR aq (h 0) ++ (wD γ ad δ ++ (wP γ ap π ++ (r)))))))) K (ct_X4_canWork hl hc.symm) cs_X9_201 ⟨rfl, rfl, rfl⟩ (dk_of tX9_clean 23 rfl) rfl rfl rfl rfl rfl rfl ?_
  refine r_if_ne 49 62 K (dk_of tX9_clean 24 rfl) (by decide) hR (fun hR => ?_) (fun hR => ?_)
  · exact r_thr 52 11 K hQ rfl thr3 (dk_of tX9_clean 25 rfl) (dk_of tX9_clean 26 rfl) (dk_of tX9_clean 27 rfl) (dk_of tX9_clean 28 rfl) (dk_of tX9_clean 29 rfl) rfl (zc (Option.some.inj hR)) (zs (Option.some.inj hR)) (zc (Option.some.inj hR)) (zs (Option.some.inj hR)) (lxi (fun u9 : St × St => wB γ h u9.1 ++ (wB γ g τ ++ (wS as9 (h 0) (g 0) an aq (ad 0) (ap 0) ++ (wN an (h 0) ν ++ (wR aq (h 0) ++ (wD γ ad u9.2 ++ (wP γ ap π ++ (r)))))))) (Option.some.inj hR))
  · refine r_aload_n 62 0 K (dk_of tX9_clean 30 rfl) rfl rfl ?_
    refine r_getf (C := RX9) (T := TX9) (N := 6) 63 52 0 K (dk_of tX9_clean 31 rfl) w319 gwX9 rfl rfl (by decide) rfl ?_
    refine r_getf (C := RX0) (T := TX0) (N := 9) 66 0 2 K (dk_of tX9_clean 32 rfl) w208 gwX0 rfl rfl (by decide) rfl ?_
    refine r_iload_n 69 1 K (dk_of tX9_clean 33 rfl) rfl rfl ?_
    refine r_aload_n 70 0 K (dk_of tX9_clean 34 rfl) rfl rfl ?_
    refine r_getf (C := RX9) (T := TX9) (N := 6) 71 52 0 K (dk_of tX9_clean 35 rfl) w319 gwX9 rfl rfl (by decide) rfl ?_
    refine r_getf (C := RX0) (T := TX0) (N := 9) 74 0 4 K (dk_of tX9_clean 36 rfl) w212 gwX0 rfl rfl (by decide) rfl ?_
    obtain ⟨σ2, hc, hR⟩ := o1 hR
    refine r_cVv 77 14 [.int p1, .int (σ 0 4)] [] (wB γ h σ2 ++ (wB γ g τ ++ (wS as9 (h 0) (g 0) an aq (ad 0) (ap 0) ++ (wN an (h 0) ν ++ (wR aq (h 0) ++ (wD γ ad δ ++ (wP γ ap π ++ (r)))))))) K (ct_X4_noteWork hl hc.symm) cs_X9_207 ⟨rfl, rfl, rfl⟩ (dk_of tX9_clean 37 rfl) rfl rfl rfl rfl rfl rfl ?_
    refine r_bipush 80 (10 : Int32) K (dk_of tX9_clean 38 rfl) (by decide) ?_
    refine r_aload_n 82 0 K (dk_of tX9_clean 39 rfl) rfl rfl ?_
    refine r_getf (C := RX9) (T := TX9) (N := 6) 83 52 0 K (dk_of tX9_clean 40 rfl) w319 gwX9 rfl rfl (by decide) rfl ?_
    refine r_getf (C := RX0) (T := TX0) (N := 9) 86 0 2 K (dk_of tX9_clean 41 rfl) w208 gwX0 rfl rfl (by decide) rfl ?_
    refine r_getf (C := RX4) (T := TX4) (N := 9) 89 14 4 K (dk_of tX9_clean 42 rfl) w136 gwX4 rfl rfl (by decide) rfl ?_
    refine r_iload_n 92 1 K (dk_of tX9_clean 43 rfl) rfl rfl ?_
    refine r_ialdR 93 18 K (dk_of tX9_clean 44 rfl) rfl hR (fun hR => ?_)
    refine r_imul 94 K (dk_of tX9_clean 45 rfl) ?_
    refine r_aload_n 95 0 K (dk_of tX9_clean 46 rfl) rfl rfl ?_
    refine r_getf (C := RX9) (T := TX9) (N := 6) 96 52 0 K (dk_of tX9_clean 47 rfl) w319 gwX9 rfl rfl (by decide) rfl ?_
    refine r_getf (C := RX0) (T := TX0) (N := 9) 99 0 0 K (dk_of tX9_clean 48 rfl) w202 gwX0 rfl rfl (by decide) rfl ?_
    refine r_getf (C := RX2) (T := TX2) (N := 8) 102 1 4 K (dk_of tX9_clean 49 rfl) w61 gwX2 rfl rfl (by decide) rfl ?_
    refine r_iload_n 105 2 K (dk_of tX9_clean 50 rfl) rfl rfl ?_
    refine r_ialdR 106 6 K (dk_of tX9_clean 51 rfl) rfl hR (fun hR => ?_)
    refine r_min 107 K w831 w494 w19 w495 (dk_of tX9_clean 52 rfl) rfl ?_
    refine r_nmI hR (fun x3 hR => ?_)
    refine r_istore_n 110 3 [some (.ref as9), some (.int p1), some (.int p2), some (.int x3)] K (dk_of tX9_clean 53 rfl) rfl rfl rfl (by decide) ?_
    refine r_aload_n 111 0 K (dk_of tX9_clean 54 rfl) rfl rfl ?_
    refine r_getf (C := RX9) (T := TX9) (N := 6) 112 52 0 K (dk_of tX9_clean 55 rfl) w319 gwX9 rfl rfl (by decide) rfl ?_
    refine r_getf (C := RX0) (T := TX0) (N := 9) 115 0 0 K (dk_of tX9_clean 56 rfl) w202 gwX0 rfl rfl (by decide) rfl ?_
    refine r_getf (C := RX2) (T := TX2) (N := 8) 118 1 4 K (dk_of tX9_clean 57 rfl) w61 gwX2 rfl rfl (by decide) rfl ?_
    refine r_iload_n 121 2 K (dk_of tX9_clean 58 rfl) rfl rfl ?_
    refine r_dup2 122 K (dk_of tX9_clean 59 rfl) rfl rfl ?_
    refine r_ialdR 123 6 K (dk_of tX9_clean 60 rfl) rfl hR (fun hR => ?_)
    refine r_iload_n 124 3 K (dk_of tX9_clean 61 rfl) rfl rfl ?_
    refine r_isub 125 K (dk_of tX9_clean 62 rfl) ?_
    refine r_iastR 126 6 K (dk_of tX9_clean 63 rfl) rfl sB_6 hR (fun hR => ?_)
    refine r_nmS (fun σ4 : St => wB γ h σ4 ++ (wB γ g τ ++ (wS as9 (h 0) (g 0) an aq (ad 0) (ap 0) ++ (wN an (h 0) ν ++ (wR aq (h 0) ++ (wD γ ad δ ++ (wP γ ap π ++ (r)))))))) hR (fun σ4 hR => ?_)
    refine r_aload_n 127 0 K (dk_of tX9_clean 64 rfl) rfl rfl ?_
    refine r_getf (C := RX9) (T := TX9) (N := 6) 128 52 4 K (dk_of tX9_clean 65 rfl) w323 gwX9 rfl rfl (by decide) rfl ?_
    refine r_getf (C := RX3) (T := TX3) (N := 4) 131 55 1 K (dk_of tX9_clean 66 rfl) w282 gwX3 rfl rfl (by decide) rfl ?_
    refine r_iconst 134 (1 : Int32) K (dk_of tX9_clean 67 rfl) (by decide) ?_
    refine r_dup2 135 K (dk_of tX9_clean 68 rfl) rfl rfl ?_
    refine r_iald 136 56 K (dk_of tX9_clean 69 rfl) rfl (vpd (by decide)) ?_
    refine r_iload_n 137 3 K (dk_of tX9_clean 70 rfl) rfl rfl ?_
    refine r_iadd 138 K (dk_of tX9_clean 71 rfl) ?_
    refine r_iast 139 56 K (dk_of tX9_clean 72 rfl) rfl (vpd (by decide)) sD_1_btsnqd ?_
    refine r_nmS (fun δ5 : St => wB γ h σ4 ++ (wB γ g τ ++ (wS as9 (h 0) (g 0) an aq (ad 0) (ap 0) ++ (wN an (h 0) ν ++ (wR aq (h 0) ++ (wD γ ad δ5 ++ (wP γ ap π ++ (r)))))))) hR (fun δ5 hR => ?_)
    refine r_iload_n 140 3 K (dk_of tX9_clean 73 rfl) rfl rfl ?_
    exact r_iret 141 K hQ (dk_of tX9_clean 74 rfl) (Nat.zero_le _) (Nat.zero_le _) (lzi (fun u9 : St × St => wB γ h u9.1 ++ (wB γ g τ ++ (wS as9 (h 0) (g 0) an aq (ad 0) (ap 0) ++ (wN an (h 0) ν ++ (wR aq (h 0) ++ (wD γ ad u9.2 ++ (wP γ ap π ++ (r)))))))) _ hR)

def sp_X9_carry (p1 : Int32) (σ : St) (δ : St) : Option ((Int32 × St × St) ⊕ Nat) := bx (sp_X9_needNumber p1 (σ 14 0)) (fun _ => bx (sp_X9_needSort p1 (1 : Int32) σ) (fun _ => if p1 < 0 ∨ 20 ≤ p1.toNatClampNeg then none else (sl ((σ 20 p1.toNatClampNeg)) (fun x1 : Int32 => if p1 < 0 ∨ 20 ≤ p1.toNatClampNeg then none else (sl (stU σ 20 p1.toNatClampNeg (0 : Int32)) (fun σ2 : St => sl (stU δ 1 (0 : Int32).toNatClampNeg ((δ 1 (0 : Int32).toNatClampNeg) + x1)) (fun δ3 : St => some (.inl (x1, σ2, δ3)))))))))
set_option maxHeartbeats 4000000 in
set_option maxRecDepth 100000 in
theorem ct_X9_carry {l : Launch} (hl : l.stackTraces = false) {γ : Gd} {h : Nat → Nat} {g : Nat → Nat} {as9 : Nat} {an : Nat} {aq : Nat} {ad : Nat → Nat} {ap : Nat → Nat} {σ : St} {τ : St} {ν : (Nat → Int32)} {δ : St} {π : (St × Int64)} {r : va_W} {p1 : Int32} {z : (Int32 × St × St) ⊕ Nat} (hR : some z = sp_X9_carry p1 σ δ) : Ct l γ yX9_carry (Cond.code yX9_carry cX9_carry 3 (some .int)) ({ frames := 7, cells := mcz z, slots := msz z, locals := 104 } : Room) [.ref as9, .int p1] (wB γ h σ ++ (wB γ g τ ++ (wS as9 (h 0) (g 0) an aq (ad 0) (ap 0) ++ (wN an (h 0) ν ++ (wR aq (h 0) ++ (wD γ ad δ ++ (wP γ ap π ++ (r)))))))) (Pzi (fun u9 : St × St => wB γ h u9.1 ++ (wB γ g τ ++ (wS as9 (h 0) (g 0) an aq (ad 0) (ap 0) ++ (wN an (h 0) ν ++ (wR aq (h 0) ++ (wD γ ad u9.2 ++ (wP γ ap π ++ (r)))))))) (wB γ h σ ++ (wB γ g τ ++ (wS as9 (h 0) (g 0) an aq (ad 0) (ap 0) ++ (wN an (h 0) ν ++ (wR aq (h 0) ++ (wD γ ad δ ++ (wP γ ap π ++ (r)))))))) z) (mcz z) (msz z) := by
  refine Ct_of hl (by decide +kernel) rfl (Nat.le_of_ble_eq_true rfl) (L := [some (.ref as9), some (.int p1), none]) rfl ?_
  intro X Q K hQ
  generalize ((wB γ h σ ++ (wB γ g τ ++ (wS as9 (h 0) (g 0) an aq (ad 0) (ap 0) ++ (wN an (h 0) ν ++ (wR aq (h 0) ++ (wD γ ad δ ++ (wP γ ap π ++ (r))))))), Q) : MX) = M at K hQ ⊢
  unfold sp_X9_carry at hR
  refine r_iload_n 0 1 K (dk_of tX9_carry 0 rfl) rfl rfl ?_
  refine r_aload_n 1 0 K (dk_of tX9_carry 1 rfl) rfl rfl ?_
  refine r_getf (C := RX9) (T := TX9) (N := 6) 2 52 0 K (dk_of tX9_carry 2 rfl) w319 gwX9 rfl rfl (by decide) rfl ?_
  refine r_getf (C := RX0) (T := TX0) (N := 9) 5 0 2 K (dk_of tX9_carry 3 rfl) w208 gwX0 rfl rfl (by decide) rfl ?_
  refine r_getf (C := RX4) (T := TX4) (N := 9) 8 14 0 K (dk_of tX9_carry 4 rfl) w124 gwX4 rfl rfl (by decide) rfl ?_
  rcases ox hR with ⟨_, hc, hR⟩ | ⟨k9, hc, hR⟩
  rotate_left
  · exact r_xS 11 [.int p1, .int (σ 14 0)] [] k9 (wB γ h σ ++ (wB γ g τ ++ (wS as9 (h 0) (g 0) an aq (ad 0) (ap 0) ++ (wN an (h 0) ν ++ (wR aq (h 0) ++ (wD γ ad δ ++ (wP γ ap π ++ (r)))))))) K (ct_X9_needNumber hl (z := .inr k9) hc.symm) cs_X9_49 ⟨rfl, rfl, rfl⟩ (dk_of tX9_carry 5 rfl) rfl rfl rfl ⟨zc hR, zs hR⟩ (r_out 11 K hQ (zc hR) (zs hR) (lxi (fun u9 : St × St => wB γ h u9.1 ++ (wB γ g τ ++ (wS as9 (h 0) (g 0) an aq (ad 0) (ap 0) ++ (wN an (h 0) ν ++ (wR aq (h 0) ++ (wD γ ad u9.2 ++ (wP γ ap π ++ (r)))))))) hR))
  refine r_cSv 11 [.int p1, .int (σ 14 0)] [] (wB γ h σ ++ (wB γ g τ ++ (wS as9 (h 0) (g 0) an aq (ad 0) (ap 0) ++ (wN an (h 0) ν ++ (wR aq (h 0) ++ (wD γ ad δ ++ (wP γ ap π ++ (r)))))))) K (ct_X9_needNumber hl (z := .inl ()) hc.symm) cs_X9_49 ⟨rfl, rfl, rfl⟩ (dk_of tX9_carry 5 rfl) rfl rfl rfl rfl ?_
  refine r_aload_n 14 0 K (dk_of tX9_carry 6 rfl) rfl rfl ?_
  refine r_iload_n 15 1 K (dk_of tX9_carry 7 rfl) rfl rfl ?_
  refine r_iconst 16 (1 : Int32) K (dk_of tX9_carry 8 rfl) (by decide) ?_
  rcases ox hR with ⟨_, hc, hR⟩ | ⟨k9, hc, hR⟩
  rotate_left
  · exact r_xV 17 52 [.int p1, .int (1 : Int32)] [] k9 (wB γ h σ ++ (wB γ g τ ++ (wS as9 (h 0) (g 0) an aq (ad 0) (ap 0) ++ (wN an (h 0) ν ++ (wR aq (h 0) ++ (wD γ ad δ ++ (wP γ ap π ++ (r)))))))) K (ct_X9_needSort hl (z := .inr k9) hc.symm) cs_X9_186 ⟨rfl, rfl, rfl⟩ (dk_of tX9_carry 9 rfl) rfl rfl rfl rfl rfl ⟨zc hR, zs hR⟩ (r_out 17 K hQ (zc hR) (zs hR) (lxi (fun u9 : St × St => wB γ h u9.1 ++ (wB γ g τ ++ (wS as9 (h 0) (g 0) an aq (ad 0) (ap 0) ++ (wN an (h 0) ν ++ (wR aq (h 0) ++ (wD γ ad u9.2 ++ (wP γ ap π ++ (r)))))))) hR))
  refine r_cVv 17 52 [.int p1, .int (1 : Int32)] [] (wB γ h σ ++ (wB γ g τ ++ (wS as9 (h 0) (g 0) an aq (ad 0) (ap 0) ++ (wN an (h 0) ν ++ (wR aq (h 0) ++ (wD γ ad δ ++ (wP γ ap π ++ (r)))))))) K (ct_X9_needSort hl (z := .inl ()) hc.symm) cs_X9_186 ⟨rfl, rfl, rfl⟩ (dk_of tX9_carry 9 rfl) rfl rfl rfl rfl rfl rfl ?_
  refine r_aload_n 20 0 K (dk_of tX9_carry 10 rfl) rfl rfl ?_
  refine r_getf (C := RX9) (T := TX9) (N := 6) 21 52 0 K (dk_of tX9_carry 11 rfl) w319 gwX9 rfl rfl (by decide) rfl ?_
  refine r_getf (C := RX0) (T := TX0) (N := 9) 24 0 2 K (dk_of tX9_carry 12 rfl) w208 gwX0 rfl rfl (by decide) rfl ?_
  refine r_getf (C := RX4) (T := TX4) (N := 9) 27 14 6 K (dk_of tX9_carry 13 rfl) w141 gwX4 rfl rfl (by decide) rfl ?_
  refine r_iload_n 30 1 K (dk_of tX9_carry 14 rfl) rfl rfl ?_
  refine r_ialdR 31 20 K (dk_of tX9_carry 15 rfl) rfl hR (fun hR => ?_)
  refine r_nmI hR (fun x1 hR => ?_)
  refine r_istore_n 32 2 [some (.ref as9), some (.int p1), some (.int x1)] K (dk_of tX9_carry 16 rfl) rfl rfl rfl (by decide) ?_
  refine r_aload_n 33 0 K (dk_of tX9_carry 17 rfl) rfl rfl ?_
  refine r_getf (C := RX9) (T := TX9) (N := 6) 34 52 0 K (dk_of tX9_carry 18 rfl) w319 gwX9 rfl rfl (by decide) rfl ?_
  refine r_getf (C := RX0) (T := TX0) (N := 9) 37 0 2 K (dk_of tX9_carry 19 rfl) w208 gwX0 rfl rfl (by decide) rfl ?_
  refine r_getf (C := RX4) (T := TX4) (N := 9) 40 14 6 K (dk_of tX9_carry 20 rfl) w141 gwX4 rfl rfl (by decide) rfl ?_
  refine r_iload_n 43 1 K (dk_of tX9_carry 21 rfl) rfl rfl ?_
  refine r_iconst 44 (0 : Int32) K (dk_of tX9_carry 22 rfl) (by decide) ?_
  refine r_iastR 45 20 K (dk_of tX9_carry 23 rfl) rfl sB_20 hR (fun hR => ?_)
  refine r_nmS (fun σ2 : St => wB γ h σ2 ++ (wB γ g τ ++ (wS as9 (h 0) (g 0) an aq (ad 0) (ap 0) ++ (wN an (h 0) ν ++ (wR aq (h 0) ++ (wD γ ad δ ++ (wP γ ap π ++ (r)))))))) hR (fun σ2 hR => ?_)
  refine r_aload_n 46 0 K (dk_of tX9_carry 24 rfl) rfl rfl ?_
  refine r_getf (C := RX9) (T := TX9) (N := 6) 47 52 4 K (dk_of tX9_carry 25 rfl) w323 gwX9 rfl rfl (by decide) rfl ?_
  refine r_getf (C := RX3) (T := TX3) (N := 4) 50 55 1 K (dk_of tX9_carry 26 rfl) w282 gwX3 rfl rfl (by decide) rfl ?_
  refine r_iconst 53 (0 : Int32) K (dk_of tX9_carry 27 rfl) (by decide) ?_
  refine r_dup2 54 K (dk_of tX9_carry 28 rfl) rfl rfl ?_
  refine r_iald 55 56 K (dk_of tX9_carry 29 rfl) rfl (vpd (by decide)) ?_
  refine r_iload_n 56 2 K (dk_of tX9_carry 30 rfl) rfl rfl ?_
  refine r_iadd 57 K (dk_of tX9_carry 31 rfl) ?_
  refine r_iast 58 56 K (dk_of tX9_carry 32 rfl) rfl (vpd (by decide)) sD_1_btsnqd ?_
  refine r_nmS (fun δ3 : St => wB γ h σ2 ++ (wB γ g τ ++ (wS as9 (h 0) (g 0) an aq (ad 0) (ap 0) ++ (wN an (h 0) ν ++ (wR aq (h 0) ++ (wD γ ad δ3 ++ (wP γ ap π ++ (r)))))))) hR (fun δ3 hR => ?_)
  refine r_iload_n 59 2 K (dk_of tX9_carry 33 rfl) rfl rfl ?_
  exact r_iret 60 K hQ (dk_of tX9_carry 34 rfl) (Nat.zero_le _) (Nat.zero_le _) (lzi (fun u9 : St × St => wB γ h u9.1 ++ (wB γ g τ ++ (wS as9 (h 0) (g 0) an aq (ad 0) (ap 0) ++ (wN an (h 0) ν ++ (wR aq (h 0) ++ (wD γ ad u9.2 ++ (wP γ ap π ++ (r)))))))) _ hR)

def sp_X9_move (p1 : Int32) (p2 : Int32) (σ : St) : Option ((Int32 × St) ⊕ Nat) := bx (sp_X9_needNumber p1 (σ 14 0)) (fun _ => bx (sp_X9_needNumber p2 (24 : Int32)) (fun _ => bx (sp_X9_needSort p1 (1 : Int32) σ) (fun _ => bx (sp_X9_needWater p2 σ) (fun _ => if p1 < 0 ∨ 20 ≤ p1.toNatClampNeg then none else (sl ((σ 16 p1.toNatClampNeg)) (fun x1 : Int32 => if p1 < 0 ∨ 20 ≤ p1.toNatClampNeg then none else (sl (stU σ 16 p1.toNatClampNeg p2) (fun σ2 : St => some (.inl (x1, σ2))))))))))
set_option maxHeartbeats 4000000 in
set_option maxRecDepth 100000 in
theorem ct_X9_move {l : Launch} (hl : l.stackTraces = false) {γ : Gd} {h : Nat → Nat} {g : Nat → Nat} {as9 : Nat} {an : Nat} {aq : Nat} {ad : Nat → Nat} {ap : Nat → Nat} {σ : St} {τ : St} {ν : (Nat → Int32)} {δ : St} {π : (St × Int64)} {r : va_W} {p1 : Int32} {p2 : Int32} {z : (Int32 × St) ⊕ Nat} (hR : some z = sp_X9_move p1 p2 σ) : Ct l γ yX9_move (Cond.code yX9_move cX9_move 4 (some .int)) ({ frames := 7, cells := mcz z, slots := msz z, locals := 104 } : Room) [.ref as9, .int p1, .int p2] (wB γ h σ ++ (wB γ g τ ++ (wS as9 (h 0) (g 0) an aq (ad 0) (ap 0) ++ (wN an (h 0) ν ++ (wR aq (h 0) ++ (wD γ ad δ ++ (wP γ ap π ++ (r)))))))) (Pzi (fun u9 : St => wB γ h u9 ++ (wB γ g τ ++ (wS as9 (h 0) (g 0) an aq (ad 0) (ap 0) ++ (wN an (h 0) ν ++ (wR aq (h 0) ++ (wD γ ad δ ++ (wP γ ap π ++ (r)))))))) (wB γ h σ ++ (wB γ g τ ++ (wS as9 (h 0) (g 0) an aq (ad 0) (ap 0) ++ (wN an (h 0) ν ++ (wR aq (h 0) ++ (wD γ ad δ ++ (wP γ ap π ++ (r)))))))) z) (mcz z) (msz z) := by
  refine Ct_of hl (by decide +kernel) rfl (Nat.le_of_ble_eq_true rfl) (L := [some (.ref as9), some (.int p1), some (.int p2), none]) rfl ?_
  intro X Q K hQ
  generalize ((wB γ h σ ++ (wB γ g τ ++ (wS as9 (h 0) (g 0) an aq (ad 0) (ap 0) ++ (wN an (h 0) ν ++ (wR aq (h 0) ++ (wD γ ad δ ++ (wP γ ap π ++ (r))))))), Q) : MX) = M at K hQ ⊢
  unfold sp_X9_move at hR
  refine r_iload_n 0 1 K (dk_of tX9_move 0 rfl) rfl rfl ?_
  refine r_aload_n 1 0 K (dk_of tX9_move 1 rfl) rfl rfl ?_
  refine r_getf (C := RX9) (T := TX9) (N := 6) 2 52 0 K (dk_of tX9_move 2 rfl) w319 gwX9 rfl rfl (by decide) rfl ?_
  refine r_getf (C := RX0) (T := TX0) (N := 9) 5 0 2 K (dk_of tX9_move 3 rfl) w208 gwX0 rfl rfl (by decide) rfl ?_
  refine r_getf (C := RX4) (T := TX4) (N := 9) 8 14 0 K (dk_of tX9_move 4 rfl) w124 gwX4 rfl rfl (by decide) rfl ?_
  rcases ox hR with ⟨_, hc, hR⟩ | ⟨k9, hc, hR⟩
  rotate_left
  · exact r_xS 11 [.int p1, .int (σ 14 0)] [] k9 (wB γ h σ ++ (wB γ g τ ++ (wS as9 (h 0) (g 0) an aq (ad 0) (ap 0) ++ (wN an (h 0) ν ++ (wR aq (h 0) ++ (wD γ ad δ ++ (wP γ ap π ++ (r)))))))) K (ct_X9_needNumber hl (z := .inr k9) hc.symm) cs_X9_49 ⟨rfl, rfl, rfl⟩ (dk_of tX9_move 5 rfl) rfl rfl rfl ⟨zc hR, zs hR⟩ (r_out 11 K hQ (zc hR) (zs hR) (lxi (fun u9 : St => wB γ h u9 ++ (wB γ g τ ++ (wS as9 (h 0) (g 0) an aq (ad 0) (ap 0) ++ (wN an (h 0) ν ++ (wR aq (h 0) ++ (wD γ ad δ ++ (wP γ ap π ++ (r)))))))) hR))
  refine r_cSv 11 [.int p1, .int (σ 14 0)] [] (wB γ h σ ++ (wB γ g τ ++ (wS as9 (h 0) (g 0) an aq (ad 0) (ap 0) ++ (wN an (h 0) ν ++ (wR aq (h 0) ++ (wD γ ad δ ++ (wP γ ap π ++ (r)))))))) K (ct_X9_needNumber hl (z := .inl ()) hc.symm) cs_X9_49 ⟨rfl, rfl, rfl⟩ (dk_of tX9_move 5 rfl) rfl rfl rfl rfl ?_
  refine r_iload_n 14 2 K (dk_of tX9_move 6 rfl) rfl rfl ?_
  refine r_bipush 15 (24 : Int32) K (dk_of tX9_move 7 rfl) (by decide) ?_
  rcases ox hR with ⟨_, hc, hR⟩ | ⟨k9, hc, hR⟩
  rotate_left
  · exact r_xS 17 [.int p2, .int (24 : Int32)] [] k9 (wB γ h σ ++ (wB γ g τ ++ (wS as9 (h 0) (g 0) an aq (ad 0) (ap 0) ++ (wN an (h 0) ν ++ (wR aq (h 0) ++ (wD γ ad δ ++ (wP γ ap π ++ (r)))))))) K (ct_X9_needNumber hl (z := .inr k9) hc.symm) cs_X9_49 ⟨rfl, rfl, rfl⟩ (dk_of tX9_move 8 rfl) rfl rfl rfl ⟨zc hR, zs hR⟩ (r_out 17 K hQ (zc hR) (zs hR) (lxi (fun u9 : St => wB γ h u9 ++ (wB γ g τ ++ (wS as9 (h 0) (g 0) an aq (ad 0) (ap 0) ++ (wN an (h 0) ν ++ (wR aq (h 0) ++ (wD γ ad δ ++ (wP γ ap π ++ (r)))))))) hR))
  refine r_cSv 17 [.int p2, .int (24 : Int32)] [] (wB γ h σ ++ (wB γ g τ ++ (wS as9 (h 0) (g 0) an aq (ad 0) (ap 0) ++ (wN an (h 0) ν ++ (wR aq (h 0) ++ (wD γ ad δ ++ (wP γ ap π ++ (r)))))))) K (ct_X9_needNumber hl (z := .inl ()) hc.symm) cs_X9_49 ⟨rfl, rfl, rfl⟩ (dk_of tX9_move 8 rfl) rfl rfl rfl rfl ?_
  refine r_aload_n 20 0 K (dk_of tX9_move 9 rfl) rfl rfl ?_
  refine r_iload_n 21 1 K (dk_of tX9_move 10 rfl) rfl rfl ?_
  refine r_iconst 22 (1 : Int32) K (dk_of tX9_move 11 rfl) (by decide) ?_
  rcases ox hR with ⟨_, hc, hR⟩ | ⟨k9, hc, hR⟩
  rotate_left
  · exact r_xV 23 52 [.int p1, .int (1 : Int32)] [] k9 (wB γ h σ ++ (wB γ g τ ++ (wS as9 (h 0) (g 0) an aq (ad 0) (ap 0) ++ (wN an (h 0) ν ++ (wR aq (h 0) ++ (wD γ ad δ ++ (wP γ ap π ++ (r)))))))) K (ct_X9_needSort hl (z := .inr k9) hc.symm) cs_X9_186 ⟨rfl, rfl, rfl⟩ (dk_of tX9_move 12 rfl) rfl rfl rfl rfl rfl ⟨zc hR, zs hR⟩ (r_out 23 K hQ (zc hR) (zs hR) (lxi (fun u9 : St => wB γ h u9 ++ (wB γ g τ ++ (wS as9 (h 0) (g 0) an aq (ad 0) (ap 0) ++ (wN an (h 0) ν ++ (wR aq (h 0) ++ (wD γ ad δ ++ (wP γ ap π ++ (r)))))))) hR))
  refine r_cVv 23 52 [.int p1, .int (1 : Int32)] [] (wB γ h σ ++ (wB γ g τ ++ (wS as9 (h 0) (g 0) an aq (ad 0) (ap 0) ++ (wN an (h 0) ν ++ (wR aq (h 0) ++ (wD γ ad δ ++ (wP γ ap π ++ (r)))))))) K (ct_X9_needSort hl (z := .inl ()) hc.symm) cs_X9_186 ⟨rfl, rfl, rfl⟩ (dk_of tX9_move 12 rfl) rfl rfl rfl rfl rfl rfl ?_
  refine r_aload_n 26 0 K (dk_of tX9_move 13 rfl) rfl rfl ?_
  refine r_iload_n 27 2 K (dk_of tX9_move 14 rfl) rfl rfl ?_
  rcases ox hR with ⟨_, hc, hR⟩ | ⟨k9, hc, hR⟩
  rotate_left
  · exact r_xV 28 52 [.int p2] [] k9 (wB γ h σ ++ (wB γ g τ ++ (wS as9 (h 0) (g 0) an aq (ad 0) (ap 0) ++ (wN an (h 0) ν ++ (wR aq (h 0) ++ (wD γ ad δ ++ (wP γ ap π ++ (r)))))))) K (ct_X9_needWater hl (z := .inr k9) hc.symm) cs_X9_102 ⟨rfl, rfl, rfl⟩ (dk_of tX9_move 15 rfl) rfl rfl rfl rfl rfl ⟨zc hR, zs hR⟩ (r_out 28 K hQ (zc hR) (zs hR) (lxi (fun u9 : St => wB γ h u9 ++ (wB γ g τ ++ (wS as9 (h 0) (g 0) an aq (ad 0) (ap 0) ++ (wN an (h 0) ν ++ (wR aq (h 0) ++ (wD γ ad δ ++ (wP γ ap π ++ (r)))))))) hR))
  refine r_cVv 28 52 [.int p2] [] (wB γ h σ ++ (wB γ g τ ++ (wS as9 (h 0) (g 0) an aq (ad 0) (ap 0) ++ (wN an (h 0) ν ++ (wR aq (h 0) ++ (wD γ ad δ ++ (wP γ ap π ++ (r)))))))) K (ct_X9_needWater hl (z := .inl ()) hc.symm) cs_X9_102 ⟨rfl, rfl, rfl⟩ (dk_of tX9_move 15 rfl) rfl rfl rfl rfl rfl rfl ?_
  refine r_aload_n 31 0 K (dk_of tX9_move 16 rfl) rfl rfl ?_
  refine r_getf (C := RX9) (T := TX9) (N := 6) 32 52 0 K (dk_of tX9_move 17 rfl) w319 gwX9 rfl rfl (by decide) rfl ?_
  refine r_getf (C := RX0) (T := TX0) (N := 9) 35 0 2 K (dk_of tX9_move 18 rfl) w208 gwX0 rfl rfl (by decide) rfl ?_
  refine r_getf (C := RX4) (T := TX4) (N := 9) 38 14 2 K (dk_of tX9_move 19 rfl) w130 gwX4 rfl rfl (by decide) rfl ?_
  refine r_iload_n 41 1 K (dk_of tX9_move 20 rfl) rfl rfl ?_
  refine r_ialdR 42 16 K (dk_of tX9_move 21 rfl) rfl hR (fun hR => ?_)
  refine r_nmI hR (fun x1 hR => ?_)
  refine r_istore_n 43 3 [some (.ref as9), some (.int p1), some (.int p2), some (.int x1)] K (dk_of tX9_move 22 rfl) rfl rfl rfl (by decide) ?_
  refine r_aload_n 44 0 K (dk_of tX9_move 23 rfl) rfl rfl ?_
  refine r_getf (C := RX9) (T := TX9) (N := 6) 45 52 0 K (dk_of tX9_move 24 rfl) w319 gwX9 rfl rfl (by decide) rfl ?_
  refine r_getf (C := RX0) (T := TX0) (N := 9) 48 0 2 K (dk_of tX9_move 25 rfl) w208 gwX0 rfl rfl (by decide) rfl ?_
  refine r_getf (C := RX4) (T := TX4) (N := 9) 51 14 2 K (dk_of tX9_move 26 rfl) w130 gwX4 rfl rfl (by decide) rfl ?_
  refine r_iload_n 54 1 K (dk_of tX9_move 27 rfl) rfl rfl ?_
  refine r_iload_n 55 2 K (dk_of tX9_move 28 rfl) rfl rfl ?_
  refine r_iastR 56 16 K (dk_of tX9_move 29 rfl) rfl sB_16 hR (fun hR => ?_)
  refine r_nmS (fun σ2 : St => wB γ h σ2 ++ (wB γ g τ ++ (wS as9 (h 0) (g 0) an aq (ad 0) (ap 0) ++ (wN an (h 0) ν ++ (wR aq (h 0) ++ (wD γ ad δ ++ (wP γ ap π ++ (r)))))))) hR (fun σ2 hR => ?_)
  refine r_iload_n 57 3 K (dk_of tX9_move 30 rfl) rfl rfl ?_
  exact r_iret 58 K hQ (dk_of tX9_move 31 rfl) (Nat.zero_le _) (Nat.zero_le _) (lzi (fun u9 : St => wB γ h u9 ++ (wB γ g τ ++ (wS as9 (h 0) (g 0) an aq (ad 0) (ap 0) ++ (wN an (h 0) ν ++ (wR aq (h 0) ++ (wD γ ad δ ++ (wP γ ap π ++ (r)))))))) _ hR)

def sp_X9_use (p1 : Int32) (p2 : Int32) (σ : St) : Option ((Int32 × St) ⊕ Nat) := bx (sp_X9_needNumber p1 (24 : Int32)) (fun _ => bx (sp_X9_needRange p2 (0 : Int32) (1 : Int32)) (fun _ => bx (sp_X9_needWater p1 σ) (fun _ => b1 (sp_X7_howMany p1 p2 σ) (fun (x1 : Int32) => if x1 ≤ 0 then (if p2 = 0 then (b2 (sp_X0_disperse p1 σ) (fun (x2 : Int32) (σ3 : St) => some (.inl (x2, σ3)))) else (b2 (sp_X0_burn p1 σ) (fun (x4 : Int32) (σ5 : St) => some (.inl (x4, σ5))))) else (some (.inr 3))))))
set_option maxHeartbeats 4000000 in
set_option maxRecDepth 100000 in
theorem ct_X9_use {l : Launch} (hl : l.stackTraces = false) {γ : Gd} {h : Nat → Nat} {g : Nat → Nat} {as9 : Nat} {an : Nat} {aq : Nat} {ad : Nat → Nat} {ap : Nat → Nat} {σ : St} {τ : St} {ν : (Nat → Int32)} {δ : St} {π : (St × Int64)} {r : va_W} {p1 : Int32} {p2 : Int32} {z : (Int32 × St) ⊕ Nat} (hR : some z = sp_X9_use p1 p2 σ) : Ct l γ yX9_use (Cond.code yX9_use cX9_use 3 (some .int)) ({ frames := 7, cells := mcz z, slots := msz z, locals := 104 } : Room) [.ref as9, .int p1, .int p2] (wB γ h σ ++ (wB γ g τ ++ (wS as9 (h 0) (g 0) an aq (ad 0) (ap 0) ++ (wN an (h 0) ν ++ (wR aq (h 0) ++ (wD γ ad δ ++ (wP γ ap π ++ (r)))))))) (Pzi (fun u9 : St => wB γ h u9 ++ (wB γ g τ ++ (wS as9 (h 0) (g 0) an aq (ad 0) (ap 0) ++ (wN an (h 0) ν ++ (wR aq (h 0) ++ (wD γ ad δ ++ (wP γ ap π ++ (r)))))))) (wB γ h σ ++ (wB γ g τ ++ (wS as9 (h 0) (g 0) an aq (ad 0) (ap 0) ++ (wN an (h 0) ν ++ (wR aq (h 0) ++ (wD γ ad δ ++ (wP γ ap π ++ (r)))))))) z) (mcz z) (msz z) := by
  refine Ct_of hl (by decide +kernel) rfl (Nat.le_of_ble_eq_true rfl) (L := [some (.ref as9), some (.int p1), some (.int p2)]) rfl ?_
  intro X Q K hQ
  generalize ((wB γ h σ ++ (wB γ g τ ++ (wS as9 (h 0) (g 0) an aq (ad 0) (ap 0) ++ (wN an (h 0) ν ++ (wR aq (h 0) ++ (wD γ ad δ ++ (wP γ ap π ++ (r))))))), Q) : MX) = M at K hQ ⊢
  unfold sp_X9_use at hR
  refine r_iload_n 0 1 K (dk_of tX9_use 0 rfl) rfl rfl ?_
  refine r_bipush 1 (24 : Int32) K (dk_of tX9_use 1 rfl) (by decide) ?_
  rcases ox hR with ⟨_, hc, hR⟩ | ⟨k9, hc, hR⟩
  rotate_left
  · exact r_xS 3 [.int p1, .int (24 : Int32)] [] k9 (wB γ h σ ++ (wB γ g τ ++ (wS as9 (h 0) (g 0) an aq (ad 0) (ap 0) ++ (wN an (h 0) ν ++ (wR aq (h 0) ++ (wD γ ad δ ++ (wP γ ap π ++ (r)))))))) K (ct_X9_needNumber hl (z := .inr k9) hc.symm) cs_X9_49 ⟨rfl, rfl, rfl⟩ (dk_of tX9_use 2 rfl) rfl rfl rfl ⟨zc hR, zs hR⟩ (r_out 3 K hQ (zc hR) (zs hR) (lxi (fun u9 : St => wB γ h u9 ++ (wB γ g τ ++ (wS as9 (h 0) (g 0) an aq (ad 0) (ap 0) ++ (wN an (h 0) ν ++ (wR aq (h 0) ++ (wD γ ad δ ++ (wP γ ap π ++ (r)))))))) hR))
  refine r_cSv 3 [.int p1, .int (24 : Int32)] [] (wB γ h σ ++ (wB γ g τ ++ (wS as9 (h 0) (g 0) an aq (ad 0) (ap 0) ++ (wN an (h 0) ν ++ (wR aq (h 0) ++ (wD γ ad δ ++ (wP γ ap π ++ (r)))))))) K (ct_X9_needNumber hl (z := .inl ()) hc.symm) cs_X9_49 ⟨rfl, rfl, rfl⟩ (dk_of tX9_use 2 rfl) rfl rfl rfl rfl ?_
  refine r_iload_n 6 2 K (dk_of tX9_use 3 rfl) rfl rfl ?_
  refine r_iconst 7 (0 : Int32) K (dk_of tX9_use 4 rfl) (by decide) ?_
  refine r_iconst 8 (1 : Int32) K (dk_of tX9_use 5 rfl) (by decide) ?_
  rcases ox hR with ⟨_, hc, hR⟩ | ⟨k9, hc, hR⟩
  rotate_left
  · exact r_xS 9 [.int p2, .int (0 : Int32), .int (1 : Int32)] [] k9 (wB γ h σ ++ (wB γ g τ ++ (wS as9 (h 0) (g 0) an aq (ad 0) (ap 0) ++ (wN an (h 0) ν ++ (wR aq (h 0) ++ (wD γ ad δ ++ (wP γ ap π ++ (r)))))))) K (ct_X9_needRange hl (z := .inr k9) hc.symm) cs_X9_53 ⟨rfl, rfl, rfl⟩ (dk_of tX9_use 6 rfl) rfl rfl rfl ⟨zc hR, zs hR⟩ (r_out 9 K hQ (zc hR) (zs hR) (lxi (fun u9 : St => wB γ h u9 ++ (wB γ g τ ++ (wS as9 (h 0) (g 0) an aq (ad 0) (ap 0) ++ (wN an (h 0) ν ++ (wR aq (h 0) ++ (wD γ ad δ ++ (wP γ ap π ++ (r)))))))) hR))
  refine r_cSv 9 [.int p2, .int (0 : Int32), .int (1 : Int32)] [] (wB γ h σ ++ (wB γ g τ ++ (wS as9 (h 0) (g 0) an aq (ad 0) (ap 0) ++ (wN an (h 0) ν ++ (wR aq (h 0) ++ (wD γ ad δ ++ (wP γ ap π ++ (r)))))))) K (ct_X9_needRange hl (z := .inl ()) hc.symm) cs_X9_53 ⟨rfl, rfl, rfl⟩ (dk_of tX9_use 6 rfl) rfl rfl rfl rfl ?_
  refine r_aload_n 12 0 K (dk_of tX9_use 7 rfl) rfl rfl ?_
  refine r_iload_n 13 1 K (dk_of tX9_use 8 rfl) rfl rfl ?_
  rcases ox hR with ⟨_, hc, hR⟩ | ⟨k9, hc, hR⟩
  rotate_left
  · exact r_xV 14 52 [.int p1] [] k9 (wB γ h σ ++ (wB γ g τ ++ (wS as9 (h 0) (g 0) an aq (ad 0) (ap 0) ++ (wN an (h 0) ν ++ (wR aq (h 0) ++ (wD γ ad δ ++ (wP γ ap π ++ (r)))))))) K (ct_X9_needWater hl (z := .inr k9) hc.symm) cs_X9_102 ⟨rfl, rfl, rfl⟩ (dk_of tX9_use 9 rfl) rfl rfl rfl rfl rfl ⟨zc hR, zs hR⟩ (r_out 14 K hQ (zc hR) (zs hR) (lxi (fun u9 : St => wB γ h u9 ++ (wB γ g τ ++ (wS as9 (h 0) (g 0) an aq (ad 0) (ap 0) ++ (wN an (h 0) ν ++ (wR aq (h 0) ++ (wD γ ad δ ++ (wP γ ap π ++ (r)))))))) hR))
  refine r_cVv 14 52 [.int p1] [] (wB γ h σ ++ (wB γ g τ ++ (wS as9 (h 0) (g 0) an aq (ad 0) (ap 0) ++ (wN an (h 0) ν ++ (wR aq (h 0) ++ (wD γ ad δ ++ (wP γ ap π ++ (r)))))))) K (ct_X9_needWater hl (z := .inl ()) hc.symm) cs_X9_102 ⟨rfl, rfl, rfl⟩ (dk_of tX9_use 9 rfl) rfl rfl rfl rfl rfl rfl ?_
  refine r_aload_n 17 0 K (dk_of tX9_use 10 rfl) rfl rfl ?_
  refine r_getf (C := RX9) (T := TX9) (N := 6) 18 52 3 K (dk_of tX9_use 11 rfl) w322 gwX9 rfl rfl (by decide) rfl ?_
  refine r_iload_n 21 1 K (dk_of tX9_use 12 rfl) rfl rfl ?_
  refine r_iload_n 22 2 K (dk_of tX9_use 13 rfl) rfl rfl ?_
  refine r_perm (wB γ h σ ++ (wR aq (h 0) ++ (wB γ g τ ++ (wS as9 (h 0) (g 0) an aq (ad 0) (ap 0) ++ (wN an (h 0) ν ++ (wD γ ad δ ++ (wP γ ap π ++ (r)))))))) (List.Perm.trans (List.Perm.trans (List.Perm.append_left _ (List.Perm.append_left _ (List.Perm.append_left _ (List.perm_append_comm_assoc _ _ _)))) (List.Perm.append_left _ (List.Perm.append_left _ (List.perm_append_comm_assoc _ _ _)))) (List.Perm.append_left _ (List.perm_append_comm_assoc _ _ _))) 23 ?_
  obtain ⟨x1, hc, hR⟩ := o1 hR
  refine r_cVi 23 26 [.int p1, .int p2] [] x1 (wB γ h σ ++ (wR aq (h 0) ++ (wB γ g τ ++ (wS as9 (h 0) (g 0) an aq (ad 0) (ap 0) ++ (wN an (h 0) ν ++ (wD γ ad δ ++ (wP γ ap π ++ (r)))))))) K (ct_X7_howMany hl hc.symm) cs_X9_221 ⟨rfl, rfl, rfl⟩ (dk_of tX9_use 14 rfl) rfl rfl rfl rfl rfl rfl ?_
  refine r_perm (wB γ h σ ++ (wB γ g τ ++ (wS as9 (h 0) (g 0) an aq (ad 0) (ap 0) ++ (wN an (h 0) ν ++ (wR aq (h 0) ++ (wD γ ad δ ++ (wP γ ap π ++ (r)))))))) (List.Perm.trans (List.Perm.trans (List.Perm.append_left _ (List.perm_append_comm_assoc _ _ _)) (List.Perm.append_left _ (List.Perm.append_left _ (List.perm_append_comm_assoc _ _ _)))) (List.Perm.append_left _ (List.Perm.append_left _ (List.Perm.append_left _ (List.perm_append_comm_assoc _ _ _))))) 26 ?_
  refine r_if_le 26 39 K (dk_of tX9_use 15 rfl) (by decide) hR (fun hR => ?_) (fun hR => ?_)
  · refine r_iload_n 39 2 K (dk_of tX9_use 21 rfl) rfl rfl ?_
    refine r_if_ne 40 54 K (dk_of tX9_use 22 rfl) (by decide) hR (fun hR => ?_) (fun hR => ?_)
    · refine r_aload_n 43 0 K (dk_of tX9_use 23 rfl) rfl rfl ?_
      refine r_getf (C := RX9) (T := TX9) (N := 6) 44 52 0 K (dk_of tX9_use 24 rfl) w319 gwX9 rfl rfl (by decide) rfl ?_
      refine r_iload_n 47 1 K (dk_of tX9_use 25 rfl) rfl rfl ?_
      obtain ⟨x2, σ3, hc, hR⟩ := o2 hR
      refine r_cVi 48 0 [.int p1] [] x2 (wB γ h σ3 ++ (wB γ g τ ++ (wS as9 (h 0) (g 0) an aq (ad 0) (ap 0) ++ (wN an (h 0) ν ++ (wR aq (h 0) ++ (wD γ ad δ ++ (wP γ ap π ++ (r)))))))) K (ct_X0_disperse hl hc.symm) cs_X9_226 ⟨rfl, rfl, rfl⟩ (dk_of tX9_use 26 rfl) rfl rfl rfl rfl rfl rfl ?_
      refine r_goto 51 62 K (dk_of tX9_use 27 rfl) (by decide) ?_
      exact r_iret 62 K hQ (dk_of tX9_use 32 rfl) (Nat.zero_le _) (Nat.zero_le _) (lzi (fun u9 : St => wB γ h u9 ++ (wB γ g τ ++ (wS as9 (h 0) (g 0) an aq (ad 0) (ap 0) ++ (wN an (h 0) ν ++ (wR aq (h 0) ++ (wD γ ad δ ++ (wP γ ap π ++ (r)))))))) _ hR)
    · refine r_aload_n 54 0 K (dk_of tX9_use 28 rfl) rfl rfl ?_
      refine r_getf (C := RX9) (T := TX9) (N := 6) 55 52 0 K (dk_of tX9_use 29 rfl) w319 gwX9 rfl rfl (by decide) rfl ?_
      refine r_iload_n 58 1 K (dk_of tX9_use 30 rfl) rfl rfl ?_
      obtain ⟨x4, σ5, hc, hR⟩ := o2 hR
      refine r_cVi 59 0 [.int p1] [] x4 (wB γ h σ5 ++ (wB γ g τ ++ (wS as9 (h 0) (g 0) an aq (ad 0) (ap 0) ++ (wN an (h 0) ν ++ (wR aq (h 0) ++ (wD γ ad δ ++ (wP γ ap π ++ (r)))))))) K (ct_X0_burn hl hc.symm) cs_X9_230 ⟨rfl, rfl, rfl⟩ (dk_of tX9_use 31 rfl) rfl rfl rfl rfl rfl rfl ?_
      exact r_iret 62 K hQ (dk_of tX9_use 32 rfl) (Nat.zero_le _) (Nat.zero_le _) (lzi (fun u9 : St => wB γ h u9 ++ (wB γ g τ ++ (wS as9 (h 0) (g 0) an aq (ad 0) (ap 0) ++ (wN an (h 0) ν ++ (wR aq (h 0) ++ (wD γ ad δ ++ (wP γ ap π ++ (r)))))))) _ hR)
  · exact r_thr 29 12 K hQ rfl thr3 (dk_of tX9_use 16 rfl) (dk_of tX9_use 17 rfl) (dk_of tX9_use 18 rfl) (dk_of tX9_use 19 rfl) (dk_of tX9_use 20 rfl) rfl (zc (Option.some.inj hR)) (zs (Option.some.inj hR)) (zc (Option.some.inj hR)) (zs (Option.some.inj hR)) (lxi (fun u9 : St => wB γ h u9 ++ (wB γ g τ ++ (wS as9 (h 0) (g 0) an aq (ad 0) (ap 0) ++ (wN an (h 0) ν ++ (wR aq (h 0) ++ (wD γ ad δ ++ (wP γ ap π ++ (r)))))))) (Option.some.inj hR))

def sp_X9_why (p1 : Int32) (p2 : Int32) (p3 : Int32) (σ : St) : Option (Int32 ⊕ Nat) := bx (sp_X9_needNumber p1 (24 : Int32)) (fun _ => bx (sp_X9_needRange p2 (0 : Int32) (1 : Int32)) (fun _ => bx (sp_X9_needRange p3 (0 : Int32) (2 : Int32)) (fun _ => bx (sp_X9_needWater p1 σ) (fun _ => if p3 = 0 then (b1 (sp_X7_first p1 p2 σ) (fun (x1 : Int32) => some (.inl x1))) else (if p3 = 1 then (b1 (sp_X7_last p1 p2 σ) (fun (x2 : Int32) => some (.inl x2))) else (b1 (sp_X7_howMany p1 p2 σ) (fun (x3 : Int32) => some (.inl x3))))))))
set_option maxHeartbeats 4000000 in
set_option maxRecDepth 100000 in
theorem ct_X9_why {l : Launch} (hl : l.stackTraces = false) {γ : Gd} {h : Nat → Nat} {g : Nat → Nat} {as9 : Nat} {an : Nat} {aq : Nat} {ad : Nat → Nat} {ap : Nat → Nat} {σ : St} {τ : St} {ν : (Nat → Int32)} {δ : St} {π : (St × Int64)} {r : va_W} {p1 : Int32} {p2 : Int32} {p3 : Int32} {z : Int32 ⊕ Nat} (hR : some z = sp_X9_why p1 p2 p3 σ) : Ct l γ yX9_why (Cond.code yX9_why cX9_why 4 (some .int)) ({ frames := 7, cells := mcz z, slots := msz z, locals := 104 } : Room) [.ref as9, .int p1, .int p2, .int p3] (wB γ h σ ++ (wB γ g τ ++ (wS as9 (h 0) (g 0) an aq (ad 0) (ap 0) ++ (wN an (h 0) ν ++ (wR aq (h 0) ++ (wD γ ad δ ++ (wP γ ap π ++ (r)))))))) (Pzi0 (wB γ h σ ++ (wB γ g τ ++ (wS as9 (h 0) (g 0) an aq (ad 0) (ap 0) ++ (wN an (h 0) ν ++ (wR aq (h 0) ++ (wD γ ad δ ++ (wP γ ap π ++ (r)))))))) z) (mcz z) (msz z) := by
  refine Ct_of hl (by decide +kernel) rfl (Nat.le_of_ble_eq_true rfl) (L := [some (.ref as9), some (.int p1), some (.int p2), some (.int p3)]) rfl ?_
  intro X Q K hQ
  generalize ((wB γ h σ ++ (wB γ g τ ++ (wS as9 (h 0) (g 0) an aq (ad 0) (ap 0) ++ (wN an (h 0) ν ++ (wR aq (h 0) ++ (wD γ ad δ ++ (wP γ ap π ++ (r))))))), Q) : MX) = M at K hQ ⊢
  unfold sp_X9_why at hR
  refine r_iload_n 0 1 K (dk_of tX9_why 0 rfl) rfl rfl ?_
  refine r_bipush 1 (24 : Int32) K (dk_of tX9_why 1 rfl) (by decide) ?_
  rcases ox hR with ⟨_, hc, hR⟩ | ⟨k9, hc, hR⟩
  rotate_left
  · exact r_xS 3 [.int p1, .int (24 : Int32)] [] k9 (wB γ h σ ++ (wB γ g τ ++ (wS as9 (h 0) (g 0) an aq (ad 0) (ap 0) ++ (wN an (h 0) ν ++ (wR aq (h 0) ++ (wD γ ad δ ++ (wP γ ap π ++ (r)))))))) K (ct_X9_needNumber hl (z := .inr k9) hc.symm) cs_X9_49 ⟨rfl, rfl, rfl⟩ (dk_of tX9_why 2 rfl) rfl rfl rfl ⟨zc hR, zs hR⟩ (r_out 3 K hQ (zc hR) (zs hR) (lxi0 hR))
  refine r_cSv 3 [.int p1, .int (24 : Int32)] [] (wB γ h σ ++ (wB γ g τ ++ (wS as9 (h 0) (g 0) an aq (ad 0) (ap 0) ++ (wN an (h 0) ν ++ (wR aq (h 0) ++ (wD γ ad δ ++ (wP γ ap π ++ (r)))))))) K (ct_X9_needNumber hl (z := .inl ()) hc.symm) cs_X9_49 ⟨rfl, rfl, rfl⟩ (dk_of tX9_why 2 rfl) rfl rfl rfl rfl ?_
  refine r_iload_n 6 2 K (dk_of tX9_why 3 rfl) rfl rfl ?_
  refine r_iconst 7 (0 : Int32) K (dk_of tX9_why 4 rfl) (by decide) ?_
  refine r_iconst 8 (1 : Int32) K (dk_of tX9_why 5 rfl) (by decide) ?_
  rcases ox hR with ⟨_, hc, hR⟩ | ⟨k9, hc, hR⟩
  rotate_left
  · exact r_xS 9 [.int p2, .int (0 : Int32), .int (1 : Int32)] [] k9 (wB γ h σ ++ (wB γ g τ ++ (wS as9 (h 0) (g 0) an aq (ad 0) (ap 0) ++ (wN an (h 0) ν ++ (wR aq (h 0) ++ (wD γ ad δ ++ (wP γ ap π ++ (r)))))))) K (ct_X9_needRange hl (z := .inr k9) hc.symm) cs_X9_53 ⟨rfl, rfl, rfl⟩ (dk_of tX9_why 6 rfl) rfl rfl rfl ⟨zc hR, zs hR⟩ (r_out 9 K hQ (zc hR) (zs hR) (lxi0 hR))
  refine r_cSv 9 [.int p2, .int (0 : Int32), .int (1 : Int32)] [] (wB γ h σ ++ (wB γ g τ ++ (wS as9 (h 0) (g 0) an aq (ad 0) (ap 0) ++ (wN an (h 0) ν ++ (wR aq (h 0) ++ (wD γ ad δ ++ (wP γ ap π ++ (r)))))))) K (ct_X9_needRange hl (z := .inl ()) hc.symm) cs_X9_53 ⟨rfl, rfl, rfl⟩ (dk_of tX9_why 6 rfl) rfl rfl rfl rfl ?_
  refine r_iload_n 12 3 K (dk_of tX9_why 7 rfl) rfl rfl ?_
  refine r_iconst 13 (0 : Int32) K (dk_of tX9_why 8 rfl) (by decide) ?_
  refine r_iconst 14 (2 : Int32) K (dk_of tX9_why 9 rfl) (by decide) ?_
  rcases ox hR with ⟨_, hc, hR⟩ | ⟨k9, hc, hR⟩
  rotate_left
  · exact r_xS 15 [.int p3, .int (0 : Int32), .int (2 : Int32)] [] k9 (wB γ h σ ++ (wB γ g τ ++ (wS as9 (h 0) (g 0) an aq (ad 0) (ap 0) ++ (wN an (h 0) ν ++ (wR aq (h 0) ++ (wD γ ad δ ++ (wP γ ap π ++ (r)))))))) K (ct_X9_needRange hl (z := .inr k9) hc.symm) cs_X9_53 ⟨rfl, rfl, rfl⟩ (dk_of tX9_why 10 rfl) rfl rfl rfl ⟨zc hR, zs hR⟩ (r_out 15 K hQ (zc hR) (zs hR) (lxi0 hR))
  refine r_cSv 15 [.int p3, .int (0 : Int32), .int (2 : Int32)] [] (wB γ h σ ++ (wB γ g τ ++ (wS as9 (h 0) (g 0) an aq (ad 0) (ap 0) ++ (wN an (h 0) ν ++ (wR aq (h 0) ++ (wD γ ad δ ++ (wP γ ap π ++ (r)))))))) K (ct_X9_needRange hl (z := .inl ()) hc.symm) cs_X9_53 ⟨rfl, rfl, rfl⟩ (dk_of tX9_why 10 rfl) rfl rfl rfl rfl ?_
  refine r_aload_n 18 0 K (dk_of tX9_why 11 rfl) rfl rfl ?_
  refine r_iload_n 19 1 K (dk_of tX9_why 12 rfl) rfl rfl ?_
  rcases ox hR with ⟨_, hc, hR⟩ | ⟨k9, hc, hR⟩
  rotate_left
  · exact r_xV 20 52 [.int p1] [] k9 (wB γ h σ ++ (wB γ g τ ++ (wS as9 (h 0) (g 0) an aq (ad 0) (ap 0) ++ (wN an (h 0) ν ++ (wR aq (h 0) ++ (wD γ ad δ ++ (wP γ ap π ++ (r)))))))) K (ct_X9_needWater hl (z := .inr k9) hc.symm) cs_X9_102 ⟨rfl, rfl, rfl⟩ (dk_of tX9_why 13 rfl) rfl rfl rfl rfl rfl ⟨zc hR, zs hR⟩ (r_out 20 K hQ (zc hR) (zs hR) (lxi0 hR))
  refine r_cVv 20 52 [.int p1] [] (wB γ h σ ++ (wB γ g τ ++ (wS as9 (h 0) (g 0) an aq (ad 0) (ap 0) ++ (wN an (h 0) ν ++ (wR aq (h 0) ++ (wD γ ad δ ++ (wP γ ap π ++ (r)))))))) K (ct_X9_needWater hl (z := .inl ()) hc.symm) cs_X9_102 ⟨rfl, rfl, rfl⟩ (dk_of tX9_why 13 rfl) rfl rfl rfl rfl rfl rfl ?_
  refine r_iload_n 23 3 K (dk_of tX9_why 14 rfl) rfl rfl ?_
  refine r_case hR (fun c24_0 hR => ?_) (fun c24_0 hR => ?_)
  · refine r_lsw 24 52 K (off := 28) (dk_of tX9_why 15 rfl) (by decide) (by rw [c24_0]; try rfl) (by decide) ?_
    refine r_aload_n 52 0 K (dk_of tX9_why 16 rfl) rfl rfl ?_
    refine r_getf (C := RX9) (T := TX9) (N := 6) 53 52 3 K (dk_of tX9_why 17 rfl) w322 gwX9 rfl rfl (by decide) rfl ?_
    refine r_iload_n 56 1 K (dk_of tX9_why 18 rfl) rfl rfl ?_
    refine r_iload_n 57 2 K (dk_of tX9_why 19 rfl) rfl rfl ?_
    refine r_perm (wB γ h σ ++ (wR aq (h 0) ++ (wB γ g τ ++ (wS as9 (h 0) (g 0) an aq (ad 0) (ap 0) ++ (wN an (h 0) ν ++ (wD γ ad δ ++ (wP γ ap π ++ (r)))))))) (List.Perm.trans (List.Perm.trans (List.Perm.append_left _ (List.Perm.append_left _ (List.Perm.append_left _ (List.perm_append_comm_assoc _ _ _)))) (List.Perm.append_left _ (List.Perm.append_left _ (List.perm_append_comm_assoc _ _ _)))) (List.Perm.append_left _ (List.perm_append_comm_assoc _ _ _))) 58 ?_
    obtain ⟨x1, hc, hR⟩ := o1 hR
    refine r_cVi 58 26 [.int p1, .int p2] [] x1 (wB γ h σ ++ (wR aq (h 0) ++ (wB γ g τ ++ (wS as9 (h 0) (g 0) an aq (ad 0) (ap 0) ++ (wN an (h 0) ν ++ (wD γ ad δ ++ (wP γ ap π ++ (r)))))))) K (ct_X7_first hl hc.symm) cs_X9_233 ⟨rfl, rfl, rfl⟩ (dk_of tX9_why 20 rfl) rfl rfl rfl rfl rfl rfl ?_
    refine r_perm (wB γ h σ ++ (wB γ g τ ++ (wS as9 (h 0) (g 0) an aq (ad 0) (ap 0) ++ (wN an (h 0) ν ++ (wR aq (h 0) ++ (wD γ ad δ ++ (wP γ ap π ++ (r)))))))) (List.Perm.trans (List.Perm.trans (List.Perm.append_left _ (List.perm_append_comm_assoc _ _ _)) (List.Perm.append_left _ (List.Perm.append_left _ (List.perm_append_comm_assoc _ _ _)))) (List.Perm.append_left _ (List.Perm.append_left _ (List.Perm.append_left _ (List.perm_append_comm_assoc _ _ _))))) 61 ?_
    exact r_iret 61 K hQ (dk_of tX9_why 21 rfl) (Nat.zero_le _) (Nat.zero_le _) (lzi0 hR)
  · refine r_case hR (fun c24_1 hR => ?_) (fun c24_1 hR => ?_)
    · refine r_lsw 24 62 K (off := 38) (dk_of tX9_why 15 rfl) (by decide) (by rw [c24_1]; try rfl) (by decide) ?_
      refine r_aload_n 62 0 K (dk_of tX9_why 22 rfl) rfl rfl ?_
      refine r_getf (C := RX9) (T := TX9) (N := 6) 63 52 3 K (dk_of tX9_why 23 rfl) w322 gwX9 rfl rfl (by decide) rfl ?_
      refine r_iload_n 66 1 K (dk_of tX9_why 24 rfl) rfl rfl ?_
      refine r_iload_n 67 2 K (dk_of tX9_why 25 rfl) rfl rfl ?_
      refine r_perm (wB γ h σ ++ (wR aq (h 0) ++ (wB γ g τ ++ (wS as9 (h 0) (g 0) an aq (ad 0) (ap 0) ++ (wN an (h 0) ν ++ (wD γ ad δ ++ (wP γ ap π ++ (r)))))))) (List.Perm.trans (List.Perm.trans (List.Perm.append_left _ (List.Perm.append_left _ (List.Perm.append_left _ (List.perm_append_comm_assoc _ _ _)))) (List.Perm.append_left _ (List.Perm.append_left _ (List.perm_append_comm_assoc _ _ _)))) (List.Perm.append_left _ (List.perm_append_comm_assoc _ _ _))) 68 ?_
      obtain ⟨x2, hc, hR⟩ := o1 hR
      refine r_cVi 68 26 [.int p1, .int p2] [] x2 (wB γ h σ ++ (wR aq (h 0) ++ (wB γ g τ ++ (wS as9 (h 0) (g 0) an aq (ad 0) (ap 0) ++ (wN an (h 0) ν ++ (wD γ ad δ ++ (wP γ ap π ++ (r)))))))) K (ct_X7_last hl hc.symm) cs_X9_236 ⟨rfl, rfl, rfl⟩ (dk_of tX9_why 26 rfl) rfl rfl rfl rfl rfl rfl ?_
      refine r_perm (wB γ h σ ++ (wB γ g τ ++ (wS as9 (h 0) (g 0) an aq (ad 0) (ap 0) ++ (wN an (h 0) ν ++ (wR aq (h 0) ++ (wD γ ad δ ++ (wP γ ap π ++ (r)))))))) (List.Perm.trans (List.Perm.trans (List.Perm.append_left _ (List.perm_append_comm_assoc _ _ _)) (List.Perm.append_left _ (List.Perm.append_left _ (List.perm_append_comm_assoc _ _ _)))) (List.Perm.append_left _ (List.Perm.append_left _ (List.Perm.append_left _ (List.perm_append_comm_assoc _ _ _))))) 71 ?_
      exact r_iret 71 K hQ (dk_of tX9_why 27 rfl) (Nat.zero_le _) (Nat.zero_le _) (lzi0 hR)
    · refine r_lsw 24 72 K (off := 48) (dk_of tX9_why 15 rfl) (by decide) (lsw_out2 c24_0 c24_1 (k0 := 0) (k1 := 1) (by decide) (by decide)) (by decide) ?_
      refine r_aload_n 72 0 K (dk_of tX9_why 28 rfl) rfl rfl ?_
      refine r_getf (C := RX9) (T := TX9) (N := 6) 73 52 3 K (dk_of tX9_why 29 rfl) w322 gwX9 rfl rfl (by decide) rfl ?_
      refine r_iload_n 76 1 K (dk_of tX9_why 30 rfl) rfl rfl ?_
      refine r_iload_n 77 2 K (dk_of tX9_why 31 rfl) rfl rfl ?_
      refine r_perm (wB γ h σ ++ (wR aq (h 0) ++ (wB γ g τ ++ (wS as9 (h 0) (g 0) an aq (ad 0) (ap 0) ++ (wN an (h 0) ν ++ (wD γ ad δ ++ (wP γ ap π ++ (r)))))))) (List.Perm.trans (List.Perm.trans (List.Perm.append_left _ (List.Perm.append_left _ (List.Perm.append_left _ (List.perm_append_comm_assoc _ _ _)))) (List.Perm.append_left _ (List.Perm.append_left _ (List.perm_append_comm_assoc _ _ _)))) (List.Perm.append_left _ (List.perm_append_comm_assoc _ _ _))) 78 ?_
      obtain ⟨x3, hc, hR⟩ := o1 hR
      refine r_cVi 78 26 [.int p1, .int p2] [] x3 (wB γ h σ ++ (wR aq (h 0) ++ (wB γ g τ ++ (wS as9 (h 0) (g 0) an aq (ad 0) (ap 0) ++ (wN an (h 0) ν ++ (wD γ ad δ ++ (wP γ ap π ++ (r)))))))) K (ct_X7_howMany hl hc.symm) cs_X9_221 ⟨rfl, rfl, rfl⟩ (dk_of tX9_why 32 rfl) rfl rfl rfl rfl rfl rfl ?_
      refine r_perm (wB γ h σ ++ (wB γ g τ ++ (wS as9 (h 0) (g 0) an aq (ad 0) (ap 0) ++ (wN an (h 0) ν ++ (wR aq (h 0) ++ (wD γ ad δ ++ (wP γ ap π ++ (r)))))))) (List.Perm.trans (List.Perm.trans (List.Perm.append_left _ (List.perm_append_comm_assoc _ _ _)) (List.Perm.append_left _ (List.Perm.append_left _ (List.perm_append_comm_assoc _ _ _)))) (List.Perm.append_left _ (List.Perm.append_left _ (List.Perm.append_left _ (List.perm_append_comm_assoc _ _ _))))) 81 ?_
      exact r_iret 81 K hQ (dk_of tX9_why 33 rfl) (Nat.zero_le _) (Nat.zero_le _) (lzi0 hR)

def sp_X9_shipHas (p1 : Int32) (σ : St) : Option (Int32 ⊕ Nat) := bx (sp_X9_needNumber p1 (σ 10 0)) (fun _ => if p1 < 0 ∨ 4 ≤ p1.toNatClampNeg then none else (some (.inl (σ 12 p1.toNatClampNeg))))
set_option maxHeartbeats 4000000 in
set_option maxRecDepth 100000 in
theorem ct_X9_shipHas {l : Launch} (hl : l.stackTraces = false) {γ : Gd} {h : Nat → Nat} {g : Nat → Nat} {as9 : Nat} {an : Nat} {aq : Nat} {ad : Nat → Nat} {ap : Nat → Nat} {σ : St} {τ : St} {ν : (Nat → Int32)} {δ : St} {π : (St × Int64)} {r : va_W} {p1 : Int32} {z : Int32 ⊕ Nat} (hR : some z = sp_X9_shipHas p1 σ) : Ct l γ yX9_shipHas (Cond.code yX9_shipHas cX9_shipHas 2 (some .int)) ({ frames := 7, cells := mcz z, slots := msz z, locals := 103 } : Room) [.ref as9, .int p1] (wB γ h σ ++ (wB γ g τ ++ (wS as9 (h 0) (g 0) an aq (ad 0) (ap 0) ++ (wN an (h 0) ν ++ (wR aq (h 0) ++ (wD γ ad δ ++ (wP γ ap π ++ (r)))))))) (Pzi0 (wB γ h σ ++ (wB γ g τ ++ (wS as9 (h 0) (g 0) an aq (ad 0) (ap 0) ++ (wN an (h 0) ν ++ (wR aq (h 0) ++ (wD γ ad δ ++ (wP γ ap π ++ (r)))))))) z) (mcz z) (msz z) := by
  refine Ct_of hl (by decide +kernel) rfl (Nat.le_of_ble_eq_true rfl) (L := [some (.ref as9), some (.int p1)]) rfl ?_
  intro X Q K hQ
  generalize ((wB γ h σ ++ (wB γ g τ ++ (wS as9 (h 0) (g 0) an aq (ad 0) (ap 0) ++ (wN an (h 0) ν ++ (wR aq (h 0) ++ (wD γ ad δ ++ (wP γ ap π ++ (r))))))), Q) : MX) = M at K hQ ⊢
  unfold sp_X9_shipHas at hR
  refine r_iload_n 0 1 K (dk_of tX9_shipHas 0 rfl) rfl rfl ?_
  refine r_aload_n 1 0 K (dk_of tX9_shipHas 1 rfl) rfl rfl ?_
  refine r_getf (C := RX9) (T := TX9) (N := 6) 2 52 0 K (dk_of tX9_shipHas 2 rfl) w319 gwX9 rfl rfl (by decide) rfl ?_
  refine r_getf (C := RX0) (T := TX0) (N := 9) 5 0 1 K (dk_of tX9_shipHas 3 rfl) w205 gwX0 rfl rfl (by decide) rfl ?_
  refine r_getf (C := RX8) (T := TX8) (N := 4) 8 10 0 K (dk_of tX9_shipHas 4 rfl) w96 gwX8 rfl rfl (by decide) rfl ?_
  rcases ox hR with ⟨_, hc, hR⟩ | ⟨k9, hc, hR⟩
  rotate_left
  · exact r_xS 11 [.int p1, .int (σ 10 0)] [] k9 (wB γ h σ ++ (wB γ g τ ++ (wS as9 (h 0) (g 0) an aq (ad 0) (ap 0) ++ (wN an (h 0) ν ++ (wR aq (h 0) ++ (wD γ ad δ ++ (wP γ ap π ++ (r)))))))) K (ct_X9_needNumber hl (z := .inr k9) hc.symm) cs_X9_49 ⟨rfl, rfl, rfl⟩ (dk_of tX9_shipHas 5 rfl) rfl rfl rfl ⟨zc hR, zs hR⟩ (r_out 11 K hQ (zc hR) (zs hR) (lxi0 hR))
  refine r_cSv 11 [.int p1, .int (σ 10 0)] [] (wB γ h σ ++ (wB γ g τ ++ (wS as9 (h 0) (g 0) an aq (ad 0) (ap 0) ++ (wN an (h 0) ν ++ (wR aq (h 0) ++ (wD γ ad δ ++ (wP γ ap π ++ (r)))))))) K (ct_X9_needNumber hl (z := .inl ()) hc.symm) cs_X9_49 ⟨rfl, rfl, rfl⟩ (dk_of tX9_shipHas 5 rfl) rfl rfl rfl rfl ?_
  refine r_aload_n 14 0 K (dk_of tX9_shipHas 6 rfl) rfl rfl ?_
  refine r_getf (C := RX9) (T := TX9) (N := 6) 15 52 0 K (dk_of tX9_shipHas 7 rfl) w319 gwX9 rfl rfl (by decide) rfl ?_
  refine r_getf (C := RX0) (T := TX0) (N := 9) 18 0 1 K (dk_of tX9_shipHas 8 rfl) w205 gwX0 rfl rfl (by decide) rfl ?_
  refine r_getf (C := RX8) (T := TX8) (N := 4) 21 10 2 K (dk_of tX9_shipHas 9 rfl) w103 gwX8 rfl rfl (by decide) rfl ?_
  refine r_iload_n 24 1 K (dk_of tX9_shipHas 10 rfl) rfl rfl ?_
  refine r_ialdR 25 12 K (dk_of tX9_shipHas 11 rfl) rfl hR (fun hR => ?_)
  exact r_iret 26 K hQ (dk_of tX9_shipHas 12 rfl) (Nat.zero_le _) (Nat.zero_le _) (lzi0 hR)
