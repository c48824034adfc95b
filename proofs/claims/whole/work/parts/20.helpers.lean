def sp_L_shore (p2 : Int32) (p3 : Int32) (σ : St) (ω : (Nat → Int64)) : Option (Int32 × St × (Nat → Int64)) := bc2 (sp_X9_shore p2 p3 σ) (fun (x1 : Int32) (σ2 : St) => sl (vp_updL ω (0 : Int32).toNatClampNeg x1.toInt64) (fun ω3 : (Nat → Int64) => some ((0 : Int32), σ2, ω3))) (fun k9 => if k9 = 1 then (some ((1 : Int32), σ, ω)) else (if k9 = 2 then (some ((2 : Int32), σ, ω)) else (if k9 = 3 then (some ((3 : Int32), σ, ω)) else (none))))
set_option maxHeartbeats 4000000 in
set_option maxRecDepth 100000 in
theorem ct_L_shore {l : Launch} (hl : l.stackTraces = false) {γ : Gd} {h : Nat → Nat} {g : Nat → Nat} {as9 : Nat} {an : Nat} {aq : Nat} {ad : Nat → Nat} {ap : Nat → Nat} {au : Nat} {σ : St} {τ : St} {ν : (Nat → Int32)} {δ : St} {π : (St × Int64)} {ω : (Nat → Int64)} {r : va_W} {p2 : Int32} {p3 : Int32} {x0 : Int32} {σ0 : St} {ω0 : (Nat → Int64)} (hR : some (x0, σ0, ω0) = sp_L_shore p2 p3 σ ω) : Ct l γ yL_shore (Cond.codeWith yL_shore cL_shore 5 (some .int) [(0, 10, 13, 13), (0, 10, 17, 15), (0, 10, 21, 17)]) ({ frames := 8, cells := 1, slots := 6, locals := 127 } : Room) [.ref as9, .int p2, .int p3, .ref au] (wB γ h σ ++ (wB γ g τ ++ (wS as9 (h 0) (g 0) an aq (ad 0) (ap 0) ++ (wN an (h 0) ν ++ (wR aq (h 0) ++ (wD γ ad δ ++ (wP γ ap π ++ (wO γ au ω ++ (r))))))))) (Pr (some (.int x0)) (wB γ h σ0 ++ (wB γ g τ ++ (wS as9 (h 0) (g 0) an aq (ad 0) (ap 0) ++ (wN an (h 0) ν ++ (wR aq (h 0) ++ (wD γ ad δ ++ (wP γ ap π ++ (wO γ au ω0 ++ (r)))))))))) 1 6 := by
  refine Ct_ofH hl (by decide +kernel) rfl (Nat.le_of_ble_eq_true rfl) (L := [some (.ref as9), some (.int p2), some (.int p3), some (.ref au), none]) rfl ?_
  intro X Q K hQ
  generalize ((wB γ h σ ++ (wB γ g τ ++ (wS as9 (h 0) (g 0) an aq (ad 0) (ap 0) ++ (wN an (h 0) ν ++ (wR aq (h 0) ++ (wD γ ad δ ++ (wP γ ap π ++ (wO γ au ω ++ (r)))))))), Q) : MX) = M at K hQ ⊢
  unfold sp_L_shore at hR
  refine r_aload_n 0 3 K (dk_of tL_shore 0 rfl) rfl rfl ?_
  refine r_iconst 1 (0 : Int32) K (dk_of tL_shore 1 rfl) (by decide) ?_
  refine r_aload_n 2 0 K (dk_of tL_shore 2 rfl) rfl rfl ?_
  refine r_iload_n 3 1 K (dk_of tL_shore 3 rfl) rfl rfl ?_
  refine r_iload_n 4 2 K (dk_of tL_shore 4 rfl) rfl rfl ?_
  rcases oc2 hR with ⟨x1, σ2, hc, hR⟩ | ⟨k9, hc, hR⟩
  · refine r_cVi 5 52 [.int p2, .int p3] [.int (0 : Int32), .ref au] x1 (wB γ h σ2 ++ (wB γ g τ ++ (wS as9 (h 0) (g 0) an aq (ad 0) (ap 0) ++ (wN an (h 0) ν ++ (wR aq (h 0) ++ (wD γ ad δ ++ (wP γ ap π ++ (wO γ au ω ++ (r))))))))) K (ct_X9_shore hl (z := .inl (x1, σ2)) hc.symm) cs_L_7 ⟨rfl, rfl, rfl⟩ (dk_of tL_shore 5 rfl) rfl rfl rfl rfl rfl rfl ?_
    refine r_i2l 8 K (dk_of tL_shore 6 rfl) ?_
    refine r_last 9 60 K (dk_of tL_shore 7 rfl) rfl (vpd (by decide)) sO_0_btsnqdpu ?_
    refine r_nmS (fun ω3 : (Nat → Int64) => wB γ h σ2 ++ (wB γ g τ ++ (wS as9 (h 0) (g 0) an aq (ad 0) (ap 0) ++ (wN an (h 0) ν ++ (wR aq (h 0) ++ (wD γ ad δ ++ (wP γ ap π ++ (wO γ au ω3 ++ (r))))))))) hR (fun ω3 hR => ?_)
    refine r_goto 10 25 K (dk_of tL_shore 8 rfl) (by decide) ?_
    refine r_iconst 25 (0 : Int32) K (dk_of tL_shore 18 rfl) (by decide) ?_
    exact r_iret 26 K hQ (dk_of tL_shore 19 rfl) (Nat.zero_le _) (Nat.zero_le _) (lfi (s1 := (σ0, ω0)) (s2 := (σ2, ω3)) (fun u9 : St × (Nat → Int64) => wB γ h u9.1 ++ (wB γ g τ ++ (wS as9 (h 0) (g 0) an aq (ad 0) (ap 0) ++ (wN an (h 0) ν ++ (wR aq (h 0) ++ (wD γ ad δ ++ (wP γ ap π ++ (wO γ au u9.2 ++ (r))))))))) hR)
  · refine r_case hR (fun e9 hR => ?_) (fun e9 hR => ?_)
    · subst e9
      refine r_xV (mc := 1) (ms := 6) 5 52 [.int p2, .int p3] [.int (0 : Int32), .ref au] 1 (wB γ h σ ++ (wB γ g τ ++ (wS as9 (h 0) (g 0) an aq (ad 0) (ap 0) ++ (wN an (h 0) ν ++ (wR aq (h 0) ++ (wD γ ad δ ++ (wP γ ap π ++ (wO γ au ω ++ (r))))))))) K (ct_X9_shore hl (z := .inr 1) hc.symm) cs_L_7 ⟨rfl, rfl, rfl⟩ (dk_of tL_shore 5 rfl) rfl rfl rfl rfl rfl ⟨by decide, by decide⟩ ?_
      refine r_catch 5 K [] ⟨0, 10, 13, 13⟩ [⟨0, 10, 17, 15⟩, ⟨0, 10, 21, 17⟩] rfl (fun z hz => by cases hz) rfl (by decide) w344 (List.mem_of_getElem? (i := 2) rfl) (fun q9 => ?_)
      refine r_astore 13 4 [some (.ref as9), some (.int p2), some (.int p3), some (.ref au), some (.ref q9)] K (dk_of tL_shore 9 rfl) rfl rfl (by decide) ?_
      refine r_iconst 15 (1 : Int32) K (dk_of tL_shore 10 rfl) (by decide) ?_
      exact r_iret 16 K hQ (dk_of tL_shore 11 rfl) (Nat.le_refl _) (Nat.le_refl _) (lfi (s1 := (σ0, ω0)) (s2 := (σ, ω)) (fun u9 : St × (Nat → Int64) => wB γ h u9.1 ++ (wB γ g τ ++ (wS as9 (h 0) (g 0) an aq (ad 0) (ap 0) ++ (wN an (h 0) ν ++ (wR aq (h 0) ++ (wD γ ad δ ++ (wP γ ap π ++ (wO γ au u9.2 ++ (r))))))))) hR)
    · refine r_case hR (fun e9 hR => ?_) (fun e9 hR => ?_)
      · subst e9
        refine r_xV (mc := 1) (ms := 6) 5 52 [.int p2, .int p3] [.int (0 : Int32), .ref au] 2 (wB γ h σ ++ (wB γ g τ ++ (wS as9 (h 0) (g 0) an aq (ad 0) (ap 0) ++ (wN an (h 0) ν ++ (wR aq (h 0) ++ (wD γ ad δ ++ (wP γ ap π ++ (wO γ au ω ++ (r))))))))) K (ct_X9_shore hl (z := .inr 2) hc.symm) cs_L_7 ⟨rfl, rfl, rfl⟩ (dk_of tL_shore 5 rfl) rfl rfl rfl rfl rfl ⟨by decide, by decide⟩ ?_
        refine r_catch 5 K [⟨0, 10, 13, 13⟩] ⟨0, 10, 17, 15⟩ [⟨0, 10, 21, 17⟩] rfl (fun z hz => by rw [List.mem_singleton.mp hz]; exact ⟨by decide, 1, w344, List.mem_of_getElem? (i := 0) rfl⟩) rfl (by decide) w345 (List.mem_of_getElem? (i := 3) rfl) (fun q9 => ?_)
        refine r_astore 17 4 [some (.ref as9), some (.int p2), some (.int p3), some (.ref au), some (.ref q9)] K (dk_of tL_shore 12 rfl) rfl rfl (by decide) ?_
        refine r_iconst 19 (2 : Int32) K (dk_of tL_shore 13 rfl) (by decide) ?_
        exact r_iret 20 K hQ (dk_of tL_shore 14 rfl) (Nat.le_refl _) (Nat.le_refl _) (lfi (s1 := (σ0, ω0)) (s2 := (σ, ω)) (fun u9 : St × (Nat → Int64) => wB γ h u9.1 ++ (wB γ g τ ++ (wS as9 (h 0) (g 0) an aq (ad 0) (ap 0) ++ (wN an (h 0) ν ++ (wR aq (h 0) ++ (wD γ ad δ ++ (wP γ ap π ++ (wO γ au u9.2 ++ (r))))))))) hR)
      · refine r_case hR (fun e9 hR => ?_) (fun e9 hR => ?_)
        · subst e9
          refine r_xV (mc := 1) (ms := 6) 5 52 [.int p2, .int p3] [.int (0 : Int32), .ref au] 3 (wB γ h σ ++ (wB γ g τ ++ (wS as9 (h 0) (g 0) an aq (ad 0) (ap 0) ++ (wN an (h 0) ν ++ (wR aq (h 0) ++ (wD γ ad δ ++ (wP γ ap π ++ (wO γ au ω ++ (r))))))))) K (ct_X9_shore hl (z := .inr 3) hc.symm) cs_L_7 ⟨rfl, rfl, rfl⟩ (dk_of tL_shore 5 rfl) rfl rfl rfl rfl rfl ⟨by decide, by decide⟩ ?_
          refine r_catch 5 K [⟨0, 10, 13, 13⟩, ⟨0, 10, 17, 15⟩] ⟨0, 10, 21, 17⟩ [] rfl (fun z hz => by rcases List.mem_cons.mp hz with hz | hz; (rw [hz]; exact ⟨by decide, 1, w344, List.mem_of_getElem? (i := 1) rfl⟩); (rw [List.mem_singleton.mp hz]; exact ⟨by decide, 2, w345, List.mem_of_getElem? (i := 2) rfl⟩)) rfl (by decide) w346 (List.mem_of_getElem? (i := 4) rfl) (fun q9 => ?_)
          refine r_astore 21 4 [some (.ref as9), some (.int p2), some (.int p3), some (.ref au), some (.ref q9)] K (dk_of tL_shore 15 rfl) rfl rfl (by decide) ?_
          refine r_iconst 23 (3 : Int32) K (dk_of tL_shore 16 rfl) (by decide) ?_
          exact r_iret 24 K hQ (dk_of tL_shore 17 rfl) (Nat.le_refl _) (Nat.le_refl _) (lfi (s1 := (σ0, ω0)) (s2 := (σ, ω)) (fun u9 : St × (Nat → Int64) => wB γ h u9.1 ++ (wB γ g τ ++ (wS as9 (h 0) (g 0) an aq (ad 0) (ap 0) ++ (wN an (h 0) ν ++ (wR aq (h 0) ++ (wD γ ad δ ++ (wP γ ap π ++ (wO γ au u9.2 ++ (r))))))))) hR)
        · exact nn_ hR

def sp_L_depth (p2 : Int32) (p3 : Int32) (σ : St) (ω : (Nat → Int64)) : Option (Int32 × St × (Nat → Int64)) := bc2 (sp_X9_depth p2 p3 σ) (fun (x1 : Int32) (σ2 : St) => sl (vp_updL ω (0 : Int32).toNatClampNeg x1.toInt64) (fun ω3 : (Nat → Int64) => some ((0 : Int32), σ2, ω3))) (fun k9 => if k9 = 1 then (some ((1 : Int32), σ, ω)) else (if k9 = 2 then (some ((2 : Int32), σ, ω)) else (if k9 = 3 then (some ((3 : Int32), σ, ω)) else (none))))
set_option maxHeartbeats 4000000 in
set_option maxRecDepth 100000 in
theorem ct_L_depth {l : Launch} (hl : l.stackTraces = false) {γ : Gd} {h : Nat → Nat} {g : Nat → Nat} {as9 : Nat} {an : Nat} {aq : Nat} {ad : Nat → Nat} {ap : Nat → Nat} {au : Nat} {σ : St} {τ : St} {ν : (Nat → Int32)} {δ : St} {π : (St × Int64)} {ω : (Nat → Int64)} {r : va_W} {p2 : Int32} {p3 : Int32} {x0 : Int32} {σ0 : St} {ω0 : (Nat → Int64)} (hR : some (x0, σ0, ω0) = sp_L_depth p2 p3 σ ω) : Ct l γ yL_depth (Cond.codeWith yL_depth cL_depth 5 (some .int) [(0, 10, 13, 13), (0, 10, 17, 15), (0, 10, 21, 17)]) ({ frames := 8, cells := 1, slots := 6, locals := 127 } : Room) [.ref as9, .int p2, .int p3, .ref au] (wB γ h σ ++ (wB γ g τ ++ (wS as9 (h 0) (g 0) an aq (ad 0) (ap 0) ++ (wN an (h 0) ν ++ (wR aq (h 0) ++ (wD γ ad δ ++ (wP γ ap π ++ (wO γ au ω ++ (r))))))))) (Pr (some (.int x0)) (wB γ h σ0 ++ (wB γ g τ ++ (wS as9 (h 0) (g 0) an aq (ad 0) (ap 0) ++ (wN an (h 0) ν ++ (wR aq (h 0) ++ (wD γ ad δ ++ (wP γ ap π ++ (wO γ au ω0 ++ (r)))))))))) 1 6 := by
  refine Ct_ofH hl (by decide +kernel) rfl (Nat.le_of_ble_eq_true rfl) (L := [some (.ref as9), some (.int p2), some (.int p3), some (.ref au), none]) rfl ?_
  intro X Q K hQ
  generalize ((wB γ h σ ++ (wB γ g τ ++ (wS as9 (h 0) (g 0) an aq (ad 0) (ap 0) ++ (wN an (h 0) ν ++ (wR aq (h 0) ++ (wD γ ad δ ++ (wP γ ap π ++ (wO γ au ω ++ (r)))))))), Q) : MX) = M at K hQ ⊢
  unfold sp_L_depth at hR
  refine r_aload_n 0 3 K (dk_of tL_depth 0 rfl) rfl rfl ?_
  refine r_iconst 1 (0 : Int32) K (dk_of tL_depth 1 rfl) (by decide) ?_
  refine r_aload_n 2 0 K (dk_of tL_depth 2 rfl) rfl rfl ?_
  refine r_iload_n 3 1 K (dk_of tL_depth 3 rfl) rfl rfl ?_
  refine r_iload_n 4 2 K (dk_of tL_depth 4 rfl) rfl rfl ?_
  rcases oc2 hR with ⟨x1, σ2, hc, hR⟩ | ⟨k9, hc, hR⟩
  · refine r_cVi 5 52 [.int p2, .int p3] [.int (0 : Int32), .ref au] x1 (wB γ h σ2 ++ (wB γ g τ ++ (wS as9 (h 0) (g 0) an aq (ad 0) (ap 0) ++ (wN an (h 0) ν ++ (wR aq (h 0) ++ (wD γ ad δ ++ (wP γ ap π ++ (wO γ au ω ++ (r))))))))) K (ct_X9_depth hl (z := .inl (x1, σ2)) hc.symm) cs_L_19 ⟨rfl, rfl, rfl⟩ (dk_of tL_depth 5 rfl) rfl rfl rfl rfl rfl rfl ?_
    refine r_i2l 8 K (dk_of tL_depth 6 rfl) ?_
    refine r_last 9 60 K (dk_of tL_depth 7 rfl) rfl (vpd (by decide)) sO_0_btsnqdpu ?_
    refine r_nmS (fun ω3 : (Nat → Int64) => wB γ h σ2 ++ (wB γ g τ ++ (wS as9 (h 0) (g 0) an aq (ad 0) (ap 0) ++ (wN an (h 0) ν ++ (wR aq (h 0) ++ (wD γ ad δ ++ (wP γ ap π ++ (wO γ au ω3 ++ (r))))))))) hR (fun ω3 hR => ?_)
    refine r_goto 10 25 K (dk_of tL_depth 8 rfl) (by decide) ?_
    refine r_iconst 25 (0 : Int32) K (dk_of tL_depth 18 rfl) (by decide) ?_
    exact r_iret 26 K hQ (dk_of tL_depth 19 rfl) (Nat.zero_le _) (Nat.zero_le _) (lfi (s1 := (σ0, ω0)) (s2 := (σ2, ω3)) (fun u9 : St × (Nat → Int64) => wB γ h u9.1 ++ (wB γ g τ ++ (wS as9 (h 0) (g 0) an aq (ad 0) (ap 0) ++ (wN an (h 0) ν ++ (wR aq (h 0) ++ (wD γ ad δ ++ (wP γ ap π ++ (wO γ au u9.2 ++ (r))))))))) hR)
  · refine r_case hR (fun e9 hR => ?_) (fun e9 hR => ?_)
    · subst e9
      refine r_xV (mc := 1) (ms := 6) 5 52 [.int p2, .int p3] [.int (0 : Int32), .ref au] 1 (wB γ h σ ++ (wB γ g τ ++ (wS as9 (h 0) (g 0) an aq (ad 0) (ap 0) ++ (wN an (h 0) ν ++ (wR aq (h 0) ++ (wD γ ad δ ++ (wP γ ap π ++ (wO γ au ω ++ (r))))))))) K (ct_X9_depth hl (z := .inr 1) hc.symm) cs_L_19 ⟨rfl, rfl, rfl⟩ (dk_of tL_depth 5 rfl) rfl rfl rfl rfl rfl ⟨by decide, by decide⟩ ?_
      refine r_catch 5 K [] ⟨0, 10, 13, 13⟩ [⟨0, 10, 17, 15⟩, ⟨0, 10, 21, 17⟩] rfl (fun z hz => by cases hz) rfl (by decide) w344 (List.mem_of_getElem? (i := 2) rfl) (fun q9 => ?_)
      refine r_astore 13 4 [some (.ref as9), some (.int p2), some (.int p3), some (.ref au), some (.ref q9)] K (dk_of tL_depth 9 rfl) rfl rfl (by decide) ?_
      refine r_iconst 15 (1 : Int32) K (dk_of tL_depth 10 rfl) (by decide) ?_
      exact r_iret 16 K hQ (dk_of tL_depth 11 rfl) (Nat.le_refl _) (Nat.le_refl _) (lfi (s1 := (σ0, ω0)) (s2 := (σ, ω)) (fun u9 : St × (Nat → Int64) => wB γ h u9.1 ++ (wB γ g τ ++ (wS as9 (h 0) (g 0) an aq (ad 0) (ap 0) ++ (wN an (h 0) ν ++ (wR aq (h 0) ++ (wD γ ad δ ++ (wP γ ap π ++ (wO γ au u9.2 ++ (r))))))))) hR)
    · refine r_case hR (fun e9 hR => ?_) (fun e9 hR => ?_)
      · subst e9
        refine r_xV (mc := 1) (ms := 6) 5 52 [.int p2, .int p3] [.int (0 : Int32), .ref au] 2 (wB γ h σ ++ (wB γ g τ ++ (wS as9 (h 0) (g 0) an aq (ad 0) (ap 0) ++ (wN an (h 0) ν ++ (wR aq (h 0) ++ (wD γ ad δ ++ (wP γ ap π ++ (wO γ au ω ++ (r))))))))) K (ct_X9_depth hl (z := .inr 2) hc.symm) cs_L_19 ⟨rfl, rfl, rfl⟩ (dk_of tL_depth 5 rfl) rfl rfl rfl rfl rfl ⟨by decide, by decide⟩ ?_
        refine r_catch 5 K [⟨0, 10, 13, 13⟩] ⟨0, 10, 17, 15⟩ [⟨0, 10, 21, 17⟩] rfl (fun z hz => by rw [List.mem_singleton.mp hz]; exact ⟨by decide, 1, w344, List.mem_of_getElem? (i := 0) rfl⟩) rfl (by decide) w345 (List.mem_of_getElem? (i := 3) rfl) (fun q9 => ?_)
        refine r_astore 17 4 [some (.ref as9), some (.int p2), some (.int p3), some (.ref au), some (.ref q9)] K (dk_of tL_depth 12 rfl) rfl rfl (by decide) ?_
        refine r_iconst 19 (2 : Int32) K (dk_of tL_depth 13 rfl) (by decide) ?_
        exact r_iret 20 K hQ (dk_of tL_depth 14 rfl) (Nat.le_refl _) (Nat.le_refl _) (lfi (s1 := (σ0, ω0)) (s2 := (σ, ω)) (fun u9 : St × (Nat → Int64) => wB γ h u9.1 ++ (wB γ g τ ++ (wS as9 (h 0) (g 0) an aq (ad 0) (ap 0) ++ (wN an (h 0) ν ++ (wR aq (h 0) ++ (wD γ ad δ ++ (wP γ ap π ++ (wO γ au u9.2 ++ (r))))))))) hR)
      · refine r_case hR (fun e9 hR => ?_) (fun e9 hR => ?_)
        · subst e9
          refine r_xV (mc := 1) (ms := 6) 5 52 [.int p2, .int p3] [.int (0 : Int32), .ref au] 3 (wB γ h σ ++ (wB γ g τ ++ (wS as9 (h 0) (g 0) an aq (ad 0) (ap 0) ++ (wN an (h 0) ν ++ (wR aq (h 0) ++ (wD γ ad δ ++ (wP γ ap π ++ (wO γ au ω ++ (r))))))))) K (ct_X9_depth hl (z := .inr 3) hc.symm) cs_L_19 ⟨rfl, rfl, rfl⟩ (dk_of tL_depth 5 rfl) rfl rfl rfl rfl rfl ⟨by decide, by decide⟩ ?_
          refine r_catch 5 K [⟨0, 10, 13, 13⟩, ⟨0, 10, 17, 15⟩] ⟨0, 10, 21, 17⟩ [] rfl (fun z hz => by rcases List.mem_cons.mp hz with hz | hz; (rw [hz]; exact ⟨by decide, 1, w344, List.mem_of_getElem? (i := 1) rfl⟩); (rw [List.mem_singleton.mp hz]; exact ⟨by decide, 2, w345, List.mem_of_getElem? (i := 2) rfl⟩)) rfl (by decide) w346 (List.mem_of_getElem? (i := 4) rfl) (fun q9 => ?_)
          refine r_astore 21 4 [some (.ref as9), some (.int p2), some (.int p3), some (.ref au), some (.ref q9)] K (dk_of tL_depth 15 rfl) rfl rfl (by decide) ?_
          refine r_iconst 23 (3 : Int32) K (dk_of tL_depth 16 rfl) (by decide) ?_
          exact r_iret 24 K hQ (dk_of tL_depth 17 rfl) (Nat.le_refl _) (Nat.le_refl _) (lfi (s1 := (σ0, ω0)) (s2 := (σ, ω)) (fun u9 : St × (Nat → Int64) => wB γ h u9.1 ++ (wB γ g τ ++ (wS as9 (h 0) (g 0) an aq (ad 0) (ap 0) ++ (wN an (h 0) ν ++ (wR aq (h 0) ++ (wD γ ad δ ++ (wP γ ap π ++ (wO γ au u9.2 ++ (r))))))))) hR)
        · exact nn_ hR

def sp_L_wind (p2 : Int32) (p3 : Int32) (σ : St) (ω : (Nat → Int64)) : Option (Int32 × St × (Nat → Int64)) := bc2 (sp_X9_wind p2 p3 σ) (fun (x1 : Int32) (σ2 : St) => sl (vp_updL ω (0 : Int32).toNatClampNeg x1.toInt64) (fun ω3 : (Nat → Int64) => some ((0 : Int32), σ2, ω3))) (fun k9 => if k9 = 2 then (some ((1 : Int32), σ, ω)) else (none))
set_option maxHeartbeats 4000000 in
set_option maxRecDepth 100000 in
theorem ct_L_wind {l : Launch} (hl : l.stackTraces = false) {γ : Gd} {h : Nat → Nat} {g : Nat → Nat} {as9 : Nat} {an : Nat} {aq : Nat} {ad : Nat → Nat} {ap : Nat → Nat} {au : Nat} {σ : St} {τ : St} {ν : (Nat → Int32)} {δ : St} {π : (St × Int64)} {ω : (Nat → Int64)} {r : va_W} {p2 : Int32} {p3 : Int32} {x0 : Int32} {σ0 : St} {ω0 : (Nat → Int64)} (hR : some (x0, σ0, ω0) = sp_L_wind p2 p3 σ ω) : Ct l γ yL_wind (Cond.codeWith yL_wind cL_wind 5 (some .int) [(0, 10, 13, 15)]) ({ frames := 8, cells := 1, slots := 6, locals := 127 } : Room) [.ref as9, .int p2, .int p3, .ref au] (wB γ h σ ++ (wB γ g τ ++ (wS as9 (h 0) (g 0) an aq (ad 0) (ap 0) ++ (wN an (h 0) ν ++ (wR aq (h 0) ++ (wD γ ad δ ++ (wP γ ap π ++ (wO γ au ω ++ (r))))))))) (Pr (some (.int x0)) (wB γ h σ0 ++ (wB γ g τ ++ (wS as9 (h 0) (g 0) an aq (ad 0) (ap 0) ++ (wN an (h 0) ν ++ (wR aq (h 0) ++ (wD γ ad δ ++ (wP γ ap π ++ (wO γ au ω0 ++ (r)))))))))) 1 6 := by
  refine Ct_ofH hl (by decide +kernel) rfl (Nat.le_of_ble_eq_true rfl) (L := [some (.ref as9), some (.int p2), some (.int p3), some (.ref au), none]) rfl ?_
  intro X Q K hQ
  generalize ((wB γ h σ ++ (wB γ g τ ++ (wS as9 (h 0) (g 0) an aq (ad 0) (ap 0) ++ (wN an (h 0) ν ++ (wR aq (h 0) ++ (wD γ ad δ ++ (wP γ ap π ++ (wO γ au ω ++ (r)))))))), Q) : MX) = M at K hQ ⊢
  unfold sp_L_wind at hR
  refine r_aload_n 0 3 K (dk_of tL_wind 0 rfl) rfl rfl ?_
  refine r_iconst 1 (0 : Int32) K (dk_of tL_wind 1 rfl) (by decide) ?_
  refine r_aload_n 2 0 K (dk_of tL_wind 2 rfl) rfl rfl ?_
  refine r_iload_n 3 1 K (dk_of tL_wind 3 rfl) rfl rfl ?_
  refine r_iload_n 4 2 K (dk_of tL_wind 4 rfl) rfl rfl ?_
  rcases oc2 hR with ⟨x1, σ2, hc, hR⟩ | ⟨k9, hc, hR⟩
  · refine r_cVi 5 52 [.int p2, .int p3] [.int (0 : Int32), .ref au] x1 (wB γ h σ2 ++ (wB γ g τ ++ (wS as9 (h 0) (g 0) an aq (ad 0) (ap 0) ++ (wN an (h 0) ν ++ (wR aq (h 0) ++ (wD γ ad δ ++ (wP γ ap π ++ (wO γ au ω ++ (r))))))))) K (ct_X9_wind hl (z := .inl (x1, σ2)) hc.symm) cs_L_22 ⟨rfl, rfl, rfl⟩ (dk_of tL_wind 5 rfl) rfl rfl rfl rfl rfl rfl ?_
    refine r_i2l 8 K (dk_of tL_wind 6 rfl) ?_
    refine r_last 9 60 K (dk_of tL_wind 7 rfl) rfl (vpd (by decide)) sO_0_btsnqdpu ?_
    refine r_nmS (fun ω3 : (Nat → Int64) => wB γ h σ2 ++ (wB γ g τ ++ (wS as9 (h 0) (g 0) an aq (ad 0) (ap 0) ++ (wN an (h 0) ν ++ (wR aq (h 0) ++ (wD γ ad δ ++ (wP γ ap π ++ (wO γ au ω3 ++ (r))))))))) hR (fun ω3 hR => ?_)
    refine r_goto 10 17 K (dk_of tL_wind 8 rfl) (by decide) ?_
    refine r_iconst 17 (0 : Int32) K (dk_of tL_wind 12 rfl) (by decide) ?_
    exact r_iret 18 K hQ (dk_of tL_wind 13 rfl) (Nat.zero_le _) (Nat.zero_le _) (lfi (s1 := (σ0, ω0)) (s2 := (σ2, ω3)) (fun u9 : St × (Nat → Int64) => wB γ h u9.1 ++ (wB γ g τ ++ (wS as9 (h 0) (g 0) an aq (ad 0) (ap 0) ++ (wN an (h 0) ν ++ (wR aq (h 0) ++ (wD γ ad δ ++ (wP γ ap π ++ (wO γ au u9.2 ++ (r))))))))) hR)
  · refine r_case hR (fun e9 hR => ?_) (fun e9 hR => ?_)
    · subst e9
      refine r_xV (mc := 1) (ms := 6) 5 52 [.int p2, .int p3] [.int (0 : Int32), .ref au] 2 (wB γ h σ ++ (wB γ g τ ++ (wS as9 (h 0) (g 0) an aq (ad 0) (ap 0) ++ (wN an (h 0) ν ++ (wR aq (h 0) ++ (wD γ ad δ ++ (wP γ ap π ++ (wO γ au ω ++ (r))))))))) K (ct_X9_wind hl (z := .inr 2) hc.symm) cs_L_22 ⟨rfl, rfl, rfl⟩ (dk_of tL_wind 5 rfl) rfl rfl rfl rfl rfl ⟨by decide, by decide⟩ ?_
      refine r_catch 5 K [] ⟨0, 10, 13, 15⟩ [] rfl (fun z hz => by cases hz) rfl (by decide) w345 (List.mem_of_getElem? (i := 3) rfl) (fun q9 => ?_)
      refine r_astore 13 4 [some (.ref as9), some (.int p2), some (.int p3), some (.ref au), some (.ref q9)] K (dk_of tL_wind 9 rfl) rfl rfl (by decide) ?_
      refine r_iconst 15 (1 : Int32) K (dk_of tL_wind 10 rfl) (by decide) ?_
      exact r_iret 16 K hQ (dk_of tL_wind 11 rfl) (Nat.le_refl _) (Nat.le_refl _) (lfi (s1 := (σ0, ω0)) (s2 := (σ, ω)) (fun u9 : St × (Nat → Int64) => wB γ h u9.1 ++ (wB γ g τ ++ (wS as9 (h 0) (g 0) an aq (ad 0) (ap 0) ++ (wN an (h 0) ν ++ (wR aq (h 0) ++ (wD γ ad δ ++ (wP γ ap π ++ (wO γ au u9.2 ++ (r))))))))) hR)
    · exact nn_ hR

def sp_L_ship (p2 : Int32) (p3 : Int32) (σ : St) (ω : (Nat → Int64)) : Option (Int32 × St × (Nat → Int64)) := bc2 (sp_X9_ship p2 p3 σ) (fun (x1 : Int32) (σ2 : St) => sl (vp_updL ω (0 : Int32).toNatClampNeg x1.toInt64) (fun ω3 : (Nat → Int64) => some ((0 : Int32), σ2, ω3))) (fun k9 => if k9 = 1 then (some ((1 : Int32), σ, ω)) else (if k9 = 2 then (some ((2 : Int32), σ, ω)) else (if k9 = 3 then (some ((3 : Int32), σ, ω)) else (none))))
set_option maxHeartbeats 4000000 in
set_option maxRecDepth 100000 in
theorem ct_L_ship {l : Launch} (hl : l.stackTraces = false) {γ : Gd} {h : Nat → Nat} {g : Nat → Nat} {as9 : Nat} {an : Nat} {aq : Nat} {ad : Nat → Nat} {ap : Nat → Nat} {au : Nat} {σ : St} {τ : St} {ν : (Nat → Int32)} {δ : St} {π : (St × Int64)} {ω : (Nat → Int64)} {r : va_W} {p2 : Int32} {p3 : Int32} {x0 : Int32} {σ0 : St} {ω0 : (Nat → Int64)} (hR : some (x0, σ0, ω0) = sp_L_ship p2 p3 σ ω) : Ct l γ yL_ship (Cond.codeWith yL_ship cL_ship 5 (some .int) [(0, 10, 13, 13), (0, 10, 17, 15), (0, 10, 21, 17)]) ({ frames := 8, cells := 1, slots := 6, locals := 126 } : Room) [.ref as9, .int p2, .int p3, .ref au] (wB γ h σ ++ (wB γ g τ ++ (wS as9 (h 0) (g 0) an aq (ad 0) (ap 0) ++ (wN an (h 0) ν ++ (wR aq (h 0) ++ (wD γ ad δ ++ (wP γ ap π ++ (wO γ au ω ++ (r))))))))) (Pr (some (.int x0)) (wB γ h σ0 ++ (wB γ g τ ++ (wS as9 (h 0) (g 0) an aq (ad 0) (ap 0) ++ (wN an (h 0) ν ++ (wR aq (h 0) ++ (wD γ ad δ ++ (wP γ ap π ++ (wO γ au ω0 ++ (r)))))))))) 1 6 := by
  refine Ct_ofH hl (by decide +kernel) rfl (Nat.le_of_ble_eq_true rfl) (L := [some (.ref as9), some (.int p2), some (.int p3), some (.ref au), none]) rfl ?_
  intro X Q K hQ
  generalize ((wB γ h σ ++ (wB γ g τ ++ (wS as9 (h 0) (g 0) an aq (ad 0) (ap 0) ++ (wN an (h 0) ν ++ (wR aq (h 0) ++ (wD γ ad δ ++ (wP γ ap π ++ (wO γ au ω ++ (r)))))))), Q) : MX) = M at K hQ ⊢
  unfold sp_L_ship at hR
  refine r_aload_n 0 3 K (dk_of tL_ship 0 rfl) rfl rfl ?_
  refine r_iconst 1 (0 : Int32) K (dk_of tL_ship 1 rfl) (by decide) ?_
  refine r_aload_n 2 0 K (dk_of tL_ship 2 rfl) rfl rfl ?_
  refine r_iload_n 3 1 K (dk_of tL_ship 3 rfl) rfl rfl ?_
  refine r_iload_n 4 2 K (dk_of tL_ship 4 rfl) rfl rfl ?_
  rcases oc2 hR with ⟨x1, σ2, hc, hR⟩ | ⟨k9, hc, hR⟩
  · refine r_cVi 5 52 [.int p2, .int p3] [.int (0 : Int32), .ref au] x1 (wB γ h σ2 ++ (wB γ g τ ++ (wS as9 (h 0) (g 0) an aq (ad 0) (ap 0) ++ (wN an (h 0) ν ++ (wR aq (h 0) ++ (wD γ ad δ ++ (wP γ ap π ++ (wO γ au ω ++ (r))))))))) K (ct_X9_ship hl (z := .inl (x1, σ2)) hc.symm) cs_L_25 ⟨rfl, rfl, rfl⟩ (dk_of tL_ship 5 rfl) rfl rfl rfl rfl rfl rfl ?_
    refine r_i2l 8 K (dk_of tL_ship 6 rfl) ?_
    refine r_last 9 60 K (dk_of tL_ship 7 rfl) rfl (vpd (by decide)) sO_0_btsnqdpu ?_
    refine r_nmS (fun ω3 : (Nat → Int64) => wB γ h σ2 ++ (wB γ g τ ++ (wS as9 (h 0) (g 0) an aq (ad 0) (ap 0) ++ (wN an (h 0) ν ++ (wR aq (h 0) ++ (wD γ ad δ ++ (wP γ ap π ++ (wO γ au ω3 ++ (r))))))))) hR (fun ω3 hR => ?_)
    refine r_goto 10 25 K (dk_of tL_ship 8 rfl) (by decide) ?_
    refine r_iconst 25 (0 : Int32) K (dk_of tL_ship 18 rfl) (by decide) ?_
    exact r_iret 26 K hQ (dk_of tL_ship 19 rfl) (Nat.zero_le _) (Nat.zero_le _) (lfi (s1 := (σ0, ω0)) (s2 := (σ2, ω3)) (fun u9 : St × (Nat → Int64) => wB γ h u9.1 ++ (wB γ g τ ++ (wS as9 (h 0) (g 0) an aq (ad 0) (ap 0) ++ (wN an (h 0) ν ++ (wR aq (h 0) ++ (wD γ ad δ ++ (wP γ ap π ++ (wO γ au u9.2 ++ (r))))))))) hR)
  · refine r_case hR (fun e9 hR => ?_) (fun e9 hR => ?_)
    · subst e9
      refine r_xV (mc := 1) (ms := 6) 5 52 [.int p2, .int p3] [.int (0 : Int32), .ref au] 1 (wB γ h σ ++ (wB γ g τ ++ (wS as9 (h 0) (g 0) an aq (ad 0) (ap 0) ++ (wN an (h 0) ν ++ (wR aq (h 0) ++ (wD γ ad δ ++ (wP γ ap π ++ (wO γ au ω ++ (r))))))))) K (ct_X9_ship hl (z := .inr 1) hc.symm) cs_L_25 ⟨rfl, rfl, rfl⟩ (dk_of tL_ship 5 rfl) rfl rfl rfl rfl rfl ⟨by decide, by decide⟩ ?_
      refine r_catch 5 K [] ⟨0, 10, 13, 13⟩ [⟨0, 10, 17, 15⟩, ⟨0, 10, 21, 17⟩] rfl (fun z hz => by cases hz) rfl (by decide) w344 (List.mem_of_getElem? (i := 2) rfl) (fun q9 => ?_)
      refine r_astore 13 4 [some (.ref as9), some (.int p2), some (.int p3), some (.ref au), some (.ref q9)] K (dk_of tL_ship 9 rfl) rfl rfl (by decide) ?_
      refine r_iconst 15 (1 : Int32) K (dk_of tL_ship 10 rfl) (by decide) ?_
      exact r_iret 16 K hQ (dk_of tL_ship 11 rfl) (Nat.le_refl _) (Nat.le_refl _) (lfi (s1 := (σ0, ω0)) (s2 := (σ, ω)) (fun u9 : St × (Nat → Int64) => wB γ h u9.1 ++ (wB γ g τ ++ (wS as9 (h 0) (g 0) an aq (ad 0) (ap 0) ++ (wN an (h 0) ν ++ (wR aq (h 0) ++ (wD γ ad δ ++ (wP γ ap π ++ (wO γ au u9.2 ++ (r))))))))) hR)
    · refine r_case hR (fun e9 hR => ?_) (fun e9 hR => ?_)
      · subst e9
        refine r_xV (mc := 1) (ms := 6) 5 52 [.int p2, .int p3] [.int (0 : Int32), .ref au] 2 (wB γ h σ ++ (wB γ g τ ++ (wS as9 (h 0) (g 0) an aq (ad 0) (ap 0) ++ (wN an (h 0) ν ++ (wR aq (h 0) ++ (wD γ ad δ ++ (wP γ ap π ++ (wO γ au ω ++ (r))))))))) K (ct_X9_ship hl (z := .inr 2) hc.symm) cs_L_25 ⟨rfl, rfl, rfl⟩ (dk_of tL_ship 5 rfl) rfl rfl rfl rfl rfl ⟨by decide, by decide⟩ ?_
        refine r_catch 5 K [⟨0, 10, 13, 13⟩] ⟨0, 10, 17, 15⟩ [⟨0, 10, 21, 17⟩] rfl (fun z hz => by rw [List.mem_singleton.mp hz]; exact ⟨by decide, 1, w344, List.mem_of_getElem? (i := 0) rfl⟩) rfl (by decide) w345 (List.mem_of_getElem? (i := 3) rfl) (fun q9 => ?_)
        refine r_astore 17 4 [some (.ref as9), some (.int p2), some (.int p3), some (.ref au), some (.ref q9)] K (dk_of tL_ship 12 rfl) rfl rfl (by decide) ?_
        refine r_iconst 19 (2 : Int32) K (dk_of tL_ship 13 rfl) (by decide) ?_
        exact r_iret 20 K hQ (dk_of tL_ship 14 rfl) (Nat.le_refl _) (Nat.le_refl _) (lfi (s1 := (σ0, ω0)) (s2 := (σ, ω)) (fun u9 : St × (Nat → Int64) => wB γ h u9.1 ++ (wB γ g τ ++ (wS as9 (h 0) (g 0) an aq (ad 0) (ap 0) ++ (wN an (h 0) ν ++ (wR aq (h 0) ++ (wD γ ad δ ++ (wP γ ap π ++ (wO γ au u9.2 ++ (r))))))))) hR)
      · refine r_case hR (fun e9 hR => ?_) (fun e9 hR => ?_)
        · subst e9
          refine r_xV (mc := 1) (ms := 6) 5 52 [.int p2, .int p3] [.int (0 : Int32), .ref au] 3 (wB γ h σ ++ (wB γ g τ ++ (wS as9 (h 0) (g 0) an aq (ad 0) (ap 0) ++ (wN an (h 0) ν ++ (wR aq (h 0) ++ (wD γ ad δ ++ (wP γ ap π ++ (wO γ au ω ++ (r))))))))) K (ct_X9_ship hl (z := .inr 3) hc.symm) cs_L_25 ⟨rfl, rfl, rfl⟩ (dk_of tL_ship 5 rfl) rfl rfl rfl rfl rfl ⟨by decide, by decide⟩ ?_
          refine r_catch 5 K [⟨0, 10, 13, 13⟩, ⟨0, 10, 17, 15⟩] ⟨0, 10, 21, 17⟩ [] rfl (fun z hz => by rcases List.mem_cons.mp hz with hz | hz; (rw [hz]; exact ⟨by decide, 1, w344, List.mem_of_getElem? (i := 1) rfl⟩); (rw [List.mem_singleton.mp hz]; exact ⟨by decide, 2, w345, List.mem_of_getElem? (i := 2) rfl⟩)) rfl (by decide) w346 (List.mem_of_getElem? (i := 4) rfl) (fun q9 => ?_)
          refine r_astore 21 4 [some (.ref as9), some (.int p2), some (.int p3), some (.ref au), some (.ref q9)] K (dk_of tL_ship 15 rfl) rfl rfl (by decide) ?_
          refine r_iconst 23 (3 : Int32) K (dk_of tL_ship 16 rfl) (by decide) ?_
          exact r_iret 24 K hQ (dk_of tL_ship 17 rfl) (Nat.le_refl _) (Nat.le_refl _) (lfi (s1 := (σ0, ω0)) (s2 := (σ, ω)) (fun u9 : St × (Nat → Int64) => wB γ h u9.1 ++ (wB γ g τ ++ (wS as9 (h 0) (g 0) an aq (ad 0) (ap 0) ++ (wN an (h 0) ν ++ (wR aq (h 0) ++ (wD γ ad δ ++ (wP γ ap π ++ (wO γ au u9.2 ++ (r))))))))) hR)
        · exact nn_ hR

def sp_L_hole (p2 : Int32) (p3 : Int32) (σ : St) (ω : (Nat → Int64)) : Option (Int32 × St × (Nat → Int64)) := bc2 (sp_X9_hole p2 p3 σ) (fun (x1 : Int32) (σ2 : St) => sl (vp_updL ω (0 : Int32).toNatClampNeg x1.toInt64) (fun ω3 : (Nat → Int64) => some ((0 : Int32), σ2, ω3))) (fun k9 => if k9 = 1 then (some ((1 : Int32), σ, ω)) else (if k9 = 2 then (some ((2 : Int32), σ, ω)) else (none)))
set_option maxHeartbeats 4000000 in
set_option maxRecDepth 100000 in
theorem ct_L_hole {l : Launch} (hl : l.stackTraces = false) {γ : Gd} {h : Nat → Nat} {g : Nat → Nat} {as9 : Nat} {an : Nat} {aq : Nat} {ad : Nat → Nat} {ap : Nat → Nat} {au : Nat} {σ : St} {τ : St} {ν : (Nat → Int32)} {δ : St} {π : (St × Int64)} {ω : (Nat → Int64)} {r : va_W} {p2 : Int32} {p3 : Int32} {x0 : Int32} {σ0 : St} {ω0 : (Nat → Int64)} (hR : some (x0, σ0, ω0) = sp_L_hole p2 p3 σ ω) : Ct l γ yL_hole (Cond.codeWith yL_hole cL_hole 5 (some .int) [(0, 10, 13, 13), (0, 10, 17, 15)]) ({ frames := 8, cells := 1, slots := 6, locals := 127 } : Room) [.ref as9, .int p2, .int p3, .ref au] (wB γ h σ ++ (wB γ g τ ++ (wS as9 (h 0) (g 0) an aq (ad 0) (ap 0) ++ (wN an (h 0) ν ++ (wR aq (h 0) ++ (wD γ ad δ ++ (wP γ ap π ++ (wO γ au ω ++ (r))))))))) (Pr (some (.int x0)) (wB γ h σ0 ++ (wB γ g τ ++ (wS as9 (h 0) (g 0) an aq (ad 0) (ap 0) ++ (wN an (h 0) ν ++ (wR aq (h 0) ++ (wD γ ad δ ++ (wP γ ap π ++ (wO γ au ω0 ++ (r)))))))))) 1 6 := by
  refine Ct_ofH hl (by decide +kernel) rfl (Nat.le_of_ble_eq_true rfl) (L := [some (.ref as9), some (.int p2), some (.int p3), some (.ref au), none]) rfl ?_
  intro X Q K hQ
  generalize ((wB γ h σ ++ (wB γ g τ ++ (wS as9 (h 0) (g 0) an aq (ad 0) (ap 0) ++ (wN an (h 0) ν ++ (wR aq (h 0) ++ (wD γ ad δ ++ (wP γ ap π ++ (wO γ au ω ++ (r)))))))), Q) : MX) = M at K hQ ⊢
  unfold sp_L_hole at hR
  refine r_aload_n 0 3 K (dk_of tL_hole 0 rfl) rfl rfl ?_
  refine r_iconst 1 (0 : Int32) K (dk_of tL_hole 1 rfl) (by decide) ?_
  refine r_aload_n 2 0 K (dk_of tL_hole 2 rfl) rfl rfl ?_
  refine r_iload_n 3 1 K (dk_of tL_hole 3 rfl) rfl rfl ?_
  refine r_iload_n 4 2 K (dk_of tL_hole 4 rfl) rfl rfl ?_
  rcases oc2 hR with ⟨x1, σ2, hc, hR⟩ | ⟨k9, hc, hR⟩
  · refine r_cVi 5 52 [.int p2, .int p3] [.int (0 : Int32), .ref au] x1 (wB γ h σ2 ++ (wB γ g τ ++ (wS as9 (h 0) (g 0) an aq (ad 0) (ap 0) ++ (wN an (h 0) ν ++ (wR aq (h 0) ++ (wD γ ad δ ++ (wP γ ap π ++ (wO γ au ω ++ (r))))))))) K (ct_X9_hole hl (z := .inl (x1, σ2)) hc.symm) cs_L_28 ⟨rfl, rfl, rfl⟩ (dk_of tL_hole 5 rfl) rfl rfl rfl rfl rfl rfl ?_
    refine r_i2l 8 K (dk_of tL_hole 6 rfl) ?_
    refine r_last 9 60 K (dk_of tL_hole 7 rfl) rfl (vpd (by decide)) sO_0_btsnqdpu ?_
    refine r_nmS (fun ω3 : (Nat → Int64) => wB γ h σ2 ++ (wB γ g τ ++ (wS as9 (h 0) (g 0) an aq (ad 0) (ap 0) ++ (wN an (h 0) ν ++ (wR aq (h 0) ++ (wD γ ad δ ++ (wP γ ap π ++ (wO γ au ω3 ++ (r))))))))) hR (fun ω3 hR => ?_)
    refine r_goto 10 21 K (dk_of tL_hole 8 rfl) (by decide) ?_
    refine r_iconst 21 (0 : Int32) K (dk_of tL_hole 15 rfl) (by decide) ?_
    exact r_iret 22 K hQ (dk_of tL_hole 16 rfl) (Nat.zero_le _) (Nat.zero_le _) (lfi (s1 := (σ0, ω0)) (s2 := (σ2, ω3)) (fun u9 : St × (Nat → Int64) => wB γ h u9.1 ++ (wB γ g τ ++ (wS as9 (h 0) (g 0) an aq (ad 0) (ap 0) ++ (wN an (h 0) ν ++ (wR aq (h 0) ++ (wD γ ad δ ++ (wP γ ap π ++ (wO γ au u9.2 ++ (r))))))))) hR)
  · refine r_case hR (fun e9 hR => ?_) (fun e9 hR => ?_)
    · subst e9
      refine r_xV (mc := 1) (ms := 6) 5 52 [.int p2, .int p3] [.int (0 : Int32), .ref au] 1 (wB γ h σ ++ (wB γ g τ ++ (wS as9 (h 0) (g 0) an aq (ad 0) (ap 0) ++ (wN an (h 0) ν ++ (wR aq (h 0) ++ (wD γ ad δ ++ (wP γ ap π ++ (wO γ au ω ++ (r))))))))) K (ct_X9_hole hl (z := .inr 1) hc.symm) cs_L_28 ⟨rfl, rfl, rfl⟩ (dk_of tL_hole 5 rfl) rfl rfl rfl rfl rfl ⟨by decide, by decide⟩ ?_
      refine r_catch 5 K [] ⟨0, 10, 13, 13⟩ [⟨0, 10, 17, 15⟩] rfl (fun z hz => by cases hz) rfl (by decide) w344 (List.mem_of_getElem? (i := 2) rfl) (fun q9 => ?_)
      refine r_astore 13 4 [some (.ref as9), some (.int p2), some (.int p3), some (.ref au), some (.ref q9)] K (dk_of tL_hole 9 rfl) rfl rfl (by decide) ?_
      refine r_iconst 15 (1 : Int32) K (dk_of tL_hole 10 rfl) (by decide) ?_
      exact r_iret 16 K hQ (dk_of tL_hole 11 rfl) (Nat.le_refl _) (Nat.le_refl _) (lfi (s1 := (σ0, ω0)) (s2 := (σ, ω)) (fun u9 : St × (Nat → Int64) => wB γ h u9.1 ++ (wB γ g τ ++ (wS as9 (h 0) (g 0) an aq (ad 0) (ap 0) ++ (wN an (h 0) ν ++ (wR aq (h 0) ++ (wD γ ad δ ++ (wP γ ap π ++ (wO γ au u9.2 ++ (r))))))))) hR)
    · refine r_case hR (fun e9 hR => ?_) (fun e9 hR => ?_)
      · subst e9
        refine r_xV (mc := 1) (ms := 6) 5 52 [.int p2, .int p3] [.int (0 : Int32), .ref au] 2 (wB γ h σ ++ (wB γ g τ ++ (wS as9 (h 0) (g 0) an aq (ad 0) (ap 0) ++ (wN an (h 0) ν ++ (wR aq (h 0) ++ (wD γ ad δ ++ (wP γ ap π ++ (wO γ au ω ++ (r))))))))) K (ct_X9_hole hl (z := .inr 2) hc.symm) cs_L_28 ⟨rfl, rfl, rfl⟩ (dk_of tL_hole 5 rfl) rfl rfl rfl rfl rfl ⟨by decide, by decide⟩ ?_
        refine r_catch 5 K [⟨0, 10, 13, 13⟩] ⟨0, 10, 17, 15⟩ [] rfl (fun z hz => by rw [List.mem_singleton.mp hz]; exact ⟨by decide, 1, w344, List.mem_of_getElem? (i := 0) rfl⟩) rfl (by decide) w345 (List.mem_of_getElem? (i := 3) rfl) (fun q9 => ?_)
        refine r_astore 17 4 [some (.ref as9), some (.int p2), some (.int p3), some (.ref au), some (.ref q9)] K (dk_of tL_hole 12 rfl) rfl rfl (by decide) ?_
        refine r_iconst 19 (2 : Int32) K (dk_of tL_hole 13 rfl) (by decide) ?_
        exact r_iret 20 K hQ (dk_of tL_hole 14 rfl) (Nat.le_refl _) (Nat.le_refl _) (lfi (s1 := (σ0, ω0)) (s2 := (σ, ω)) (fun u9 : St × (Nat → Int64) => wB γ h u9.1 ++ (wB γ g τ ++ (wS as9 (h 0) (g 0) an aq (ad 0) (ap 0) ++ (wN an (h 0) ν ++ (wR aq (h 0) ++ (wD γ ad δ ++ (wP γ ap π ++ (wO γ au u9.2 ++ (r))))))))) hR)
      · exact nn_ hR

def sp_L_pump (p2 : Int32) (p3 : Int32) (p4 : Int32) (σ : St) (ω : (Nat → Int64)) : Option (Int32 × St × (Nat → Int64)) := bc2 (sp_X9_pump p2 p3 p4 σ) (fun (x1 : Int32) (σ2 : St) => sl (vp_updL ω (0 : Int32).toNatClampNeg x1.toInt64) (fun ω3 : (Nat → Int64) => some ((0 : Int32), σ2, ω3))) (fun k9 => if k9 = 1 then (some ((1 : Int32), σ, ω)) else (if k9 = 2 then (some ((2 : Int32), σ, ω)) else (if k9 = 3 then (some ((3 : Int32), σ, ω)) else (none))))
set_option maxHeartbeats 4000000 in
set_option maxRecDepth 100000 in
theorem ct_L_pump {l : Launch} (hl : l.stackTraces = false) {γ : Gd} {h : Nat → Nat} {g : Nat → Nat} {as9 : Nat} {an : Nat} {aq : Nat} {ad : Nat → Nat} {ap : Nat → Nat} {au : Nat} {σ : St} {τ : St} {ν : (Nat → Int32)} {δ : St} {π : (St × Int64)} {ω : (Nat → Int64)} {r : va_W} {p2 : Int32} {p3 : Int32} {p4 : Int32} {x0 : Int32} {σ0 : St} {ω0 : (Nat → Int64)} (hR : some (x0, σ0, ω0) = sp_L_pump p2 p3 p4 σ ω) : Ct l γ yL_pump (Cond.codeWith yL_pump cL_pump 6 (some .int) [(0, 12, 15, 13), (0, 12, 19, 15), (0, 12, 23, 17)]) ({ frames := 8, cells := 1, slots := 6, locals := 128 } : Room) [.ref as9, .int p2, .int p3, .int p4, .ref au] (wB γ h σ ++ (wB γ g τ ++ (wS as9 (h 0) (g 0) an aq (ad 0) (ap 0) ++ (wN an (h 0) ν ++ (wR aq (h 0) ++ (wD γ ad δ ++ (wP γ ap π ++ (wO γ au ω ++ (r))))))))) (Pr (some (.int x0)) (wB γ h σ0 ++ (wB γ g τ ++ (wS as9 (h 0) (g 0) an aq (ad 0) (ap 0) ++ (wN an (h 0) ν ++ (wR aq (h 0) ++ (wD γ ad δ ++ (wP γ ap π ++ (wO γ au ω0 ++ (r)))))))))) 1 6 := by
  refine Ct_ofH hl (by decide +kernel) rfl (Nat.le_of_ble_eq_true rfl) (L := [some (.ref as9), some (.int p2), some (.int p3), some (.int p4), some (.ref au), none]) rfl ?_
  intro X Q K hQ
  generalize ((wB γ h σ ++ (wB γ g τ ++ (wS as9 (h 0) (g 0) an aq (ad 0) (ap 0) ++ (wN an (h 0) ν ++ (wR aq (h 0) ++ (wD γ ad δ ++ (wP γ ap π ++ (wO γ au ω ++ (r)))))))), Q) : MX) = M at K hQ ⊢
  unfold sp_L_pump at hR
  refine r_aload 0 4 K (dk_of tL_pump 0 rfl) rfl ?_
  refine r_iconst 2 (0 : Int32) K (dk_of tL_pump 1 rfl) (by decide) ?_
  refine r_aload_n 3 0 K (dk_of tL_pump 2 rfl) rfl rfl ?_
  refine r_iload_n 4 1 K (dk_of tL_pump 3 rfl) rfl rfl ?_
  refine r_iload_n 5 2 K (dk_of tL_pump 4 rfl) rfl rfl ?_
  refine r_iload_n 6 3 K (dk_of tL_pump 5 rfl) rfl rfl ?_
  rcases oc2 hR with ⟨x1, σ2, hc, hR⟩ | ⟨k9, hc, hR⟩
  · refine r_cVi 7 52 [.int p2, .int p3, .int p4] [.int (0 : Int32), .ref au] x1 (wB γ h σ2 ++ (wB γ g τ ++ (wS as9 (h 0) (g 0) an aq (ad 0) (ap 0) ++ (wN an (h 0) ν ++ (wR aq (h 0) ++ (wD γ ad δ ++ (wP γ ap π ++ (wO γ au ω ++ (r))))))))) K (ct_X9_pump hl (z := .inl (x1, σ2)) hc.symm) cs_L_31 ⟨rfl, rfl, rfl⟩ (dk_of tL_pump 6 rfl) rfl rfl rfl rfl rfl rfl ?_
    refine r_i2l 10 K (dk_of tL_pump 7 rfl) ?_
    refine r_last 11 60 K (dk_of tL_pump 8 rfl) rfl (vpd (by decide)) sO_0_btsnqdpu ?_
    refine r_nmS (fun ω3 : (Nat → Int64) => wB γ h σ2 ++ (wB γ g τ ++ (wS as9 (h 0) (g 0) an aq (ad 0) (ap 0) ++ (wN an (h 0) ν ++ (wR aq (h 0) ++ (wD γ ad δ ++ (wP γ ap π ++ (wO γ au ω3 ++ (r))))))))) hR (fun ω3 hR => ?_)
    refine r_goto 12 27 K (dk_of tL_pump 9 rfl) (by decide) ?_
    refine r_iconst 27 (0 : Int32) K (dk_of tL_pump 19 rfl) (by decide) ?_
    exact r_iret 28 K hQ (dk_of tL_pump 20 rfl) (Nat.zero_le _) (Nat.zero_le _) (lfi (s1 := (σ0, ω0)) (s2 := (σ2, ω3)) (fun u9 : St × (Nat → Int64) => wB γ h u9.1 ++ (wB γ g τ ++ (wS as9 (h 0) (g 0) an aq (ad 0) (ap 0) ++ (wN an (h 0) ν ++ (wR aq (h 0) ++ (wD γ ad δ ++ (wP γ ap π ++ (wO γ au u9.2 ++ (r))))))))) hR)
  · refine r_case hR (fun e9 hR => ?_) (fun e9 hR => ?_)
    · subst e9
      refine r_xV (mc := 1) (ms := 6) 7 52 [.int p2, .int p3, .int p4] [.int (0 : Int32), .ref au] 1 (wB γ h σ ++ (wB γ g τ ++ (wS as9 (h 0) (g 0) an aq (ad 0) (ap 0) ++ (wN an (h 0) ν ++ (wR aq (h 0) ++ (wD γ ad δ ++ (wP γ ap π ++ (wO γ au ω ++ (r))))))))) K (ct_X9_pump hl (z := .inr 1) hc.symm) cs_L_31 ⟨rfl, rfl, rfl⟩ (dk_of tL_pump 6 rfl) rfl rfl rfl rfl rfl ⟨by decide, by decide⟩ ?_
      refine r_catch 7 K [] ⟨0, 12, 15, 13⟩ [⟨0, 12, 19, 15⟩, ⟨0, 12, 23, 17⟩] rfl (fun z hz => by cases hz) rfl (by decide) w344 (List.mem_of_getElem? (i := 2) rfl) (fun q9 => ?_)
      refine r_astore 15 5 [some (.ref as9), some (.int p2), some (.int p3), some (.int p4), some (.ref au), some (.ref q9)] K (dk_of tL_pump 10 rfl) rfl rfl (by decide) ?_
      refine r_iconst 17 (1 : Int32) K (dk_of tL_pump 11 rfl) (by decide) ?_
      exact r_iret 18 K hQ (dk_of tL_pump 12 rfl) (Nat.le_refl _) (Nat.le_refl _) (lfi (s1 := (σ0, ω0)) (s2 := (σ, ω)) (fun u9 : St × (Nat → Int64) => wB γ h u9.1 ++ (wB γ g τ ++ (wS as9 (h 0) (g 0) an aq (ad 0) (ap 0) ++ (wN an (h 0) ν ++ (wR aq (h 0) ++ (wD γ ad δ ++ (wP γ ap π ++ (wO γ au u9.2 ++ (r))))))))) hR)
    · refine r_case hR (fun e9 hR => ?_) (fun e9 hR => ?_)
      · subst e9
        refine r_xV (mc := 1) (ms := 6) 7 52 [.int p2, .int p3, .int p4] [.int (0 : Int32), .ref au] 2 (wB γ h σ ++ (wB γ g τ ++ (wS as9 (h 0) (g 0) an aq (ad 0) (ap 0) ++ (wN an (h 0) ν ++ (wR aq (h 0) ++ (wD γ ad δ ++ (wP γ ap π ++ (wO γ au ω ++ (r))))))))) K (ct_X9_pump hl (z := .inr 2) hc.symm) cs_L_31 ⟨rfl, rfl, rfl⟩ (dk_of tL_pump 6 rfl) rfl rfl rfl rfl rfl ⟨by decide, by decide⟩ ?_
        refine r_catch 7 K [⟨0, 12, 15, 13⟩] ⟨0, 12, 19, 15⟩ [⟨0, 12, 23, 17⟩] rfl (fun z hz => by rw [List.mem_singleton.mp hz]; exact ⟨by decide, 1, w344, List.mem_of_getElem? (i := 0) rfl⟩) rfl (by decide) w345 (List.mem_of_getElem? (i := 3) rfl) (fun q9 => ?_)
        refine r_astore 19 5 [some (.ref as9), some (.int p2), some (.int p3), some (.int p4), some (.ref au), some (.ref q9)] K (dk_of tL_pump 13 rfl) rfl rfl (by decide) ?_
        refine r_iconst 21 (2 : Int32) K (dk_of tL_pump 14 rfl) (by decide) ?_
        exact r_iret 22 K hQ (dk_of tL_pump 15 rfl) (Nat.le_refl _) (Nat.le_refl _) (lfi (s1 := (σ0, ω0)) (s2 := (σ, ω)) (fun u9 : St × (Nat → Int64) => wB γ h u9.1 ++ (wB γ g τ ++ (wS as9 (h 0) (g 0) an aq (ad 0) (ap 0) ++ (wN an (h 0) ν ++ (wR aq (h 0) ++ (wD γ ad δ ++ (wP γ ap π ++ (wO γ au u9.2 ++ (r))))))))) hR)
      · refine r_case hR (fun e9 hR => ?_) (fun e9 hR => ?_)
        · subst e9
          refine r_xV (mc := 1) (ms := 6) 7 52 [.int p2, .int p3, .int p4] [.int (0 : Int32), .ref au] 3 (wB γ h σ ++ (wB γ g τ ++ (wS as9 (h 0) (g 0) an aq (ad 0) (ap 0) ++ (wN an (h 0) ν ++ (wR aq (h 0) ++ (wD γ ad δ ++ (wP γ ap π ++ (wO γ au ω ++ (r))))))))) K (ct_X9_pump hl (z := .inr 3) hc.symm) cs_L_31 ⟨rfl, rfl, rfl⟩ (dk_of tL_pump 6 rfl) rfl rfl rfl rfl rfl ⟨by decide, by decide⟩ ?_
          refine r_catch 7 K [⟨0, 12, 15, 13⟩, ⟨0, 12, 19, 15⟩] ⟨0, 12, 23, 17⟩ [] rfl (fun z hz => by rcases List.mem_cons.mp hz with hz | hz; (rw [hz]; exact ⟨by decide, 1, w344, List.mem_of_getElem? (i := 1) rfl⟩); (rw [List.mem_singleton.mp hz]; exact ⟨by decide, 2, w345, List.mem_of_getElem? (i := 2) rfl⟩)) rfl (by decide) w346 (List.mem_of_getElem? (i := 4) rfl) (fun q9 => ?_)
          refine r_astore 23 5 [some (.ref as9), some (.int p2), some (.int p3), some (.int p4), some (.ref au), some (.ref q9)] K (dk_of tL_pump 16 rfl) rfl rfl (by decide) ?_
          refine r_iconst 25 (3 : Int32) K (dk_of tL_pump 17 rfl) (by decide) ?_
          exact r_iret 26 K hQ (dk_of tL_pump 18 rfl) (Nat.le_refl _) (Nat.le_refl _) (lfi (s1 := (σ0, ω0)) (s2 := (σ, ω)) (fun u9 : St × (Nat → Int64) => wB γ h u9.1 ++ (wB γ g τ ++ (wS as9 (h 0) (g 0) an aq (ad 0) (ap 0) ++ (wN an (h 0) ν ++ (wR aq (h 0) ++ (wD γ ad δ ++ (wP γ ap π ++ (wO γ au u9.2 ++ (r))))))))) hR)
        · exact nn_ hR

def sp_L_shipHas (p2 : Int32) (σ : St) (ω : (Nat → Int64)) : Option (Int32 × (Nat → Int64)) := bc1 (sp_X9_shipHas p2 σ) (fun (x1 : Int32) => sl (vp_updL ω (0 : Int32).toNatClampNeg x1.toInt64) (fun ω2 : (Nat → Int64) => some ((0 : Int32), ω2))) (fun k9 => if k9 = 1 then (some ((1 : Int32), ω)) else (none))
set_option maxHeartbeats 4000000 in
set_option maxRecDepth 100000 in
theorem ct_L_shipHas {l : Launch} (hl : l.stackTraces = false) {γ : Gd} {h : Nat → Nat} {g : Nat → Nat} {as9 : Nat} {an : Nat} {aq : Nat} {ad : Nat → Nat} {ap : Nat → Nat} {au : Nat} {σ : St} {τ : St} {ν : (Nat → Int32)} {δ : St} {π : (St × Int64)} {ω : (Nat → Int64)} {r : va_W} {p2 : Int32} {x0 : Int32} {ω0 : (Nat → Int64)} (hR : some (x0, ω0) = sp_L_shipHas p2 σ ω) : Ct l γ yL_shipHas (Cond.codeWith yL_shipHas cL_shipHas 4 (some .int) [(0, 9, 12, 13)]) ({ frames := 8, cells := 1, slots := 6, locals := 124 } : Room) [.ref as9, .int p2, .ref au] (wB γ h σ ++ (wB γ g τ ++ (wS as9 (h 0) (g 0) an aq (ad 0) (ap 0) ++ (wN an (h 0) ν ++ (wR aq (h 0) ++ (wD γ ad δ ++ (wP γ ap π ++ (wO γ au ω ++ (r))))))))) (Pr (some (.int x0)) (wB γ h σ ++ (wB γ g τ ++ (wS as9 (h 0) (g 0) an aq (ad 0) (ap 0) ++ (wN an (h 0) ν ++ (wR aq (h 0) ++ (wD γ ad δ ++ (wP γ ap π ++ (wO γ au ω0 ++ (r)))))))))) 1 6 := by
  refine Ct_ofH hl (by decide +kernel) rfl (Nat.le_of_ble_eq_true rfl) (L := [some (.ref as9), some (.int p2), some (.ref au), none]) rfl ?_
  intro X Q K hQ
  generalize ((wB γ h σ ++ (wB γ g τ ++ (wS as9 (h 0) (g 0) an aq (ad 0) (ap 0) ++ (wN an (h 0) ν ++ (wR aq (h 0) ++ (wD γ ad δ ++ (wP γ ap π ++ (wO γ au ω ++ (r)))))))), Q) : MX) = M at K hQ ⊢
  unfold sp_L_shipHas at hR
  refine r_aload_n 0 2 K (dk_of tL_shipHas 0 rfl) rfl rfl ?_
  refine r_iconst 1 (0 : Int32) K (dk_of tL_shipHas 1 rfl) (by decide) ?_
  refine r_aload_n 2 0 K (dk_of tL_shipHas 2 rfl) rfl rfl ?_
  refine r_iload_n 3 1 K (dk_of tL_shipHas 3 rfl) rfl rfl ?_
  rcases oc1 hR with ⟨x1, hc, hR⟩ | ⟨k9, hc, hR⟩
  · refine r_cVi 4 52 [.int p2] [.int (0 : Int32), .ref au] x1 (wB γ h σ ++ (wB γ g τ ++ (wS as9 (h 0) (g 0) an aq (ad 0) (ap 0) ++ (wN an (h 0) ν ++ (wR aq (h 0) ++ (wD γ ad δ ++ (wP γ ap π ++ (wO γ au ω ++ (r))))))))) K (ct_X9_shipHas hl (z := .inl x1) hc.symm) cs_L_35 ⟨rfl, rfl, rfl⟩ (dk_of tL_shipHas 4 rfl) rfl rfl rfl rfl rfl rfl ?_
    refine r_i2l 7 K (dk_of tL_shipHas 5 rfl) ?_
    refine r_last 8 60 K (dk_of tL_shipHas 6 rfl) rfl (vpd (by decide)) sO_0_btsnqdpu ?_
    refine r_nmS (fun ω2 : (Nat → Int64) => wB γ h σ ++ (wB γ g τ ++ (wS as9 (h 0) (g 0) an aq (ad 0) (ap 0) ++ (wN an (h 0) ν ++ (wR aq (h 0) ++ (wD γ ad δ ++ (wP γ ap π ++ (wO γ au ω2 ++ (r))))))))) hR (fun ω2 hR => ?_)
    refine r_goto 9 15 K (dk_of tL_shipHas 7 rfl) (by decide) ?_
    refine r_iconst 15 (0 : Int32) K (dk_of tL_shipHas 11 rfl) (by decide) ?_
    exact r_iret 16 K hQ (dk_of tL_shipHas 12 rfl) (Nat.zero_le _) (Nat.zero_le _) (lfi (s1 := ω0) (s2 := ω2) (fun u9 : (Nat → Int64) => wB γ h σ ++ (wB γ g τ ++ (wS as9 (h 0) (g 0) an aq (ad 0) (ap 0) ++ (wN an (h 0) ν ++ (wR aq (h 0) ++ (wD γ ad δ ++ (wP γ ap π ++ (wO γ au u9 ++ (r))))))))) hR)
  · refine r_case hR (fun e9 hR => ?_) (fun e9 hR => ?_)
    · subst e9
      refine r_xV (mc := 1) (ms := 6) 4 52 [.int p2] [.int (0 : Int32), .ref au] 1 (wB γ h σ ++ (wB γ g τ ++ (wS as9 (h 0) (g 0) an aq (ad 0) (ap 0) ++ (wN an (h 0) ν ++ (wR aq (h 0) ++ (wD γ ad δ ++ (wP γ ap π ++ (wO γ au ω ++ (r))))))))) K (ct_X9_shipHas hl (z := .inr 1) hc.symm) cs_L_35 ⟨rfl, rfl, rfl⟩ (dk_of tL_shipHas 4 rfl) rfl rfl rfl rfl rfl ⟨by decide, by decide⟩ ?_
      refine r_catch 4 K [] ⟨0, 9, 12, 13⟩ [] rfl (fun z hz => by cases hz) rfl (by decide) w344 (List.mem_of_getElem? (i := 2) rfl) (fun q9 => ?_)
      refine r_astore_n 12 3 [some (.ref as9), some (.int p2), some (.ref au), some (.ref q9)] K (dk_of tL_shipHas 8 rfl) rfl rfl rfl (by decide) ?_
      refine r_iconst 13 (1 : Int32) K (dk_of tL_shipHas 9 rfl) (by decide) ?_
      exact r_iret 14 K hQ (dk_of tL_shipHas 10 rfl) (Nat.le_refl _) (Nat.le_refl _) (lfi (s1 := ω0) (s2 := ω) (fun u9 : (Nat → Int64) => wB γ h σ ++ (wB γ g τ ++ (wS as9 (h 0) (g 0) an aq (ad 0) (ap 0) ++ (wN an (h 0) ν ++ (wR aq (h 0) ++ (wD γ ad δ ++ (wP γ ap π ++ (wO γ au u9 ++ (r))))))))) hR)
    · exact nn_ hR

def sp_L_pass (p2 : Int32) (σ : St) (ω : (Nat → Int64)) : Option (Int32 × St × (Nat → Int64)) := bc2 (sp_X9_pass p2 σ) (fun (x1 : Int32) (σ2 : St) => sl (vp_updL ω (0 : Int32).toNatClampNeg x1.toInt64) (fun ω3 : (Nat → Int64) => some ((0 : Int32), σ2, ω3))) (fun k9 => if k9 = 2 then (some ((1 : Int32), σ, ω)) else (if k9 = 3 then (some ((2 : Int32), σ, ω)) else (none)))
set_option maxHeartbeats 4000000 in
set_option maxRecDepth 100000 in
theorem ct_L_pass {l : Launch} (hl : l.stackTraces = false) {γ : Gd} {h : Nat → Nat} {g : Nat → Nat} {as9 : Nat} {an : Nat} {aq : Nat} {ad : Nat → Nat} {ap : Nat → Nat} {au : Nat} {σ : St} {τ : St} {ν : (Nat → Int32)} {δ : St} {π : (St × Int64)} {ω : (Nat → Int64)} {r : va_W} {p2 : Int32} {x0 : Int32} {σ0 : St} {ω0 : (Nat → Int64)} (hR : some (x0, σ0, ω0) = sp_L_pass p2 σ ω) : Ct l γ yL_pass (Cond.codeWith yL_pass cL_pass 4 (some .int) [(0, 9, 12, 15), (0, 9, 15, 17)]) ({ frames := 8, cells := 1, slots := 6, locals := 137 } : Room) [.ref as9, .int p2, .ref au] (wB γ h σ ++ (wB γ g τ ++ (wS as9 (h 0) (g 0) an aq (ad 0) (ap 0) ++ (wN an (h 0) ν ++ (wR aq (h 0) ++ (wD γ ad δ ++ (wP γ ap π ++ (wO γ au ω ++ (r))))))))) (Pr (some (.int x0)) (wB γ h σ0 ++ (wB γ g τ ++ (wS as9 (h 0) (g 0) an aq (ad 0) (ap 0) ++ (wN an (h 0) ν ++ (wR aq (h 0) ++ (wD γ ad δ ++ (wP γ ap π ++ (wO γ au ω0 ++ (r)))))))))) 1 6 := by
  refine Ct_ofH hl (by decide +kernel) rfl (Nat.le_of_ble_eq_true rfl) (L := [some (.ref as9), some (.int p2), some (.ref au), none]) rfl ?_
  intro X Q K hQ
  generalize ((wB γ h σ ++ (wB γ g τ ++ (wS as9 (h 0) (g 0) an aq (ad 0) (ap 0) ++ (wN an (h 0) ν ++ (wR aq (h 0) ++ (wD γ ad δ ++ (wP γ ap π ++ (wO γ au ω ++ (r)))))))), Q) : MX) = M at K hQ ⊢
  unfold sp_L_pass at hR
  refine r_aload_n 0 2 K (dk_of tL_pass 0 rfl) rfl rfl ?_
  refine r_iconst 1 (0 : Int32) K (dk_of tL_pass 1 rfl) (by decide) ?_
  refine r_aload_n 2 0 K (dk_of tL_pass 2 rfl) rfl rfl ?_
  refine r_iload_n 3 1 K (dk_of tL_pass 3 rfl) rfl rfl ?_
  rcases oc2 hR with ⟨x1, σ2, hc, hR⟩ | ⟨k9, hc, hR⟩
  · refine r_cVi 4 52 [.int p2] [.int (0 : Int32), .ref au] x1 (wB γ h σ2 ++ (wB γ g τ ++ (wS as9 (h 0) (g 0) an aq (ad 0) (ap 0) ++ (wN an (h 0) ν ++ (wR aq (h 0) ++ (wD γ ad δ ++ (wP γ ap π ++ (wO γ au ω ++ (r))))))))) K (ct_X9_pass hl (z := .inl (x1, σ2)) hc.symm) cs_L_39 ⟨rfl, rfl, rfl⟩ (dk_of tL_pass 4 rfl) rfl rfl rfl rfl rfl rfl ?_
    refine r_i2l 7 K (dk_of tL_pass 5 rfl) ?_
    refine r_last 8 60 K (dk_of tL_pass 6 rfl) rfl (vpd (by decide)) sO_0_btsnqdpu ?_
    refine r_nmS (fun ω3 : (Nat → Int64) => wB γ h σ2 ++ (wB γ g τ ++ (wS as9 (h 0) (g 0) an aq (ad 0) (ap 0) ++ (wN an (h 0) ν ++ (wR aq (h 0) ++ (wD γ ad δ ++ (wP γ ap π ++ (wO γ au ω3 ++ (r))))))))) hR (fun ω3 hR => ?_)
    refine r_goto 9 18 K (dk_of tL_pass 7 rfl) (by decide) ?_
    refine r_iconst 18 (0 : Int32) K (dk_of tL_pass 14 rfl) (by decide) ?_
    exact r_iret 19 K hQ (dk_of tL_pass 15 rfl) (Nat.zero_le _) (Nat.zero_le _) (lfi (s1 := (σ0, ω0)) (s2 := (σ2, ω3)) (fun u9 : St × (Nat → Int64) => wB γ h u9.1 ++ (wB γ g τ ++ (wS as9 (h 0) (g 0) an aq (ad 0) (ap 0) ++ (wN an (h 0) ν ++ (wR aq (h 0) ++ (wD γ ad δ ++ (wP γ ap π ++ (wO γ au u9.2 ++ (r))))))))) hR)
  · refine r_case hR (fun e9 hR => ?_) (fun e9 hR => ?_)
    · subst e9
      refine r_xV (mc := 1) (ms := 6) 4 52 [.int p2] [.int (0 : Int32), .ref au] 2 (wB γ h σ ++ (wB γ g τ ++ (wS as9 (h 0) (g 0) an aq (ad 0) (ap 0) ++ (wN an (h 0) ν ++ (wR aq (h 0) ++ (wD γ ad δ ++ (wP γ ap π ++ (wO γ au ω ++ (r))))))))) K (ct_X9_pass hl (z := .inr 2) hc.symm) cs_L_39 ⟨rfl, rfl, rfl⟩ (dk_of tL_pass 4 rfl) rfl rfl rfl rfl rfl ⟨by decide, by decide⟩ ?_
      refine r_catch 4 K [] ⟨0, 9, 12, 15⟩ [⟨0, 9, 15, 17⟩] rfl (fun z hz => by cases hz) rfl (by decide) w345 (List.mem_of_getElem? (i := 3) rfl) (fun q9 => ?_)
      refine r_astore_n 12 3 [some (.ref as9), some (.int p2), some (.ref au), some (.ref q9)] K (dk_of tL_pass 8 rfl) rfl rfl rfl (by decide) ?_
      refine r_iconst 13 (1 : Int32) K (dk_of tL_pass 9 rfl) (by decide) ?_
      exact r_iret 14 K hQ (dk_of tL_pass 10 rfl) (Nat.le_refl _) (Nat.le_refl _) (lfi (s1 := (σ0, ω0)) (s2 := (σ, ω)) (fun u9 : St × (Nat → Int64) => wB γ h u9.1 ++ (wB γ g τ ++ (wS as9 (h 0) (g 0) an aq (ad 0) (ap 0) ++ (wN an (h 0) ν ++ (wR aq (h 0) ++ (wD γ ad δ ++ (wP γ ap π ++ (wO γ au u9.2 ++ (r))))))))) hR)
    · refine r_case hR (fun e9 hR => ?_) (fun e9 hR => ?_)
      · subst e9
        refine r_xV (mc := 1) (ms := 6) 4 52 [.int p2] [.int (0 : Int32), .ref au] 3 (wB γ h σ ++ (wB γ g τ ++ (wS as9 (h 0) (g 0) an aq (ad 0) (ap 0) ++ (wN an (h 0) ν ++ (wR aq (h 0) ++ (wD γ ad δ ++ (wP γ ap π ++ (wO γ au ω ++ (r))))))))) K (ct_X9_pass hl (z := .inr 3) hc.symm) cs_L_39 ⟨rfl, rfl, rfl⟩ (dk_of tL_pass 4 rfl) rfl rfl rfl rfl rfl ⟨by decide, by decide⟩ ?_
        refine r_catch 4 K [⟨0, 9, 12, 15⟩] ⟨0, 9, 15, 17⟩ [] rfl (fun z hz => by rw [List.mem_singleton.mp hz]; exact ⟨by decide, 2, w345, List.mem_of_getElem? (i := 2) rfl⟩) rfl (by decide) w346 (List.mem_of_getElem? (i := 4) rfl) (fun q9 => ?_)
        refine r_astore_n 15 3 [some (.ref as9), some (.int p2), some (.ref au), some (.ref q9)] K (dk_of tL_pass 11 rfl) rfl rfl rfl (by decide) ?_
        refine r_iconst 16 (2 : Int32) K (dk_of tL_pass 12 rfl) (by decide) ?_
        exact r_iret 17 K hQ (dk_of tL_pass 13 rfl) (Nat.le_refl _) (Nat.le_refl _) (lfi (s1 := (σ0, ω0)) (s2 := (σ, ω)) (fun u9 : St × (Nat → Int64) => wB γ h u9.1 ++ (wB γ g τ ++ (wS as9 (h 0) (g 0) an aq (ad 0) (ap 0) ++ (wN an (h 0) ν ++ (wR aq (h 0) ++ (wD γ ad δ ++ (wP γ ap π ++ (wO γ au u9.2 ++ (r))))))))) hR)
      · exact nn_ hR

def sp_L_at (p2 : Int32) (p3 : Int32) (σ : St) (ω : (Nat → Int64)) : Option (Int32 × (Nat → Int64)) := bc1 (sp_X9_at p2 p3 σ) (fun (x1 : Int32) => sl (vp_updL ω (0 : Int32).toNatClampNeg x1.toInt64) (fun ω2 : (Nat → Int64) => some ((0 : Int32), ω2))) (fun k9 => if k9 = 1 then (some ((1 : Int32), ω)) else (if k9 = 2 then (some ((2 : Int32), ω)) else (none)))
set_option maxHeartbeats 4000000 in
set_option maxRecDepth 100000 in
theorem ct_L_at {l : Launch} (hl : l.stackTraces = false) {γ : Gd} {h : Nat → Nat} {g : Nat → Nat} {as9 : Nat} {an : Nat} {aq : Nat} {ad : Nat → Nat} {ap : Nat → Nat} {au : Nat} {σ : St} {τ : St} {ν : (Nat → Int32)} {δ : St} {π : (St × Int64)} {ω : (Nat → Int64)} {r : va_W} {p2 : Int32} {p3 : Int32} {x0 : Int32} {ω0 : (Nat → Int64)} (hR : some (x0, ω0) = sp_L_at p2 p3 σ ω) : Ct l γ yL_at (Cond.codeWith yL_at cL_at 5 (some .int) [(0, 10, 13, 13), (0, 10, 17, 15)]) ({ frames := 8, cells := 1, slots := 6, locals := 127 } : Room) [.ref as9, .int p2, .int p3, .ref au] (wB γ h σ ++ (wB γ g τ ++ (wS as9 (h 0) (g 0) an aq (ad 0) (ap 0) ++ (wN an (h 0) ν ++ (wR aq (h 0) ++ (wD γ ad δ ++ (wP γ ap π ++ (wO γ au ω ++ (r))))))))) (Pr (some (.int x0)) (wB γ h σ ++ (wB γ g τ ++ (wS as9 (h 0) (g 0) an aq (ad 0) (ap 0) ++ (wN an (h 0) ν ++ (wR aq (h 0) ++ (wD γ ad δ ++ (wP γ ap π ++ (wO γ au ω0 ++ (r)))))))))) 1 6 := by
  refine Ct_ofH hl (by decide +kernel) rfl (Nat.le_of_ble_eq_true rfl) (L := [some (.ref as9), some (.int p2), some (.int p3), some (.ref au), none]) rfl ?_
  intro X Q K hQ
  generalize ((wB γ h σ ++ (wB γ g τ ++ (wS as9 (h 0) (g 0) an aq (ad 0) (ap 0) ++ (wN an (h 0) ν ++ (wR aq (h 0) ++ (wD γ ad δ ++ (wP γ ap π ++ (wO γ au ω ++ (r)))))))), Q) : MX) = M at K hQ ⊢
  unfold sp_L_at at hR
  refine r_aload_n 0 3 K (dk_of tL_at 0 rfl) rfl rfl ?_
  refine r_iconst 1 (0 : Int32) K (dk_of tL_at 1 rfl) (by decide) ?_
  refine r_aload_n 2 0 K (dk_of tL_at 2 rfl) rfl rfl ?_
  refine r_iload_n 3 1 K (dk_of tL_at 3 rfl) rfl rfl ?_
  refine r_iload_n 4 2 K (dk_of tL_at 4 rfl) rfl rfl ?_
  rcases oc1 hR with ⟨x1, hc, hR⟩ | ⟨k9, hc, hR⟩
  · refine r_cVi 5 52 [.int p2, .int p3] [.int (0 : Int32), .ref au] x1 (wB γ h σ ++ (wB γ g τ ++ (wS as9 (h 0) (g 0) an aq (ad 0) (ap 0) ++ (wN an (h 0) ν ++ (wR aq (h 0) ++ (wD γ ad δ ++ (wP γ ap π ++ (wO γ au ω ++ (r))))))))) K (ct_X9_at hl (z := .inl x1) hc.symm) cs_L_42 ⟨rfl, rfl, rfl⟩ (dk_of tL_at 5 rfl) rfl rfl rfl rfl rfl rfl ?_
    refine r_i2l 8 K (dk_of tL_at 6 rfl) ?_
    refine r_last 9 60 K (dk_of tL_at 7 rfl) rfl (vpd (by decide)) sO_0_btsnqdpu ?_
    refine r_nmS (fun ω2 : (Nat → Int64) => wB γ h σ ++ (wB γ g τ ++ (wS as9 (h 0) (g 0) an aq (ad 0) (ap 0) ++ (wN an (h 0) ν ++ (wR aq (h 0) ++ (wD γ ad δ ++ (wP γ ap π ++ (wO γ au ω2 ++ (r))))))))) hR (fun ω2 hR => ?_)
    refine r_goto 10 21 K (dk_of tL_at 8 rfl) (by decide) ?_
    refine r_iconst 21 (0 : Int32) K (dk_of tL_at 15 rfl) (by decide) ?_
    exact r_iret 22 K hQ (dk_of tL_at 16 rfl) (Nat.zero_le _) (Nat.zero_le _) (lfi (s1 := ω0) (s2 := ω2) (fun u9 : (Nat → Int64) => wB γ h σ ++ (wB γ g τ ++ (wS as9 (h 0) (g 0) an aq (ad 0) (ap 0) ++ (wN an (h 0) ν ++ (wR aq (h 0) ++ (wD γ ad δ ++ (wP γ ap π ++ (wO γ au u9 ++ (r))))))))) hR)
  · refine r_case hR (fun e9 hR => ?_) (fun e9 hR => ?_)
    · subst e9
      refine r_xV (mc := 1) (ms := 6) 5 52 [.int p2, .int p3] [.int (0 : Int32), .ref au] 1 (wB γ h σ ++ (wB γ g τ ++ (wS as9 (h 0) (g 0) an aq (ad 0) (ap 0) ++ (wN an (h 0) ν ++ (wR aq (h 0) ++ (wD γ ad δ ++ (wP γ ap π ++ (wO γ au ω ++ (r))))))))) K (ct_X9_at hl (z := .inr 1) hc.symm) cs_L_42 ⟨rfl, rfl, rfl⟩ (dk_of tL_at 5 rfl) rfl rfl rfl rfl rfl ⟨by decide, by decide⟩ ?_
      refine r_catch 5 K [] ⟨0, 10, 13, 13⟩ [⟨0, 10, 17, 15⟩] rfl (fun z hz => by cases hz) rfl (by decide) w344 (List.mem_of_getElem? (i := 2) rfl) (fun q9 => ?_)
      refine r_astore 13 4 [some (.ref as9), some (.int p2), some (.int p3), some (.ref au), some (.ref q9)] K (dk_of tL_at 9 rfl) rfl rfl (by decide) ?_
      refine r_iconst 15 (1 : Int32) K (dk_of tL_at 10 rfl) (by decide) ?_
      exact r_iret 16 K hQ (dk_of tL_at 11 rfl) (Nat.le_refl _) (Nat.le_refl _) (lfi (s1 := ω0) (s2 := ω) (fun u9 : (Nat → Int64) => wB γ h σ ++ (wB γ g τ ++ (wS as9 (h 0) (g 0) an aq (ad 0) (ap 0) ++ (wN an (h 0) ν ++ (wR aq (h 0) ++ (wD γ ad δ ++ (wP γ ap π ++ (wO γ au u9 ++ (r))))))))) hR)
    · refine r_case hR (fun e9 hR => ?_) (fun e9 hR => ?_)
      · subst e9
        refine r_xV (mc := 1) (ms := 6) 5 52 [.int p2, .int p3] [.int (0 : Int32), .ref au] 2 (wB γ h σ ++ (wB γ g τ ++ (wS as9 (h 0) (g 0) an aq (ad 0) (ap 0) ++ (wN an (h 0) ν ++ (wR aq (h 0) ++ (wD γ ad δ ++ (wP γ ap π ++ (wO γ au ω ++ (r))))))))) K (ct_X9_at hl (z := .inr 2) hc.symm) cs_L_42 ⟨rfl, rfl, rfl⟩ (dk_of tL_at 5 rfl) rfl rfl rfl rfl rfl ⟨by decide, by decide⟩ ?_
        refine r_catch 5 K [⟨0, 10, 13, 13⟩] ⟨0, 10, 17, 15⟩ [] rfl (fun z hz => by rw [List.mem_singleton.mp hz]; exact ⟨by decide, 1, w344, List.mem_of_getElem? (i := 0) rfl⟩) rfl (by decide) w345 (List.mem_of_getElem? (i := 3) rfl) (fun q9 => ?_)
        refine r_astore 17 4 [some (.ref as9), some (.int p2), some (.int p3), some (.ref au), some (.ref q9)] K (dk_of tL_at 12 rfl) rfl rfl (by decide) ?_
        refine r_iconst 19 (2 : Int32) K (dk_of tL_at 13 rfl) (by decide) ?_
        exact r_iret 20 K hQ (dk_of tL_at 14 rfl) (Nat.le_refl _) (Nat.le_refl _) (lfi (s1 := ω0) (s2 := ω) (fun u9 : (Nat → Int64) => wB γ h σ ++ (wB γ g τ ++ (wS as9 (h 0) (g 0) an aq (ad 0) (ap 0) ++ (wN an (h 0) ν ++ (wR aq (h 0) ++ (wD γ ad δ ++ (wP γ ap π ++ (wO γ au u9 ++ (r))))))))) hR)
      · exact nn_ hR

def sp_L_boom (p2 : Int32) (p3 : Int32) (p4 : Int32) (σ : St) (ω : (Nat → Int64)) : Option (Int32 × St × (Nat → Int64)) := bc2 (sp_X9_boom p2 p3 p4 σ) (fun (x1 : Int32) (σ2 : St) => sl (vp_updL ω (0 : Int32).toNatClampNeg x1.toInt64) (fun ω3 : (Nat → Int64) => some ((0 : Int32), σ2, ω3))) (fun k9 => if k9 = 1 then (some ((1 : Int32), σ, ω)) else (if k9 = 2 then (some ((2 : Int32), σ, ω)) else (if k9 = 3 then (some ((3 : Int32), σ, ω)) else (none))))
set_option maxHeartbeats 4000000 in
set_option maxRecDepth 100000 in
theorem ct_L_boom {l : Launch} (hl : l.stackTraces = false) {γ : Gd} {h : Nat → Nat} {g : Nat → Nat} {as9 : Nat} {an : Nat} {aq : Nat} {ad : Nat → Nat} {ap : Nat → Nat} {au : Nat} {σ : St} {τ : St} {ν : (Nat → Int32)} {δ : St} {π : (St × Int64)} {ω : (Nat → Int64)} {r : va_W} {p2 : Int32} {p3 : Int32} {p4 : Int32} {x0 : Int32} {σ0 : St} {ω0 : (Nat → Int64)} (hR : some (x0, σ0, ω0) = sp_L_boom p2 p3 p4 σ ω) : Ct l γ yL_boom (Cond.codeWith yL_boom cL_boom 6 (some .int) [(0, 12, 15, 13), (0, 12, 19, 15), (0, 12, 23, 17)]) ({ frames := 8, cells := 1, slots := 6, locals := 128 } : Room) [.ref as9, .int p2, .int p3, .int p4, .ref au] (wB γ h σ ++ (wB γ g τ ++ (wS as9 (h 0) (g 0) an aq (ad 0) (ap 0) ++ (wN an (h 0) ν ++ (wR aq (h 0) ++ (wD γ ad δ ++ (wP γ ap π ++ (wO γ au ω ++ (r))))))))) (Pr (some (.int x0)) (wB γ h σ0 ++ (wB γ g τ ++ (wS as9 (h 0) (g 0) an aq (ad 0) (ap 0) ++ (wN an (h 0) ν ++ (wR aq (h 0) ++ (wD γ ad δ ++ (wP γ ap π ++ (wO γ au ω0 ++ (r)))))))))) 1 6 := by
  refine Ct_ofH hl (by decide +kernel) rfl (Nat.le_of_ble_eq_true rfl) (L := [some (.ref as9), some (.int p2), some (.int p3), some (.int p4), some (.ref au), none]) rfl ?_
  intro X Q K hQ
  generalize ((wB γ h σ ++ (wB γ g τ ++ (wS as9 (h 0) (g 0) an aq (ad 0) (ap 0) ++ (wN an (h 0) ν ++ (wR aq (h 0) ++ (wD γ ad δ ++ (wP γ ap π ++ (wO γ au ω ++ (r)))))))), Q) : MX) = M at K hQ ⊢
  unfold sp_L_boom at hR
  refine r_aload 0 4 K (dk_of tL_boom 0 rfl) rfl ?_
  refine r_iconst 2 (0 : Int32) K (dk_of tL_boom 1 rfl) (by decide) ?_
  refine r_aload_n 3 0 K (dk_of tL_boom 2 rfl) rfl rfl ?_
  refine r_iload_n 4 1 K (dk_of tL_boom 3 rfl) rfl rfl ?_
  refine r_iload_n 5 2 K (dk_of tL_boom 4 rfl) rfl rfl ?_
  refine r_iload_n 6 3 K (dk_of tL_boom 5 rfl) rfl rfl ?_
  rcases oc2 hR with ⟨x1, σ2, hc, hR⟩ | ⟨k9, hc, hR⟩
  · refine r_cVi 7 52 [.int p2, .int p3, .int p4] [.int (0 : Int32), .ref au] x1 (wB γ h σ2 ++ (wB γ g τ ++ (wS as9 (h 0) (g 0) an aq (ad 0) (ap 0) ++ (wN an (h 0) ν ++ (wR aq (h 0) ++ (wD γ ad δ ++ (wP γ ap π ++ (wO γ au ω ++ (r))))))))) K (ct_X9_boom hl (z := .inl (x1, σ2)) hc.symm) cs_L_45 ⟨rfl, rfl, rfl⟩ (dk_of tL_boom 6 rfl) rfl rfl rfl rfl rfl rfl ?_
    refine r_i2l 10 K (dk_of tL_boom 7 rfl) ?_
    refine r_last 11 60 K (dk_of tL_boom 8 rfl) rfl (vpd (by decide)) sO_0_btsnqdpu ?_
    refine r_nmS (fun ω3 : (Nat → Int64) => wB γ h σ2 ++ (wB γ g τ ++ (wS as9 (h 0) (g 0) an aq (ad 0) (ap 0) ++ (wN an (h 0) ν ++ (wR aq (h 0) ++ (wD γ ad δ ++ (wP γ ap π ++ (wO γ au ω3 ++ (r))))))))) hR (fun ω3 hR => ?_)
    refine r_goto 12 27 K (dk_of tL_boom 9 rfl) (by decide) ?_
    refine r_iconst 27 (0 : Int32) K (dk_of tL_boom 19 rfl) (by decide) ?_
    exact r_iret 28 K hQ (dk_of tL_boom 20 rfl) (Nat.zero_le _) (Nat.zero_le _) (lfi (s1 := (σ0, ω0)) (s2 := (σ2, ω3)) (fun u9 : St × (Nat → Int64) => wB γ h u9.1 ++ (wB γ g τ ++ (wS as9 (h 0) (g 0) an aq (ad 0) (ap 0) ++ (wN an (h 0) ν ++ (wR aq (h 0) ++ (wD γ ad δ ++ (wP γ ap π ++ (wO γ au u9.2 ++ (r))))))))) hR)
  · refine r_case hR (fun e9 hR => ?_) (fun e9 hR => ?_)
    · subst e9
      refine r_xV (mc := 1) (ms := 6) 7 52 [.int p2, .int p3, .int p4] [.int (0 : Int32), .ref au] 1 (wB γ h σ ++ (wB γ g τ ++ (wS as9 (h 0) (g 0) an aq (ad 0) (ap 0) ++ (wN an (h 0) ν ++ (wR aq (h 0) ++ (wD γ ad δ ++ (wP γ ap π ++ (wO γ au ω ++ (r))))))))) K (ct_X9_boom hl (z := .inr 1) hc.symm) cs_L_45 ⟨rfl, rfl, rfl⟩ (dk_of tL_boom 6 rfl) rfl rfl rfl rfl rfl ⟨by decide, by decide⟩ ?_
      refine r_catch 7 K [] ⟨0, 12, 15, 13⟩ [⟨0, 12, 19, 15⟩, ⟨0, 12, 23, 17⟩] rfl (fun z hz => by cases hz) rfl (by decide) w344 (List.mem_of_getElem? (i := 2) rfl) (fun q9 => ?_)
      refine r_astore 15 5 [some (.ref as9), some (.int p2), some (.int p3), some (.int p4), some (.ref au), some (.ref q9)] K (dk_of tL_boom 10 rfl) rfl rfl (by decide) ?_
      refine r_iconst 17 (1 : Int32) K (dk_of tL_boom 11 rfl) (by decide) ?_
      exact r_iret 18 K hQ (dk_of tL_boom 12 rfl) (Nat.le_refl _) (Nat.le_refl _) (lfi (s1 := (σ0, ω0)) (s2 := (σ, ω)) (fun u9 : St × (Nat → Int64) => wB γ h u9.1 ++ (wB γ g τ ++ (wS as9 (h 0) (g 0) an aq (ad 0) (ap 0) ++ (wN an (h 0) ν ++ (wR aq (h 0) ++ (wD γ ad δ ++ (wP γ ap π ++ (wO γ au u9.2 ++ (r))))))))) hR)
    · refine r_case hR (fun e9 hR => ?_) (fun e9 hR => ?_)
      · subst e9
        refine r_xV (mc := 1) (ms := 6) 7 52 [.int p2, .int p3, .int p4] [.int (0 : Int32), .ref au] 2 (wB γ h σ ++ (wB γ g τ ++ (wS as9 (h 0) (g 0) an aq (ad 0) (ap 0) ++ (wN an (h 0) ν ++ (wR aq (h 0) ++ (wD γ ad δ ++ (wP γ ap π ++ (wO γ au ω ++ (r))))))))) K (ct_X9_boom hl (z := .inr 2) hc.symm) cs_L_45 ⟨rfl, rfl, rfl⟩ (dk_of tL_boom 6 rfl) rfl rfl rfl rfl rfl ⟨by decide, by decide⟩ ?_
        refine r_catch 7 K [⟨0, 12, 15, 13⟩] ⟨0, 12, 19, 15⟩ [⟨0, 12, 23, 17⟩] rfl (fun z hz => by rw [List.mem_singleton.mp hz]; exact ⟨by decide, 1, w344, List.mem_of_getElem? (i := 0) rfl⟩) rfl (by decide) w345 (List.mem_of_getElem? (i := 3) rfl) (fun q9 => ?_)
        refine r_astore 19 5 [some (.ref as9), some (.int p2), some (.int p3), some (.int p4), some (.ref au), some (.ref q9)] K (dk_of tL_boom 13 rfl) rfl rfl (by decide) ?_
        refine r_iconst 21 (2 : Int32) K (dk_of tL_boom 14 rfl) (by decide) ?_
        exact r_iret 22 K hQ (dk_of tL_boom 15 rfl) (Nat.le_refl _) (Nat.le_refl _) (lfi (s1 := (σ0, ω0)) (s2 := (σ, ω)) (fun u9 : St × (Nat → Int64) => wB γ h u9.1 ++ (wB γ g τ ++ (wS as9 (h 0) (g 0) an aq (ad 0) (ap 0) ++ (wN an (h 0) ν ++ (wR aq (h 0) ++ (wD γ ad δ ++ (wP γ ap π ++ (wO γ au u9.2 ++ (r))))))))) hR)
      · refine r_case hR (fun e9 hR => ?_) (fun e9 hR => ?_)
        · subst e9
          refine r_xV (mc := 1) (ms := 6) 7 52 [.int p2, .int p3, .int p4] [.int (0 : Int32), .ref au] 3 (wB γ h σ ++ (wB γ g τ ++ (wS as9 (h 0) (g 0) an aq (ad 0) (ap 0) ++ (wN an (h 0) ν ++ (wR aq (h 0) ++ (wD γ ad δ ++ (wP γ ap π ++ (wO γ au ω ++ (r))))))))) K (ct_X9_boom hl (z := .inr 3) hc.symm) cs_L_45 ⟨rfl, rfl, rfl⟩ (dk_of tL_boom 6 rfl) rfl rfl rfl rfl rfl ⟨by decide, by decide⟩ ?_
          refine r_catch 7 K [⟨0, 12, 15, 13⟩, ⟨0, 12, 19, 15⟩] ⟨0, 12, 23, 17⟩ [] rfl (fun z hz => by rcases List.mem_cons.mp hz with hz | hz; (rw [hz]; exact ⟨by decide, 1, w344, List.mem_of_getElem? (i := 1) rfl⟩); (rw [List.mem_singleton.mp hz]; exact ⟨by decide, 2, w345, List.mem_of_getElem? (i := 2) rfl⟩)) rfl (by decide) w346 (List.mem_of_getElem? (i := 4) rfl) (fun q9 => ?_)
          refine r_astore 23 5 [some (.ref as9), some (.int p2), some (.int p3), some (.int p4), some (.ref au), some (.ref q9)] K (dk_of tL_boom 16 rfl) rfl rfl (by decide) ?_
          refine r_iconst 25 (3 : Int32) K (dk_of tL_boom 17 rfl) (by decide) ?_
          exact r_iret 26 K hQ (dk_of tL_boom 18 rfl) (Nat.le_refl _) (Nat.le_refl _) (lfi (s1 := (σ0, ω0)) (s2 := (σ, ω)) (fun u9 : St × (Nat → Int64) => wB γ h u9.1 ++ (wB γ g τ ++ (wS as9 (h 0) (g 0) an aq (ad 0) (ap 0) ++ (wN an (h 0) ν ++ (wR aq (h 0) ++ (wD γ ad δ ++ (wP γ ap π ++ (wO γ au u9.2 ++ (r))))))))) hR)
        · exact nn_ hR

def sp_L_skimmer (p2 : Int32) (p3 : Int32) (p4 : Int32) (σ : St) (ω : (Nat → Int64)) : Option (Int32 × St × (Nat → Int64)) := bc2 (sp_X9_skimmer p2 p3 p4 σ) (fun (x1 : Int32) (σ2 : St) => sl (vp_updL ω (0 : Int32).toNatClampNeg x1.toInt64) (fun ω3 : (Nat → Int64) => some ((0 : Int32), σ2, ω3))) (fun k9 => if k9 = 1 then (some ((1 : Int32), σ, ω)) else (if k9 = 2 then (some ((2 : Int32), σ, ω)) else (if k9 = 3 then (some ((3 : Int32), σ, ω)) else (none))))
set_option maxHeartbeats 4000000 in
set_option maxRecDepth 100000 in
theorem ct_L_skimmer {l : Launch} (hl : l.stackTraces = false) {γ : Gd} {h : Nat → Nat} {g : Nat → Nat} {as9 : Nat} {an : Nat} {aq : Nat} {ad : Nat → Nat} {ap : Nat → Nat} {au : Nat} {σ : St} {τ : St} {ν : (Nat → Int32)} {δ : St} {π : (St × Int64)} {ω : (Nat → Int64)} {r : va_W} {p2 : Int32} {p3 : Int32} {p4 : Int32} {x0 : Int32} {σ0 : St} {ω0 : (Nat → Int64)} (hR : some (x0, σ0, ω0) = sp_L_skimmer p2 p3 p4 σ ω) : Ct l γ yL_skimmer (Cond.codeWith yL_skimmer cL_skimmer 6 (some .int) [(0, 12, 15, 13), (0, 12, 19, 15), (0, 12, 23, 17)]) ({ frames := 8, cells := 1, slots := 6, locals := 128 } : Room) [.ref as9, .int p2, .int p3, .int p4, .ref au] (wB γ h σ ++ (wB γ g τ ++ (wS as9 (h 0) (g 0) an aq (ad 0) (ap 0) ++ (wN an (h 0) ν ++ (wR aq (h 0) ++ (wD γ ad δ ++ (wP γ ap π ++ (wO γ au ω ++ (r))))))))) (Pr (some (.int x0)) (wB γ h σ0 ++ (wB γ g τ ++ (wS as9 (h 0) (g 0) an aq (ad 0) (ap 0) ++ (wN an (h 0) ν ++ (wR aq (h 0) ++ (wD γ ad δ ++ (wP γ ap π ++ (wO γ au ω0 ++ (r)))))))))) 1 6 := by
  refine Ct_ofH hl (by decide +kernel) rfl (Nat.le_of_ble_eq_true rfl) (L := [some (.ref as9), some (.int p2), some (.int p3), some (.int p4), some (.ref au), none]) rfl ?_
  intro X Q K hQ
  generalize ((wB γ h σ ++ (wB γ g τ ++ (wS as9 (h 0) (g 0) an aq (ad 0) (ap 0) ++ (wN an (h 0) ν ++ (wR aq (h 0) ++ (wD γ ad δ ++ (wP γ ap π ++ (wO γ au ω ++ (r)))))))), Q) : MX) = M at K hQ ⊢
  unfold sp_L_skimmer at hR
  refine r_aload 0 4 K (dk_of tL_skimmer 0 rfl) rfl ?_
  refine r_iconst 2 (0 : Int32) K (dk_of tL_skimmer 1 rfl) (by decide) ?_
  refine r_aload_n 3 0 K (dk_of tL_skimmer 2 rfl) rfl rfl ?_
  refine r_iload_n 4 1 K (dk_of tL_skimmer 3 rfl) rfl rfl ?_
  refine r_iload_n 5 2 K (dk_of tL_skimmer 4 rfl) rfl rfl ?_
  refine r_iload_n 6 3 K (dk_of tL_skimmer 5 rfl) rfl rfl ?_
  rcases oc2 hR with ⟨x1, σ2, hc, hR⟩ | ⟨k9, hc, hR⟩
  · refine r_cVi 7 52 [.int p2, .int p3, .int p4] [.int (0 : Int32), .ref au] x1 (wB γ h σ2 ++ (wB γ g τ ++ (wS as9 (h 0) (g 0) an aq (ad 0) (ap 0) ++ (wN an (h 0) ν ++ (wR aq (h 0) ++ (wD γ ad δ ++ (wP γ ap π ++ (wO γ au ω ++ (r))))))))) K (ct_X9_skimmer hl (z := .inl (x1, σ2)) hc.symm) cs_L_48 ⟨rfl, rfl, rfl⟩ (dk_of tL_skimmer 6 rfl) rfl rfl rfl rfl rfl rfl ?_
    refine r_i2l 10 K (dk_of tL_skimmer 7 rfl) ?_
    refine r_last 11 60 K (dk_of tL_skimmer 8 rfl) rfl (vpd (by decide)) sO_0_btsnqdpu ?_
    refine r_nmS (fun ω3 : (Nat → Int64) => wB γ h σ2 ++ (wB γ g τ ++ (wS as9 (h 0) (g 0) an aq (ad 0) (ap 0) ++ (wN an (h 0) ν ++ (wR aq (h 0) ++ (wD γ ad δ ++ (wP γ ap π ++ (wO γ au ω3 ++ (r))))))))) hR (fun ω3 hR => ?_)
    refine r_goto 12 27 K (dk_of tL_skimmer 9 rfl) (by decide) ?_
    refine r_iconst 27 (0 : Int32) K (dk_of tL_skimmer 19 rfl) (by decide) ?_
    exact r_iret 28 K hQ (dk_of tL_skimmer 20 rfl) (Nat.zero_le _) (Nat.zero_le _) (lfi (s1 := (σ0, ω0)) (s2 := (σ2, ω3)) (fun u9 : St × (Nat → Int64) => wB γ h u9.1 ++ (wB γ g τ ++ (wS as9 (h 0) (g 0) an aq (ad 0) (ap 0) ++ (wN an (h 0) ν ++ (wR aq (h 0) ++ (wD γ ad δ ++ (wP γ ap π ++ (wO γ au u9.2 ++ (r))))))))) hR)
  · refine r_case hR (fun e9 hR => ?_) (fun e9 hR => ?_)
    · subst e9
      refine r_xV (mc := 1) (ms := 6) 7 52 [.int p2, .int p3, .int p4] [.int (0 : Int32), .ref au] 1 (wB γ h σ ++ (wB γ g τ ++ (wS as9 (h 0) (g 0) an aq (ad 0) (ap 0) ++ (wN an (h 0) ν ++ (wR aq (h 0) ++ (wD γ ad δ ++ (wP γ ap π ++ (wO γ au ω ++ (r))))))))) K (ct_X9_skimmer hl (z := .inr 1) hc.symm) cs_L_48 ⟨rfl, rfl, rfl⟩ (dk_of tL_skimmer 6 rfl) rfl rfl rfl rfl rfl ⟨by decide, by decide⟩ ?_
      refine r_catch 7 K [] ⟨0, 12, 15, 13⟩ [⟨0, 12, 19, 15⟩, ⟨0, 12, 23, 17⟩] rfl (fun z hz => by cases hz) rfl (by decide) w344 (List.mem_of_getElem? (i := 2) rfl) (fun q9 => ?_)
      refine r_astore 15 5 [some (.ref as9), some (.int p2), some (.int p3), some (.int p4), some (.ref au), some (.ref q9)] K (dk_of tL_skimmer 10 rfl) rfl rfl (by decide) ?_
      refine r_iconst 17 (1 : Int32) K (dk_of tL_skimmer 11 rfl) (by decide) ?_
      exact r_iret 18 K hQ (dk_of tL_skimmer 12 rfl) (Nat.le_refl _) (Nat.le_refl _) (lfi (s1 := (σ0, ω0)) (s2 := (σ, ω)) (fun u9 : St × (Nat → Int64) => wB γ h u9.1 ++ (wB γ g τ ++ (wS as9 (h 0) (g 0) an aq (ad 0) (ap 0) ++ (wN an (h 0) ν ++ (wR aq (h 0) ++ (wD γ ad δ ++ (wP γ ap π ++ (wO γ au u9.2 ++ (r))))))))) hR)
    · refine r_case hR (fun e9 hR => ?_) (fun e9 hR => ?_)
      · subst e9
        refine r_xV (mc := 1) (ms := 6) 7 52 [.int p2, .int p3, .int p4] [.int (0 : Int32), .ref au] 2 (wB γ h σ ++ (wB γ g τ ++ (wS as9 (h 0) (g 0) an aq (ad 0) (ap 0) ++ (wN an (h 0) ν ++ (wR aq (h 0) ++ (wD γ ad δ ++ (wP γ ap π ++ (wO γ au ω ++ (r))))))))) K (ct_X9_skimmer hl (z := .inr 2) hc.symm) cs_L_48 ⟨rfl, rfl, rfl⟩ (dk_of tL_skimmer 6 rfl) rfl rfl rfl rfl rfl ⟨by decide, by decide⟩ ?_
        refine r_catch 7 K [⟨0, 12, 15, 13⟩] ⟨0, 12, 19, 15⟩ [⟨0, 12, 23, 17⟩] rfl (fun z hz => by rw [List.mem_singleton.mp hz]; exact ⟨by decide, 1, w344, List.mem_of_getElem? (i := 0) rfl⟩) rfl (by decide) w345 (List.mem_of_getElem? (i := 3) rfl) (fun q9 => ?_)
        refine r_astore 19 5 [some (.ref as9), some (.int p2), some (.int p3), some (.int p4), some (.ref au), some (.ref q9)] K (dk_of tL_skimmer 13 rfl) rfl rfl (by decide) ?_
        refine r_iconst 21 (2 : Int32) K (dk_of tL_skimmer 14 rfl) (by decide) ?_
        exact r_iret 22 K hQ (dk_of tL_skimmer 15 rfl) (Nat.le_refl _) (Nat.le_refl _) (lfi (s1 := (σ0, ω0)) (s2 := (σ, ω)) (fun u9 : St × (Nat → Int64) => wB γ h u9.1 ++ (wB γ g τ ++ (wS as9 (h 0) (g 0) an aq (ad 0) (ap 0) ++ (wN an (h 0) ν ++ (wR aq (h 0) ++ (wD γ ad δ ++ (wP γ ap π ++ (wO γ au u9.2 ++ (r))))))))) hR)
      · refine r_case hR (fun e9 hR => ?_) (fun e9 hR => ?_)
        · subst e9
          refine r_xV (mc := 1) (ms := 6) 7 52 [.int p2, .int p3, .int p4] [.int (0 : Int32), .ref au] 3 (wB γ h σ ++ (wB γ g τ ++ (wS as9 (h 0) (g 0) an aq (ad 0) (ap 0) ++ (wN an (h 0) ν ++ (wR aq (h 0) ++ (wD γ ad δ ++ (wP γ ap π ++ (wO γ au ω ++ (r))))))))) K (ct_X9_skimmer hl (z := .inr 3) hc.symm) cs_L_48 ⟨rfl, rfl, rfl⟩ (dk_of tL_skimmer 6 rfl) rfl rfl rfl rfl rfl ⟨by decide, by decide⟩ ?_
          refine r_catch 7 K [⟨0, 12, 15, 13⟩, ⟨0, 12, 19, 15⟩] ⟨0, 12, 23, 17⟩ [] rfl (fun z hz => by rcases List.mem_cons.mp hz with hz | hz; (rw [hz]; exact ⟨by decide, 1, w344, List.mem_of_getElem? (i := 1) rfl⟩); (rw [List.mem_singleton.mp hz]; exact ⟨by decide, 2, w345, List.mem_of_getElem? (i := 2) rfl⟩)) rfl (by decide) w346 (List.mem_of_getElem? (i := 4) rfl) (fun q9 => ?_)
          refine r_astore 23 5 [some (.ref as9), some (.int p2), some (.int p3), some (.int p4), some (.ref au), some (.ref q9)] K (dk_of tL_skimmer 16 rfl) rfl rfl (by decide) ?_
          refine r_iconst 25 (3 : Int32) K (dk_of tL_skimmer 17 rfl) (by decide) ?_
          exact r_iret 26 K hQ (dk_of tL_skimmer 18 rfl) (Nat.le_refl _) (Nat.le_refl _) (lfi (s1 := (σ0, ω0)) (s2 := (σ, ω)) (fun u9 : St × (Nat → Int64) => wB γ h u9.1 ++ (wB γ g τ ++ (wS as9 (h 0) (g 0) an aq (ad 0) (ap 0) ++ (wN an (h 0) ν ++ (wR aq (h 0) ++ (wD γ ad δ ++ (wP γ ap π ++ (wO γ au u9.2 ++ (r))))))))) hR)
        · exact nn_ hR

def sp_L_team (p2 : Int32) (p3 : Int32) (σ : St) (ω : (Nat → Int64)) : Option (Int32 × St × (Nat → Int64)) := bc2 (sp_X9_team p2 p3 σ) (fun (x1 : Int32) (σ2 : St) => sl (vp_updL ω (0 : Int32).toNatClampNeg x1.toInt64) (fun ω3 : (Nat → Int64) => some ((0 : Int32), σ2, ω3))) (fun k9 => if k9 = 2 then (some ((1 : Int32), σ, ω)) else (if k9 = 3 then (some ((2 : Int32), σ, ω)) else (none)))
set_option maxHeartbeats 4000000 in
set_option maxRecDepth 100000 in
theorem ct_L_team {l : Launch} (hl : l.stackTraces = false) {γ : Gd} {h : Nat → Nat} {g : Nat → Nat} {as9 : Nat} {an : Nat} {aq : Nat} {ad : Nat → Nat} {ap : Nat → Nat} {au : Nat} {σ : St} {τ : St} {ν : (Nat → Int32)} {δ : St} {π : (St × Int64)} {ω : (Nat → Int64)} {r : va_W} {p2 : Int32} {p3 : Int32} {x0 : Int32} {σ0 : St} {ω0 : (Nat → Int64)} (hR : some (x0, σ0, ω0) = sp_L_team p2 p3 σ ω) : Ct l γ yL_team (Cond.codeWith yL_team cL_team 5 (some .int) [(0, 10, 13, 15), (0, 10, 17, 17)]) ({ frames := 8, cells := 1, slots := 6, locals := 127 } : Room) [.ref as9, .int p2, .int p3, .ref au] (wB γ h σ ++ (wB γ g τ ++ (wS as9 (h 0) (g 0) an aq (ad 0) (ap 0) ++ (wN an (h 0) ν ++ (wR aq (h 0) ++ (wD γ ad δ ++ (wP γ ap π ++ (wO γ au ω ++ (r))))))))) (Pr (some (.int x0)) (wB γ h σ0 ++ (wB γ g τ ++ (wS as9 (h 0) (g 0) an aq (ad 0) (ap 0) ++ (wN an (h 0) ν ++ (wR aq (h 0) ++ (wD γ ad δ ++ (wP γ ap π ++ (wO γ au ω0 ++ (r)))))))))) 1 6 := by
  refine Ct_ofH hl (by decide +kernel) rfl (Nat.le_of_ble_eq_true rfl) (L := [some (.ref as9), some (.int p2), some (.int p3), some (.ref au), none]) rfl ?_
  intro X Q K hQ
  generalize ((wB γ h σ ++ (wB γ g τ ++ (wS as9 (h 0) (g 0) an aq (ad 0) (ap 0) ++ (wN an (h 0) ν ++ (wR aq (h 0) ++ (wD γ ad δ ++ (wP γ ap π ++ (wO γ au ω ++ (r)))))))), Q) : MX) = M at K hQ ⊢
  unfold sp_L_team at hR
  refine r_aload_n 0 3 K (dk_of tL_team 0 rfl) rfl rfl ?_
  refine r_iconst 1 (0 : Int32) K (dk_of tL_team 1 rfl) (by decide) ?_
  refine r_aload_n 2 0 K (dk_of tL_team 2 rfl) rfl rfl ?_
  refine r_iload_n 3 1 K (dk_of tL_team 3 rfl) rfl rfl ?_
  refine r_iload_n 4 2 K (dk_of tL_team 4 rfl) rfl rfl ?_
  rcases oc2 hR with ⟨x1, σ2, hc, hR⟩ | ⟨k9, hc, hR⟩
  · refine r_cVi 5 52 [.int p2, .int p3] [.int (0 : Int32), .ref au] x1 (wB γ h σ2 ++ (wB γ g τ ++ (wS as9 (h 0) (g 0) an aq (ad 0) (ap 0) ++ (wN an (h 0) ν ++ (wR aq (h 0) ++ (wD γ ad δ ++ (wP γ ap π ++ (wO γ au ω ++ (r))))))))) K (ct_X9_team hl (z := .inl (x1, σ2)) hc.symm) cs_L_51 ⟨rfl, rfl, rfl⟩ (dk_of tL_team 5 rfl) rfl rfl rfl rfl rfl rfl ?_
    refine r_i2l 8 K (dk_of tL_team 6 rfl) ?_
    refine r_last 9 60 K (dk_of tL_team 7 rfl) rfl (vpd (by decide)) sO_0_btsnqdpu ?_
    refine r_nmS (fun ω3 : (Nat → Int64) => wB γ h σ2 ++ (wB γ g τ ++ (wS as9 (h 0) (g 0) an aq (ad 0) (ap 0) ++ (wN an (h 0) ν ++ (wR aq (h 0) ++ (wD γ ad δ ++ (wP γ ap π ++ (wO γ au ω3 ++ (r))))))))) hR (fun ω3 hR => ?_)
    refine r_goto 10 21 K (dk_of tL_team 8 rfl) (by decide) ?_
    refine r_iconst 21 (0 : Int32) K (dk_of tL_team 15 rfl) (by decide) ?_
    exact r_iret 22 K hQ (dk_of tL_team 16 rfl) (Nat.zero_le _) (Nat.zero_le _) (lfi (s1 := (σ0, ω0)) (s2 := (σ2, ω3)) (fun u9 : St × (Nat → Int64) => wB γ h u9.1 ++ (wB γ g τ ++ (wS as9 (h 0) (g 0) an aq (ad 0) (ap 0) ++ (wN an (h 0) ν ++ (wR aq (h 0) ++ (wD γ ad δ ++ (wP γ ap π ++ (wO γ au u9.2 ++ (r))))))))) hR)
  · refine r_case hR (fun e9 hR => ?_) (fun e9 hR => ?_)
    · subst e9
      refine r_xV (mc := 1) (ms := 6) 5 52 [.int p2, .int p3] [.int (0 : Int32), .ref au] 2 (wB γ h σ ++ (wB γ g τ ++ (wS as9 (h 0) (g 0) an aq (ad 0) (ap 0) ++ (wN an (h 0) ν ++ (wR aq (h 0) ++ (wD γ ad δ ++ (wP γ ap π ++ (wO γ au ω ++ (r))))))))) K (ct_X9_team hl (z := .inr 2) hc.symm) cs_L_51 ⟨rfl, rfl, rfl⟩ (dk_of tL_team 5 rfl) rfl rfl rfl rfl rfl ⟨by decide, by decide⟩ ?_
      refine r_catch 5 K [] ⟨0, 10, 13, 15⟩ [⟨0, 10, 17, 17⟩] rfl (fun z hz => by cases hz) rfl (by decide) w345 (List.mem_of_getElem? (i := 3) rfl) (fun q9 => ?_)
      refine r_astore 13 4 [some (.ref as9), some (.int p2), some (.int p3), some (.ref au), some (.ref q9)] K (dk_of tL_team 9 rfl) rfl rfl (by decide) ?_
      refine r_iconst 15 (1 : Int32) K (dk_of tL_team 10 rfl) (by decide) ?_
      exact r_iret 16 K hQ (dk_of tL_team 11 rfl) (Nat.le_refl _) (Nat.le_refl _) (lfi (s1 := (σ0, ω0)) (s2 := (σ, ω)) (fun u9 : St × (Nat → Int64) => wB γ h u9.1 ++ (wB γ g τ ++ (wS as9 (h 0) (g 0) an aq (ad 0) (ap 0) ++ (wN an (h 0) ν ++ (wR aq (h 0) ++ (wD γ ad δ ++ (wP γ ap π ++ (wO γ au u9.2 ++ (r))))))))) hR)
    · refine r_case hR (fun e9 hR => ?_) (fun e9 hR => ?_)
      · subst e9
        refine r_xV (mc := 1) (ms := 6) 5 52 [.int p2, .int p3] [.int (0 : Int32), .ref au] 3 (wB γ h σ ++ (wB γ g τ ++ (wS as9 (h 0) (g 0) an aq (ad 0) (ap 0) ++ (wN an (h 0) ν ++ (wR aq (h 0) ++ (wD γ ad δ ++ (wP γ ap π ++ (wO γ au ω ++ (r))))))))) K (ct_X9_team hl (z := .inr 3) hc.symm) cs_L_51 ⟨rfl, rfl, rfl⟩ (dk_of tL_team 5 rfl) rfl rfl rfl rfl rfl ⟨by decide, by decide⟩ ?_
        refine r_catch 5 K [⟨0, 10, 13, 15⟩] ⟨0, 10, 17, 17⟩ [] rfl (fun z hz => by rw [List.mem_singleton.mp hz]; exact ⟨by decide, 2, w345, List.mem_of_getElem? (i := 2) rfl⟩) rfl (by decide) w346 (List.mem_of_getElem? (i := 4) rfl) (fun q9 => ?_)
        refine r_astore 17 4 [some (.ref as9), some (.int p2), some (.int p3), some (.ref au), some (.ref q9)] K (dk_of tL_team 12 rfl) rfl rfl (by decide) ?_
        refine r_iconst 19 (2 : Int32) K (dk_of tL_team 13 rfl) (by decide) ?_
        exact r_iret 20 K hQ (dk_of tL_team 14 rfl) (Nat.le_refl _) (Nat.le_refl _) (lfi (s1 := (σ0, ω0)) (s2 := (σ, ω)) (fun u9 : St × (Nat → Int64) => wB γ h u9.1 ++ (wB γ g τ ++ (wS as9 (h 0) (g 0) an aq (ad 0) (ap 0) ++ (wN an (h 0) ν ++ (wR aq (h 0) ++ (wD γ ad δ ++ (wP γ ap π ++ (wO γ au u9.2 ++ (r))))))))) hR)
      · exact nn_ hR

def sp_L_move (p2 : Int32) (p3 : Int32) (σ : St) (ω : (Nat → Int64)) : Option (Int32 × St × (Nat → Int64)) := bc2 (sp_X9_move p2 p3 σ) (fun (x1 : Int32) (σ2 : St) => sl (vp_updL ω (0 : Int32).toNatClampNeg x1.toInt64) (fun ω3 : (Nat → Int64) => some ((0 : Int32), σ2, ω3))) (fun k9 => if k9 = 1 then (some ((1 : Int32), σ, ω)) else (if k9 = 3 then (some ((2 : Int32), σ, ω)) else (none)))
set_option maxHeartbeats 4000000 in
set_option maxRecDepth 100000 in
theorem ct_L_move {l : Launch} (hl : l.stackTraces = false) {γ : Gd} {h : Nat → Nat} {g : Nat → Nat} {as9 : Nat} {an : Nat} {aq : Nat} {ad : Nat → Nat} {ap : Nat → Nat} {au : Nat} {σ : St} {τ : St} {ν : (Nat → Int32)} {δ : St} {π : (St × Int64)} {ω : (Nat → Int64)} {r : va_W} {p2 : Int32} {p3 : Int32} {x0 : Int32} {σ0 : St} {ω0 : (Nat → Int64)} (hR : some (x0, σ0, ω0) = sp_L_move p2 p3 σ ω) : Ct l γ yL_move (Cond.codeWith yL_move cL_move 5 (some .int) [(0, 10, 13, 13), (0, 10, 17, 17)]) ({ frames := 8, cells := 1, slots := 6, locals := 127 } : Room) [.ref as9, .int p2, .int p3, .ref au] (wB γ h σ ++ (wB γ g τ ++ (wS as9 (h 0) (g 0) an aq (ad 0) (ap 0) ++ (wN an (h 0) ν ++ (wR aq (h 0) ++ (wD γ ad δ ++ (wP γ ap π ++ (wO γ au ω ++ (r))))))))) (Pr (some (.int x0)) (wB γ h σ0 ++ (wB γ g τ ++ (wS as9 (h 0) (g 0) an aq (ad 0) (ap 0) ++ (wN an (h 0) ν ++ (wR aq (h 0) ++ (wD γ ad δ ++ (wP γ ap π ++ (wO γ au ω0 ++ (r)))))))))) 1 6 := by
  refine Ct_ofH hl (by decide +kernel) rfl (Nat.le_of_ble_eq_true rfl) (L := [some (.ref as9), some (.int p2), some (.int p3), some (.ref au), none]) rfl ?_
  intro X Q K hQ
  generalize ((wB γ h σ ++ (wB γ g τ ++ (wS as9 (h 0) (g 0) an aq (ad 0) (ap 0) ++ (wN an (h 0) ν ++ (wR aq (h 0) ++ (wD γ ad δ ++ (wP γ ap π ++ (wO γ au ω ++ (r)))))))), Q) : MX) = M at K hQ ⊢
  unfold sp_L_move at hR
  refine r_aload_n 0 3 K (dk_of tL_move 0 rfl) rfl rfl ?_
  refine r_iconst 1 (0 : Int32) K (dk_of tL_move 1 rfl) (by decide) ?_
  refine r_aload_n 2 0 K (dk_of tL_move 2 rfl) rfl rfl ?_
  refine r_iload_n 3 1 K (dk_of tL_move 3 rfl) rfl rfl ?_
  refine r_iload_n 4 2 K (dk_of tL_move 4 rfl) rfl rfl ?_
  rcases oc2 hR with ⟨x1, σ2, hc, hR⟩ | ⟨k9, hc, hR⟩
  · refine r_cVi 5 52 [.int p2, .int p3] [.int (0 : Int32), .ref au] x1 (wB γ h σ2 ++ (wB γ g τ ++ (wS as9 (h 0) (g 0) an aq (ad 0) (ap 0) ++ (wN an (h 0) ν ++ (wR aq (h 0) ++ (wD γ ad δ ++ (wP γ ap π ++ (wO γ au ω ++ (r))))))))) K (ct_X9_move hl (z := .inl (x1, σ2)) hc.symm) cs_L_55 ⟨rfl, rfl, rfl⟩ (dk_of tL_move 5 rfl) rfl rfl rfl rfl rfl rfl ?_
    refine r_i2l 8 K (dk_of tL_move 6 rfl) ?_
    refine r_last 9 60 K (dk_of tL_move 7 rfl) rfl (vpd (by decide)) sO_0_btsnqdpu ?_
    refine r_nmS (fun ω3 : (Nat → Int64) => wB γ h σ2 ++ (wB γ g τ ++ (wS as9 (h 0) (g 0) an aq (ad 0) (ap 0) ++ (wN an (h 0) ν ++ (wR aq (h 0) ++ (wD γ ad δ ++ (wP γ ap π ++ (wO γ au ω3 ++ (r))))))))) hR (fun ω3 hR => ?_)
    refine r_goto 10 21 K (dk_of tL_move 8 rfl) (by decide) ?_
    refine r_iconst 21 (0 : Int32) K (dk_of tL_move 15 rfl) (by decide) ?_
    exact r_iret 22 K hQ (dk_of tL_move 16 rfl) (Nat.zero_le _) (Nat.zero_le _) (lfi (s1 := (σ0, ω0)) (s2 := (σ2, ω3)) (fun u9 : St × (Nat → Int64) => wB γ h u9.1 ++ (wB γ g τ ++ (wS as9 (h 0) (g 0) an aq (ad 0) (ap 0) ++ (wN an (h 0) ν ++ (wR aq (h 0) ++ (wD γ ad δ ++ (wP γ ap π ++ (wO γ au u9.2 ++ (r))))))))) hR)
  · refine r_case hR (fun e9 hR => ?_) (fun e9 hR => ?_)
    · subst e9
      refine r_xV (mc := 1) (ms := 6) 5 52 [.int p2, .int p3] [.int (0 : Int32), .ref au] 1 (wB γ h σ ++ (wB γ g τ ++ (wS as9 (h 0) (g 0) an aq (ad 0) (ap 0) ++ (wN an (h 0) ν ++ (wR aq (h 0) ++ (wD γ ad δ ++ (wP γ ap π ++ (wO γ au ω ++ (r))))))))) K (ct_X9_move hl (z := .inr 1) hc.symm) cs_L_55 ⟨rfl, rfl, rfl⟩ (dk_of tL_move 5 rfl) rfl rfl rfl rfl rfl ⟨by decide, by decide⟩ ?_
      refine r_catch 5 K [] ⟨0, 10, 13, 13⟩ [⟨0, 10, 17, 17⟩] rfl (fun z hz => by cases hz) rfl (by decide) w344 (List.mem_of_getElem? (i := 2) rfl) (fun q9 => ?_)
      refine r_astore 13 4 [some (.ref as9), some (.int p2), some (.int p3), some (.ref au), some (.ref q9)] K (dk_of tL_move 9 rfl) rfl rfl (by decide) ?_
      refine r_iconst 15 (1 : Int32) K (dk_of tL_move 10 rfl) (by decide) ?_
      exact r_iret 16 K hQ (dk_of tL_move 11 rfl) (Nat.le_refl _) (Nat.le_refl _) (lfi (s1 := (σ0, ω0)) (s2 := (σ, ω)) (fun u9 : St × (Nat → Int64) => wB γ h u9.1 ++ (wB γ g τ ++ (wS as9 (h 0) (g 0) an aq (ad 0) (ap 0) ++ (wN an (h 0) ν ++ (wR aq (h 0) ++ (wD γ ad δ ++ (wP γ ap π ++ (wO γ au u9.2 ++ (r))))))))) hR)
    · refine r_case hR (fun e9 hR => ?_) (fun e9 hR => ?_)
      · subst e9
        refine r_xV (mc := 1) (ms := 6) 5 52 [.int p2, .int p3] [.int (0 : Int32), .ref au] 3 (wB γ h σ ++ (wB γ g τ ++ (wS as9 (h 0) (g 0) an aq (ad 0) (ap 0) ++ (wN an (h 0) ν ++ (wR aq (h 0) ++ (wD γ ad δ ++ (wP γ ap π ++ (wO γ au ω ++ (r))))))))) K (ct_X9_move hl (z := .inr 3) hc.symm) cs_L_55 ⟨rfl, rfl, rfl⟩ (dk_of tL_move 5 rfl) rfl rfl rfl rfl rfl ⟨by decide, by decide⟩ ?_
        refine r_catch 5 K [⟨0, 10, 13, 13⟩] ⟨0, 10, 17, 17⟩ [] rfl (fun z hz => by rw [List.mem_singleton.mp hz]; exact ⟨by decide, 1, w344, List.mem_of_getElem? (i := 1) rfl⟩) rfl (by decide) w346 (List.mem_of_getElem? (i := 4) rfl) (fun q9 => ?_)
        refine r_astore 17 4 [some (.ref as9), some (.int p2), some (.int p3), some (.ref au), some (.ref q9)] K (dk_of tL_move 12 rfl) rfl rfl (by decide) ?_
        refine r_iconst 19 (2 : Int32) K (dk_of tL_move 13 rfl) (by decide) ?_
        exact r_iret 20 K hQ (dk_of tL_move 14 rfl) (Nat.le_refl _) (Nat.le_refl _) (lfi (s1 := (σ0, ω0)) (s2 := (σ, ω)) (fun u9 : St × (Nat → Int64) => wB γ h u9.1 ++ (wB γ g τ ++ (wS as9 (h 0) (g 0) an aq (ad 0) (ap 0) ++ (wN an (h 0) ν ++ (wR aq (h 0) ++ (wD γ ad δ ++ (wP γ ap π ++ (wO γ au u9.2 ++ (r))))))))) hR)
      · exact nn_ hR

def sp_L_carry (p2 : Int32) (σ : St) (δ : St) (ω : (Nat → Int64)) : Option (Int32 × St × St × (Nat → Int64)) := bc3 (sp_X9_carry p2 σ δ) (fun (x1 : Int32) (σ2 : St) (δ3 : St) => sl (vp_updL ω (0 : Int32).toNatClampNeg x1.toInt64) (fun ω4 : (Nat → Int64) => some ((0 : Int32), σ2, δ3, ω4))) (fun k9 => if k9 = 1 then (some ((1 : Int32), σ, δ, ω)) else (if k9 = 3 then (some ((2 : Int32), σ, δ, ω)) else (none)))
set_option maxHeartbeats 4000000 in
set_option maxRecDepth 100000 in
theorem ct_L_carry {l : Launch} (hl : l.stackTraces = false) {γ : Gd} {h : Nat → Nat} {g : Nat → Nat} {as9 : Nat} {an : Nat} {aq : Nat} {ad : Nat → Nat} {ap : Nat → Nat} {au : Nat} {σ : St} {τ : St} {ν : (Nat → Int32)} {δ : St} {π : (St × Int64)} {ω : (Nat → Int64)} {r : va_W} {p2 : Int32} {x0 : Int32} {σ0 : St} {δ0 : St} {ω0 : (Nat → Int64)} (hR : some (x0, σ0, δ0, ω0) = sp_L_carry p2 σ δ ω) : Ct l γ yL_carry (Cond.codeWith yL_carry cL_carry 4 (some .int) [(0, 9, 12, 13), (0, 9, 15, 17)]) ({ frames := 8, cells := 1, slots := 6, locals := 126 } : Room) [.ref as9, .int p2, .ref au] (wB γ h σ ++ (wB γ g τ ++ (wS as9 (h 0) (g 0) an aq (ad 0) (ap 0) ++ (wN an (h 0) ν ++ (wR aq (h 0) ++ (wD γ ad δ ++ (wP γ ap π ++ (wO γ au ω ++ (r))))))))) (Pr (some (.int x0)) (wB γ h σ0 ++ (wB γ g τ ++ (wS as9 (h 0) (g 0) an aq (ad 0) (ap 0) ++ (wN an (h 0) ν ++ (wR aq (h 0) ++ (wD γ ad δ0 ++ (wP γ ap π ++ (wO γ au ω0 ++ (r)))))))))) 1 6 := by
  refine Ct_ofH hl (by decide +kernel) rfl (Nat.le_of_ble_eq_true rfl) (L := [some (.ref as9), some (.int p2), some (.ref au), none]) rfl ?_
  intro X Q K hQ
  generalize ((wB γ h σ ++ (wB γ g τ ++ (wS as9 (h 0) (g 0) an aq (ad 0) (ap 0) ++ (wN an (h 0) ν ++ (wR aq (h 0) ++ (wD γ ad δ ++ (wP γ ap π ++ (wO γ au ω ++ (r)))))))), Q) : MX) = M at K hQ ⊢
  unfold sp_L_carry at hR
  refine r_aload_n 0 2 K (dk_of tL_carry 0 rfl) rfl rfl ?_
  refine r_iconst 1 (0 : Int32) K (dk_of tL_carry 1 rfl) (by decide) ?_
  refine r_aload_n 2 0 K (dk_of tL_carry 2 rfl) rfl rfl ?_
  refine r_iload_n 3 1 K (dk_of tL_carry 3 rfl) rfl rfl ?_
  rcases oc3 hR with ⟨x1, σ2, δ3, hc, hR⟩ | ⟨k9, hc, hR⟩
  · refine r_cVi 4 52 [.int p2] [.int (0 : Int32), .ref au] x1 (wB γ h σ2 ++ (wB γ g τ ++ (wS as9 (h 0) (g 0) an aq (ad 0) (ap 0) ++ (wN an (h 0) ν ++ (wR aq (h 0) ++ (wD γ ad δ3 ++ (wP γ ap π ++ (wO γ au ω ++ (r))))))))) K (ct_X9_carry hl (z := .inl (x1, σ2, δ3)) hc.symm) cs_L_58 ⟨rfl, rfl, rfl⟩ (dk_of tL_carry 4 rfl) rfl rfl rfl rfl rfl rfl ?_
    refine r_i2l 7 K (dk_of tL_carry 5 rfl) ?_
    refine r_last 8 60 K (dk_of tL_carry 6 rfl) rfl (vpd (by decide)) sO_0_btsnqdpu ?_
    refine r_nmS (fun ω4 : (Nat → Int64) => wB γ h σ2 ++ (wB γ g τ ++ (wS as9 (h 0) (g 0) an aq (ad 0) (ap 0) ++ (wN an (h 0) ν ++ (wR aq (h 0) ++ (wD γ ad δ3 ++ (wP γ ap π ++ (wO γ au ω4 ++ (r))))))))) hR (fun ω4 hR => ?_)
    refine r_goto 9 18 K (dk_of tL_carry 7 rfl) (by decide) ?_
    refine r_iconst 18 (0 : Int32) K (dk_of tL_carry 14 rfl) (by decide) ?_
    exact r_iret 19 K hQ (dk_of tL_carry 15 rfl) (Nat.zero_le _) (Nat.zero_le _) (lfi (s1 := (σ0, δ0, ω0)) (s2 := (σ2, δ3, ω4)) (fun u9 : St × St × (Nat → Int64) => wB γ h u9.1 ++ (wB γ g τ ++ (wS as9 (h 0) (g 0) an aq (ad 0) (ap 0) ++ (wN an (h 0) ν ++ (wR aq (h 0) ++ (wD γ ad u9.2.1 ++ (wP γ ap π ++ (wO γ au u9.2.2 ++ (r))))))))) hR)
  · refine r_case hR (fun e9 hR => ?_) (fun e9 hR => ?_)
    · subst e9
      refine r_xV (mc := 1) (ms := 6) 4 52 [.int p2] [.int (0 : Int32), .ref au] 1 (wB γ h σ ++ (wB γ g τ ++ (wS as9 (h 0) (g 0) an aq (ad 0) (ap 0) ++ (wN an (h 0) ν ++ (wR aq (h 0) ++ (wD γ ad δ ++ (wP γ ap π ++ (wO γ au ω ++ (r))))))))) K (ct_X9_carry hl (z := .inr 1) hc.symm) cs_L_58 ⟨rfl, rfl, rfl⟩ (dk_of tL_carry 4 rfl) rfl rfl rfl rfl rfl ⟨by decide, by decide⟩ ?_
      refine r_catch 4 K [] ⟨0, 9, 12, 13⟩ [⟨0, 9, 15, 17⟩] rfl (fun z hz => by cases hz) rfl (by decide) w344 (List.mem_of_getElem? (i := 2) rfl) (fun q9 => ?_)
      refine r_astore_n 12 3 [some (.ref as9), some (.int p2), some (.ref au), some (.ref q9)] K (dk_of tL_carry 8 rfl) rfl rfl rfl (by decide) ?_
      refine r_iconst 13 (1 : Int32) K (dk_of tL_carry 9 rfl) (by decide) ?_
      exact r_iret 14 K hQ (dk_of tL_carry 10 rfl) (Nat.le_refl _) (Nat.le_refl _) (lfi (s1 := (σ0, δ0, ω0)) (s2 := (σ, δ, ω)) (fun u9 : St × St × (Nat → Int64) => wB γ h u9.1 ++ (wB γ g τ ++ (wS as9 (h 0) (g 0) an aq (ad 0) (ap 0) ++ (wN an (h 0) ν ++ (wR aq (h 0) ++ (wD γ ad u9.2.1 ++ (wP γ ap π ++ (wO γ au u9.2.2 ++ (r))))))))) hR)
    · refine r_case hR (fun e9 hR => ?_) (fun e9 hR => ?_)
      · subst e9
        refine r_xV (mc := 1) (ms := 6) 4 52 [.int p2] [.int (0 : Int32), .ref au] 3 (wB γ h σ ++ (wB γ g τ ++ (wS as9 (h 0) (g 0) an aq (ad 0) (ap 0) ++ (wN an (h 0) ν ++ (wR aq (h 0) ++ (wD γ ad δ ++ (wP γ ap π ++ (wO γ au ω ++ (r))))))))) K (ct_X9_carry hl (z := .inr 3) hc.symm) cs_L_58 ⟨rfl, rfl, rfl⟩ (dk_of tL_carry 4 rfl) rfl rfl rfl rfl rfl ⟨by decide, by decide⟩ ?_
        refine r_catch 4 K [⟨0, 9, 12, 13⟩] ⟨0, 9, 15, 17⟩ [] rfl (fun z hz => by rw [List.mem_singleton.mp hz]; exact ⟨by decide, 1, w344, List.mem_of_getElem? (i := 1) rfl⟩) rfl (by decide) w346 (List.mem_of_getElem? (i := 4) rfl) (fun q9 => ?_)
        refine r_astore_n 15 3 [some (.ref as9), some (.int p2), some (.ref au), some (.ref q9)] K (dk_of tL_carry 11 rfl) rfl rfl rfl (by decide) ?_
        refine r_iconst 16 (2 : Int32) K (dk_of tL_carry 12 rfl) (by decide) ?_
        exact r_iret 17 K hQ (dk_of tL_carry 13 rfl) (Nat.le_refl _) (Nat.le_refl _) (lfi (s1 := (σ0, δ0, ω0)) (s2 := (σ, δ, ω)) (fun u9 : St × St × (Nat → Int64) => wB γ h u9.1 ++ (wB γ g τ ++ (wS as9 (h 0) (g 0) an aq (ad 0) (ap 0) ++ (wN an (h 0) ν ++ (wR aq (h 0) ++ (wD γ ad u9.2.1 ++ (wP γ ap π ++ (wO γ au u9.2.2 ++ (r))))))))) hR)
      · exact nn_ hR

def sp_L_teach (p2 : Int32) (σ : St) (ω : (Nat → Int64)) : Option (Int32 × St × (Nat → Int64)) := bc2 (sp_X9_teach p2 σ) (fun (x1 : Int32) (σ2 : St) => if x1 = 0 then (sl (vp_updL ω (0 : Int32).toNatClampNeg (0 : Int64)) (fun ω3 : (Nat → Int64) => some ((0 : Int32), σ2, ω3))) else (sl (vp_updL ω (0 : Int32).toNatClampNeg (1 : Int64)) (fun ω4 : (Nat → Int64) => some ((0 : Int32), σ2, ω4)))) (fun k9 => if k9 = 1 then (some ((1 : Int32), σ, ω)) else (if k9 = 3 then (some ((2 : Int32), σ, ω)) else (none)))
set_option maxHeartbeats 4000000 in
set_option maxRecDepth 100000 in
theorem ct_L_teach {l : Launch} (hl : l.stackTraces = false) {γ : Gd} {h : Nat → Nat} {g : Nat → Nat} {as9 : Nat} {an : Nat} {aq : Nat} {ad : Nat → Nat} {ap : Nat → Nat} {au : Nat} {σ : St} {τ : St} {ν : (Nat → Int32)} {δ : St} {π : (St × Int64)} {ω : (Nat → Int64)} {r : va_W} {p2 : Int32} {x0 : Int32} {σ0 : St} {ω0 : (Nat → Int64)} (hR : some (x0, σ0, ω0) = sp_L_teach p2 σ ω) : Ct l γ yL_teach (Cond.codeWith yL_teach cL_teach 4 (some .int) [(0, 16, 19, 13), (0, 16, 22, 17)]) ({ frames := 8, cells := 1, slots := 6, locals := 126 } : Room) [.ref as9, .int p2, .ref au] (wB γ h σ ++ (wB γ g τ ++ (wS as9 (h 0) (g 0) an aq (ad 0) (ap 0) ++ (wN an (h 0) ν ++ (wR aq (h 0) ++ (wD γ ad δ ++ (wP γ ap π ++ (wO γ au ω ++ (r))))))))) (Pr (some (.int x0)) (wB γ h σ0 ++ (wB γ g τ ++ (wS as9 (h 0) (g 0) an aq (ad 0) (ap 0) ++ (wN an (h 0) ν ++ (wR aq (h 0) ++ (wD γ ad δ ++ (wP γ ap π ++ (wO γ au ω0 ++ (r)))))))))) 1 6 := by
  refine Ct_ofH hl (by decide +kernel) rfl (Nat.le_of_ble_eq_true rfl) (L := [some (.ref as9), some (.int p2), some (.ref au), none]) rfl ?_
  intro X Q K hQ
  generalize ((wB γ h σ ++ (wB γ g τ ++ (wS as9 (h 0) (g 0) an aq (ad 0) (ap 0) ++ (wN an (h 0) ν ++ (wR aq (h 0) ++ (wD γ ad δ ++ (wP γ ap π ++ (wO γ au ω ++ (r)))))))), Q) : MX) = M at K hQ ⊢
  unfold sp_L_teach at hR
  refine r_aload_n 0 2 K (dk_of tL_teach 0 rfl) rfl rfl ?_
  refine r_iconst 1 (0 : Int32) K (dk_of tL_teach 1 rfl) (by decide) ?_
  refine r_aload_n 2 0 K (dk_of tL_teach 2 rfl) rfl rfl ?_
  refine r_iload_n 3 1 K (dk_of tL_teach 3 rfl) rfl rfl ?_
  rcases oc2 hR with ⟨x1, σ2, hc, hR⟩ | ⟨k9, hc, hR⟩
  · refine r_cVi 4 52 [.int p2] [.int (0 : Int32), .ref au] x1 (wB γ h σ2 ++ (wB γ g τ ++ (wS as9 (h 0) (g 0) an aq (ad 0) (ap 0) ++ (wN an (h 0) ν ++ (wR aq (h 0) ++ (wD γ ad δ ++ (wP γ ap π ++ (wO γ au ω ++ (r))))))))) K (ct_X9_teach hl (z := .inl (x1, σ2)) hc.symm) cs_L_61 ⟨rfl, rfl, rfl⟩ (dk_of tL_teach 4 rfl) rfl rfl rfl rfl rfl rfl ?_
    refine r_if_eq 7 14 K (dk_of tL_teach 5 rfl) (by decide) hR (fun hR => ?_) (fun hR => ?_)
    · refine r_lconst 14 0 K (dk_of tL_teach 8 rfl) (by decide) ?_
      refine r_last 15 60 K (dk_of tL_teach 9 rfl) rfl (vpd (by decide)) sO_0_btsnqdpu ?_
      refine r_nmS (fun ω3 : (Nat → Int64) => wB γ h σ2 ++ (wB γ g τ ++ (wS as9 (h 0) (g 0) an aq (ad 0) (ap 0) ++ (wN an (h 0) ν ++ (wR aq (h 0) ++ (wD γ ad δ ++ (wP γ ap π ++ (wO γ au ω3 ++ (r))))))))) hR (fun ω3 hR => ?_)
      refine r_goto 16 25 K (dk_of tL_teach 10 rfl) (by decide) ?_
      refine r_iconst 25 (0 : Int32) K (dk_of tL_teach 17 rfl) (by decide) ?_
      exact r_iret 26 K hQ (dk_of tL_teach 18 rfl) (Nat.zero_le _) (Nat.zero_le _) (lfi (s1 := (σ0, ω0)) (s2 := (σ2, ω3)) (fun u9 : St × (Nat → Int64) => wB γ h u9.1 ++ (wB γ g τ ++ (wS as9 (h 0) (g 0) an aq (ad 0) (ap 0) ++ (wN an (h 0) ν ++ (wR aq (h 0) ++ (wD γ ad δ ++ (wP γ ap π ++ (wO γ au u9.2 ++ (r))))))))) hR)
    · refine r_lconst 10 1 K (dk_of tL_teach 6 rfl) (by decide) ?_
      refine r_goto 11 15 K (dk_of tL_teach 7 rfl) (by decide) ?_
      refine r_last 15 60 K (dk_of tL_teach 9 rfl) rfl (vpd (by decide)) sO_0_btsnqdpu ?_
      refine r_nmS (fun ω4 : (Nat → Int64) => wB γ h σ2 ++ (wB γ g τ ++ (wS as9 (h 0) (g 0) an aq (ad 0) (ap 0) ++ (wN an (h 0) ν ++ (wR aq (h 0) ++ (wD γ ad δ ++ (wP γ ap π ++ (wO γ au ω4 ++ (r))))))))) hR (fun ω4 hR => ?_)
      refine r_goto 16 25 K (dk_of tL_teach 10 rfl) (by decide) ?_
      refine r_iconst 25 (0 : Int32) K (dk_of tL_teach 17 rfl) (by decide) ?_
      exact r_iret 26 K hQ (dk_of tL_teach 18 rfl) (Nat.zero_le _) (Nat.zero_le _) (lfi (s1 := (σ0, ω0)) (s2 := (σ2, ω4)) (fun u9 : St × (Nat → Int64) => wB γ h u9.1 ++ (wB γ g τ ++ (wS as9 (h 0) (g 0) an aq (ad 0) (ap 0) ++ (wN an (h 0) ν ++ (wR aq (h 0) ++ (wD γ ad δ ++ (wP γ ap π ++ (wO γ au u9.2 ++ (r))))))))) hR)
  · refine r_case hR (fun e9 hR => ?_) (fun e9 hR => ?_)
    · subst e9
      refine r_xV (mc := 1) (ms := 6) 4 52 [.int p2] [.int (0 : Int32), .ref au] 1 (wB γ h σ ++ (wB γ g τ ++ (wS as9 (h 0) (g 0) an aq (ad 0) (ap 0) ++ (wN an (h 0) ν ++ (wR aq (h 0) ++ (wD γ ad δ ++ (wP γ ap π ++ (wO γ au ω ++ (r))))))))) K (ct_X9_teach hl (z := .inr 1) hc.symm) cs_L_61 ⟨rfl, rfl, rfl⟩ (dk_of tL_teach 4 rfl) rfl rfl rfl rfl rfl ⟨by decide, by decide⟩ ?_
      refine r_catch 4 K [] ⟨0, 16, 19, 13⟩ [⟨0, 16, 22, 17⟩] rfl (fun z hz => by cases hz) rfl (by decide) w344 (List.mem_of_getElem? (i := 2) rfl) (fun q9 => ?_)
      refine r_astore_n 19 3 [some (.ref as9), some (.int p2), some (.ref au), some (.ref q9)] K (dk_of tL_teach 11 rfl) rfl rfl rfl (by decide) ?_
      refine r_iconst 20 (1 : Int32) K (dk_of tL_teach 12 rfl) (by decide) ?_
      exact r_iret 21 K hQ (dk_of tL_teach 13 rfl) (Nat.le_refl _) (Nat.le_refl _) (lfi (s1 := (σ0, ω0)) (s2 := (σ, ω)) (fun u9 : St × (Nat → Int64) => wB γ h u9.1 ++ (wB γ g τ ++ (wS as9 (h 0) (g 0) an aq (ad 0) (ap 0) ++ (wN an (h 0) ν ++ (wR aq (h 0) ++ (wD γ ad δ ++ (wP γ ap π ++ (wO γ au u9.2 ++ (r))))))))) hR)
    · refine r_case hR (fun e9 hR => ?_) (fun e9 hR => ?_)
      · subst e9
        refine r_xV (mc := 1) (ms := 6) 4 52 [.int p2] [.int (0 : Int32), .ref au] 3 (wB γ h σ ++ (wB γ g τ ++ (wS as9 (h 0) (g 0) an aq (ad 0) (ap 0) ++ (wN an (h 0) ν ++ (wR aq (h 0) ++ (wD γ ad δ ++ (wP γ ap π ++ (wO γ au ω ++ (r))))))))) K (ct_X9_teach hl (z := .inr 3) hc.symm) cs_L_61 ⟨rfl, rfl, rfl⟩ (dk_of tL_teach 4 rfl) rfl rfl rfl rfl rfl ⟨by decide, by decide⟩ ?_
        refine r_catch 4 K [⟨0, 16, 19, 13⟩] ⟨0, 16, 22, 17⟩ [] rfl (fun z hz => by rw [List.mem_singleton.mp hz]; exact ⟨by decide, 1, w344, List.mem_of_getElem? (i := 1) rfl⟩) rfl (by decide) w346 (List.mem_of_getElem? (i := 4) rfl) (fun q9 => ?_)
        refine r_astore_n 22 3 [some (.ref as9), some (.int p2), some (.ref au), some (.ref q9)] K (dk_of tL_teach 14 rfl) rfl rfl rfl (by decide) ?_
        refine r_iconst 23 (2 : Int32) K (dk_of tL_teach 15 rfl) (by decide) ?_
        exact r_iret 24 K hQ (dk_of tL_teach 16 rfl) (Nat.le_refl _) (Nat.le_refl _) (lfi (s1 := (σ0, ω0)) (s2 := (σ, ω)) (fun u9 : St × (Nat → Int64) => wB γ h u9.1 ++ (wB γ g τ ++ (wS as9 (h 0) (g 0) an aq (ad 0) (ap 0) ++ (wN an (h 0) ν ++ (wR aq (h 0) ++ (wD γ ad δ ++ (wP γ ap π ++ (wO γ au u9.2 ++ (r))))))))) hR)
      · exact nn_ hR

def sp_L_clean (p2 : Int32) (p3 : Int32) (σ : St) (δ : St) (ω : (Nat → Int64)) : Option (Int32 × St × St × (Nat → Int64)) := bc3 (sp_X9_clean p2 p3 σ δ) (fun (x1 : Int32) (σ2 : St) (δ3 : St) => sl (vp_updL ω (0 : Int32).toNatClampNeg x1.toInt64) (fun ω4 : (Nat → Int64) => some ((0 : Int32), σ2, δ3, ω4))) (fun k9 => if k9 = 1 then (some ((1 : Int32), σ, δ, ω)) else (if k9 = 3 then (some ((2 : Int32), σ, δ, ω)) else (none)))
set_option maxHeartbeats 4000000 in
set_option maxRecDepth 100000 in
theorem ct_L_clean {l : Launch} (hl : l.stackTraces = false) {γ : Gd} {h : Nat → Nat} {g : Nat → Nat} {as9 : Nat} {an : Nat} {aq : Nat} {ad : Nat → Nat} {ap : Nat → Nat} {au : Nat} {σ : St} {τ : St} {ν : (Nat → Int32)} {δ : St} {π : (St × Int64)} {ω : (Nat → Int64)} {r : va_W} {p2 : Int32} {p3 : Int32} {x0 : Int32} {σ0 : St} {δ0 : St} {ω0 : (Nat → Int64)} (hR : some (x0, σ0, δ0, ω0) = sp_L_clean p2 p3 σ δ ω) : Ct l γ yL_clean (Cond.codeWith yL_clean cL_clean 5 (some .int) [(0, 10, 13, 13), (0, 10, 17, 17)]) ({ frames := 8, cells := 1, slots := 6, locals := 127 } : Room) [.ref as9, .int p2, .int p3, .ref au] (wB γ h σ ++ (wB γ g τ ++ (wS as9 (h 0) (g 0) an aq (ad 0) (ap 0) ++ (wN an (h 0) ν ++ (wR aq (h 0) ++ (wD γ ad δ ++ (wP γ ap π ++ (wO γ au ω ++ (r))))))))) (Pr (some (.int x0)) (wB γ h σ0 ++ (wB γ g τ ++ (wS as9 (h 0) (g 0) an aq (ad 0) (ap 0) ++ (wN an (h 0) ν ++ (wR aq (h 0) ++ (wD γ ad δ0 ++ (wP γ ap π ++ (wO γ au ω0 ++ (r)))))))))) 1 6 := by
  refine Ct_ofH hl (by decide +kernel) rfl (Nat.le_of_ble_eq_true rfl) (L := [some (.ref as9), some (.int p2), some (.int p3), some (.ref au), none]) rfl ?_
  intro X Q K hQ
  generalize ((wB γ h σ ++ (wB γ g τ ++ (wS as9 (h 0) (g 0) an aq (ad 0) (ap 0) ++ (wN an (h 0) ν ++ (wR aq (h 0) ++ (wD γ ad δ ++ (wP γ ap π ++ (wO γ au ω ++ (r)))))))), Q) : MX) = M at K hQ ⊢
  unfold sp_L_clean at hR
  refine r_aload_n 0 3 K (dk_of tL_clean 0 rfl) rfl rfl ?_
  refine r_iconst 1 (0 : Int32) K (dk_of tL_clean 1 rfl) (by decide) ?_
  refine r_aload_n 2 0 K (dk_of tL_clean 2 rfl) rfl rfl ?_
  refine r_iload_n 3 1 K (dk_of tL_clean 3 rfl) rfl rfl ?_
  refine r_iload_n 4 2 K (dk_of tL_clean 4 rfl) rfl rfl ?_
  rcases oc3 hR with ⟨x1, σ2, δ3, hc, hR⟩ | ⟨k9, hc, hR⟩
  · refine r_cVi 5 52 [.int p2, .int p3] [.int (0 : Int32), .ref au] x1 (wB γ h σ2 ++ (wB γ g τ ++ (wS as9 (h 0) (g 0) an aq (ad 0) (ap 0) ++ (wN an (h 0) ν ++ (wR aq (h 0) ++ (wD γ ad δ3 ++ (wP γ ap π ++ (wO γ au ω ++ (r))))))))) K (ct_X9_clean hl (z := .inl (x1, σ2, δ3)) hc.symm) cs_L_65 ⟨rfl, rfl, rfl⟩ (dk_of tL_clean 5 rfl) rfl rfl rfl rfl rfl rfl ?_
    refine r_i2l 8 K (dk_of tL_clean 6 rfl) ?_
    refine r_last 9 60 K (dk_of tL_clean 7 rfl) rfl (vpd (by decide)) sO_0_btsnqdpu ?_
    refine r_nmS (fun ω4 : (Nat → Int64) => wB γ h σ2 ++ (wB γ g τ ++ (wS as9 (h 0) (g 0) an aq (ad 0) (ap 0) ++ (wN an (h 0) ν ++ (wR aq (h 0) ++ (wD γ ad δ3 ++ (wP γ ap π ++ (wO γ au ω4 ++ (r))))))))) hR (fun ω4 hR => ?_)
    refine r_goto 10 21 K (dk_of tL_clean 8 rfl) (by decide) ?_
    refine r_iconst 21 (0 : Int32) K (dk_of tL_clean 15 rfl) (by decide) ?_
    exact r_iret 22 K hQ (dk_of tL_clean 16 rfl) (Nat.zero_le _) (Nat.zero_le _) (lfi (s1 := (σ0, δ0, ω0)) (s2 := (σ2, δ3, ω4)) (fun u9 : St × St × (Nat → Int64) => wB γ h u9.1 ++ (wB γ g τ ++ (wS as9 (h 0) (g 0) an aq (ad 0) (ap 0) ++ (wN an (h 0) ν ++ (wR aq (h 0) ++ (wD γ ad u9.2.1 ++ (wP γ ap π ++ (wO γ au u9.2.2 ++ (r))))))))) hR)
  · refine r_case hR (fun e9 hR => ?_) (fun e9 hR => ?_)
    · subst e9
      refine r_xV (mc := 1) (ms := 6) 5 52 [.int p2, .int p3] [.int (0 : Int32), .ref au] 1 (wB γ h σ ++ (wB γ g τ ++ (wS as9 (h 0) (g 0) an aq (ad 0) (ap 0) ++ (wN an (h 0) ν ++ (wR aq (h 0) ++ (wD γ ad δ ++ (wP γ ap π ++ (wO γ au ω ++ (r))))))))) K (ct_X9_clean hl (z := .inr 1) hc.symm) cs_L_65 ⟨rfl, rfl, rfl⟩ (dk_of tL_clean 5 rfl) rfl rfl rfl rfl rfl ⟨by decide, by decide⟩ ?_
      refine r_catch 5 K [] ⟨0, 10, 13, 13⟩ [⟨0, 10, 17, 17⟩] rfl (fun z hz => by cases hz) rfl (by decide) w344 (List.mem_of_getElem? (i := 2) rfl) (fun q9 => ?_)
      refine r_astore 13 4 [some (.ref as9), some (.int p2), some (.int p3), some (.ref au), some (.ref q9)] K (dk_of tL_clean 9 rfl) rfl rfl (by decide) ?_
      refine r_iconst 15 (1 : Int32) K (dk_of tL_clean 10 rfl) (by decide) ?_
      exact r_iret 16 K hQ (dk_of tL_clean 11 rfl) (Nat.le_refl _) (Nat.le_refl _) (lfi (s1 := (σ0, δ0, ω0)) (s2 := (σ, δ, ω)) (fun u9 : St × St × (Nat → Int64) => wB γ h u9.1 ++ (wB γ g τ ++ (wS as9 (h 0) (g 0) an aq (ad 0) (ap 0) ++ (wN an (h 0) ν ++ (wR aq (h 0) ++ (wD γ ad u9.2.1 ++ (wP γ ap π ++ (wO γ au u9.2.2 ++ (r))))))))) hR)
    · refine r_case hR (fun e9 hR => ?_) (fun e9 hR => ?_)
      · subst e9
        refine r_xV (mc := 1) (ms := 6) 5 52 [.int p2, .int p3] [.int (0 : Int32), .ref au] 3 (wB γ h σ ++ (wB γ g τ ++ (wS as9 (h 0) (g 0) an aq (ad 0) (ap 0) ++ (wN an (h 0) ν ++ (wR aq (h 0) ++ (wD γ ad δ ++ (wP γ ap π ++ (wO γ au ω ++ (r))))))))) K (ct_X9_clean hl (z := .inr 3) hc.symm) cs_L_65 ⟨rfl, rfl, rfl⟩ (dk_of tL_clean 5 rfl) rfl rfl rfl rfl rfl ⟨by decide, by decide⟩ ?_
        refine r_catch 5 K [⟨0, 10, 13, 13⟩] ⟨0, 10, 17, 17⟩ [] rfl (fun z hz => by rw [List.mem_singleton.mp hz]; exact ⟨by decide, 1, w344, List.mem_of_getElem? (i := 1) rfl⟩) rfl (by decide) w346 (List.mem_of_getElem? (i := 4) rfl) (fun q9 => ?_)
        refine r_astore 17 4 [some (.ref as9), some (.int p2), some (.int p3), some (.ref au), some (.ref q9)] K (dk_of tL_clean 12 rfl) rfl rfl (by decide) ?_
        refine r_iconst 19 (2 : Int32) K (dk_of tL_clean 13 rfl) (by decide) ?_
        exact r_iret 20 K hQ (dk_of tL_clean 14 rfl) (Nat.le_refl _) (Nat.le_refl _) (lfi (s1 := (σ0, δ0, ω0)) (s2 := (σ, δ, ω)) (fun u9 : St × St × (Nat → Int64) => wB γ h u9.1 ++ (wB γ g τ ++ (wS as9 (h 0) (g 0) an aq (ad 0) (ap 0) ++ (wN an (h 0) ν ++ (wR aq (h 0) ++ (wD γ ad u9.2.1 ++ (wP γ ap π ++ (wO γ au u9.2.2 ++ (r))))))))) hR)
      · exact nn_ hR

def sp_L_meanIs (p2 : Int32) (p3 : Int32) (σ : St) (ω : (Nat → Int64)) : Option (Int32 × (Nat → Int64)) := bc1 (sp_X9_meanIs p2 p3 σ) (fun (x1 : Int32) => sl (vp_updL ω (0 : Int32).toNatClampNeg x1.toInt64) (fun ω2 : (Nat → Int64) => some ((0 : Int32), ω2))) (fun k9 => if k9 = 1 then (some ((1 : Int32), ω)) else (if k9 = 2 then (some ((2 : Int32), ω)) else (none)))
set_option maxHeartbeats 4000000 in
set_option maxRecDepth 100000 in
theorem ct_L_meanIs {l : Launch} (hl : l.stackTraces = false) {γ : Gd} {h : Nat → Nat} {g : Nat → Nat} {as9 : Nat} {an : Nat} {aq : Nat} {ad : Nat → Nat} {ap : Nat → Nat} {au : Nat} {σ : St} {τ : St} {ν : (Nat → Int32)} {δ : St} {π : (St × Int64)} {ω : (Nat → Int64)} {r : va_W} {p2 : Int32} {p3 : Int32} {x0 : Int32} {ω0 : (Nat → Int64)} (hR : some (x0, ω0) = sp_L_meanIs p2 p3 σ ω) : Ct l γ yL_meanIs (Cond.codeWith yL_meanIs cL_meanIs 5 (some .int) [(0, 10, 13, 13), (0, 10, 17, 15)]) ({ frames := 8, cells := 1, slots := 6, locals := 126 } : Room) [.ref as9, .int p2, .int p3, .ref au] (wB γ h σ ++ (wB γ g τ ++ (wS as9 (h 0) (g 0) an aq (ad 0) (ap 0) ++ (wN an (h 0) ν ++ (wR aq (h 0) ++ (wD γ ad δ ++ (wP γ ap π ++ (wO γ au ω ++ (r))))))))) (Pr (some (.int x0)) (wB γ h σ ++ (wB γ g τ ++ (wS as9 (h 0) (g 0) an aq (ad 0) (ap 0) ++ (wN an (h 0) ν ++ (wR aq (h 0) ++ (wD γ ad δ ++ (wP γ ap π ++ (wO γ au ω0 ++ (r)))))))))) 1 6 := by
  refine Ct_ofH hl (by decide +kernel) rfl (Nat.le_of_ble_eq_true rfl) (L := [some (.ref as9), some (.int p2), some (.int p3), some (.ref au), none]) rfl ?_
  intro X Q K hQ
  generalize ((wB γ h σ ++ (wB γ g τ ++ (wS as9 (h 0) (g 0) an aq (ad 0) (ap 0) ++ (wN an (h 0) ν ++ (wR aq (h 0) ++ (wD γ ad δ ++ (wP γ ap π ++ (wO γ au ω ++ (r)))))))), Q) : MX) = M at K hQ ⊢
  unfold sp_L_meanIs at hR
  refine r_aload_n 0 3 K (dk_of tL_meanIs 0 rfl) rfl rfl ?_
  refine r_iconst 1 (0 : Int32) K (dk_of tL_meanIs 1 rfl) (by decide) ?_
  refine r_aload_n 2 0 K (dk_of tL_meanIs 2 rfl) rfl rfl ?_
  refine r_iload_n 3 1 K (dk_of tL_meanIs 3 rfl) rfl rfl ?_
  refine r_iload_n 4 2 K (dk_of tL_meanIs 4 rfl) rfl rfl ?_
  rcases oc1 hR with ⟨x1, hc, hR⟩ | ⟨k9, hc, hR⟩
  · refine r_cVi 5 52 [.int p2, .int p3] [.int (0 : Int32), .ref au] x1 (wB γ h σ ++ (wB γ g τ ++ (wS as9 (h 0) (g 0) an aq (ad 0) (ap 0) ++ (wN an (h 0) ν ++ (wR aq (h 0) ++ (wD γ ad δ ++ (wP γ ap π ++ (wO γ au ω ++ (r))))))))) K (ct_X9_meanIs hl (z := .inl x1) hc.symm) cs_L_68 ⟨rfl, rfl, rfl⟩ (dk_of tL_meanIs 5 rfl) rfl rfl rfl rfl rfl rfl ?_
    refine r_i2l 8 K (dk_of tL_meanIs 6 rfl) ?_
    refine r_last 9 60 K (dk_of tL_meanIs 7 rfl) rfl (vpd (by decide)) sO_0_btsnqdpu ?_
    refine r_nmS (fun ω2 : (Nat → Int64) => wB γ h σ ++ (wB γ g τ ++ (wS as9 (h 0) (g 0) an aq (ad 0) (ap 0) ++ (wN an (h 0) ν ++ (wR aq (h 0) ++ (wD γ ad δ ++ (wP γ ap π ++ (wO γ au ω2 ++ (r))))))))) hR (fun ω2 hR => ?_)
    refine r_goto 10 21 K (dk_of tL_meanIs 8 rfl) (by decide) ?_
    refine r_iconst 21 (0 : Int32) K (dk_of tL_meanIs 15 rfl) (by decide) ?_
    exact r_iret 22 K hQ (dk_of tL_meanIs 16 rfl) (Nat.zero_le _) (Nat.zero_le _) (lfi (s1 := ω0) (s2 := ω2) (fun u9 : (Nat → Int64) => wB γ h σ ++ (wB γ g τ ++ (wS as9 (h 0) (g 0) an aq (ad 0) (ap 0) ++ (wN an (h 0) ν ++ (wR aq (h 0) ++ (wD γ ad δ ++ (wP γ ap π ++ (wO γ au u9 ++ (r))))))))) hR)
  · refine r_case hR (fun e9 hR => ?_) (fun e9 hR => ?_)
    · subst e9
      refine r_xV (mc := 1) (ms := 6) 5 52 [.int p2, .int p3] [.int (0 : Int32), .ref au] 1 (wB γ h σ ++ (wB γ g τ ++ (wS as9 (h 0) (g 0) an aq (ad 0) (ap 0) ++ (wN an (h 0) ν ++ (wR aq (h 0) ++ (wD γ ad δ ++ (wP γ ap π ++ (wO γ au ω ++ (r))))))))) K (ct_X9_meanIs hl (z := .inr 1) hc.symm) cs_L_68 ⟨rfl, rfl, rfl⟩ (dk_of tL_meanIs 5 rfl) rfl rfl rfl rfl rfl ⟨by decide, by decide⟩ ?_
      refine r_catch 5 K [] ⟨0, 10, 13, 13⟩ [⟨0, 10, 17, 15⟩] rfl (fun z hz => by cases hz) rfl (by decide) w344 (List.mem_of_getElem? (i := 2) rfl) (fun q9 => ?_)
      refine r_astore 13 4 [some (.ref as9), some (.int p2), some (.int p3), some (.ref au), some (.ref q9)] K (dk_of tL_meanIs 9 rfl) rfl rfl (by decide) ?_
      refine r_iconst 15 (1 : Int32) K (dk_of tL_meanIs 10 rfl) (by decide) ?_
      exact r_iret 16 K hQ (dk_of tL_meanIs 11 rfl) (Nat.le_refl _) (Nat.le_refl _) (lfi (s1 := ω0) (s2 := ω) (fun u9 : (Nat → Int64) => wB γ h σ ++ (wB γ g τ ++ (wS as9 (h 0) (g 0) an aq (ad 0) (ap 0) ++ (wN an (h 0) ν ++ (wR aq (h 0) ++ (wD γ ad δ ++ (wP γ ap π ++ (wO γ au u9 ++ (r))))))))) hR)
    · refine r_case hR (fun e9 hR => ?_) (fun e9 hR => ?_)
      · subst e9
        refine r_xV (mc := 1) (ms := 6) 5 52 [.int p2, .int p3] [.int (0 : Int32), .ref au] 2 (wB γ h σ ++ (wB γ g τ ++ (wS as9 (h 0) (g 0) an aq (ad 0) (ap 0) ++ (wN an (h 0) ν ++ (wR aq (h 0) ++ (wD γ ad δ ++ (wP γ ap π ++ (wO γ au ω ++ (r))))))))) K (ct_X9_meanIs hl (z := .inr 2) hc.symm) cs_L_68 ⟨rfl, rfl, rfl⟩ (dk_of tL_meanIs 5 rfl) rfl rfl rfl rfl rfl ⟨by decide, by decide⟩ ?_
        refine r_catch 5 K [⟨0, 10, 13, 13⟩] ⟨0, 10, 17, 15⟩ [] rfl (fun z hz => by rw [List.mem_singleton.mp hz]; exact ⟨by decide, 1, w344, List.mem_of_getElem? (i := 0) rfl⟩) rfl (by decide) w345 (List.mem_of_getElem? (i := 3) rfl) (fun q9 => ?_)
        refine r_astore 17 4 [some (.ref as9), some (.int p2), some (.int p3), some (.ref au), some (.ref q9)] K (dk_of tL_meanIs 12 rfl) rfl rfl (by decide) ?_
        refine r_iconst 19 (2 : Int32) K (dk_of tL_meanIs 13 rfl) (by decide) ?_
        exact r_iret 20 K hQ (dk_of tL_meanIs 14 rfl) (Nat.le_refl _) (Nat.le_refl _) (lfi (s1 := ω0) (s2 := ω) (fun u9 : (Nat → Int64) => wB γ h σ ++ (wB γ g τ ++ (wS as9 (h 0) (g 0) an aq (ad 0) (ap 0) ++ (wN an (h 0) ν ++ (wR aq (h 0) ++ (wD γ ad δ ++ (wP γ ap π ++ (wO γ au u9 ++ (r))))))))) hR)
      · exact nn_ hR

def sp_L_use (p2 : Int32) (p3 : Int32) (σ : St) (ω : (Nat → Int64)) : Option (Int32 × St × (Nat → Int64)) := bc2 (sp_X9_use p2 p3 σ) (fun (x1 : Int32) (σ2 : St) => sl (vp_updL ω (0 : Int32).toNatClampNeg x1.toInt64) (fun ω3 : (Nat → Int64) => some ((0 : Int32), σ2, ω3))) (fun k9 => if k9 = 1 then (some ((1 : Int32), σ, ω)) else (if k9 = 2 then (some ((2 : Int32), σ, ω)) else (if k9 = 3 then (some ((3 : Int32), σ, ω)) else (none))))
set_option maxHeartbeats 4000000 in
set_option maxRecDepth 100000 in
theorem ct_L_use {l : Launch} (hl : l.stackTraces = false) {γ : Gd} {h : Nat → Nat} {g : Nat → Nat} {as9 : Nat} {an : Nat} {aq : Nat} {ad : Nat → Nat} {ap : Nat → Nat} {au : Nat} {σ : St} {τ : St} {ν : (Nat → Int32)} {δ : St} {π : (St × Int64)} {ω : (Nat → Int64)} {r : va_W} {p2 : Int32} {p3 : Int32} {x0 : Int32} {σ0 : St} {ω0 : (Nat → Int64)} (hR : some (x0, σ0, ω0) = sp_L_use p2 p3 σ ω) : Ct l γ yL_use (Cond.codeWith yL_use cL_use 5 (some .int) [(0, 10, 13, 13), (0, 10, 17, 15), (0, 10, 21, 17)]) ({ frames := 8, cells := 1, slots := 6, locals := 126 } : Room) [.ref as9, .int p2, .int p3, .ref au] (wB γ h σ ++ (wB γ g τ ++ (wS as9 (h 0) (g 0) an aq (ad 0) (ap 0) ++ (wN an (h 0) ν ++ (wR aq (h 0) ++ (wD γ ad δ ++ (wP γ ap π ++ (wO γ au ω ++ (r))))))))) (Pr (some (.int x0)) (wB γ h σ0 ++ (wB γ g τ ++ (wS as9 (h 0) (g 0) an aq (ad 0) (ap 0) ++ (wN an (h 0) ν ++ (wR aq (h 0) ++ (wD γ ad δ ++ (wP γ ap π ++ (wO γ au ω0 ++ (r)))))))))) 1 6 := by
  refine Ct_ofH hl (by decide +kernel) rfl (Nat.le_of_ble_eq_true rfl) (L := [some (.ref as9), some (.int p2), some (.int p3), some (.ref au), none]) rfl ?_
  intro X Q K hQ
  generalize ((wB γ h σ ++ (wB γ g τ ++ (wS as9 (h 0) (g 0) an aq (ad 0) (ap 0) ++ (wN an (h 0) ν ++ (wR aq (h 0) ++ (wD γ ad δ ++ (wP γ ap π ++ (wO γ au ω ++ (r)))))))), Q) : MX) = M at K hQ ⊢
  unfold sp_L_use at hR
  refine r_aload_n 0 3 K (dk_of tL_use 0 rfl) rfl rfl ?_
  refine r_iconst 1 (0 : Int32) K (dk_of tL_use 1 rfl) (by decide) ?_
  refine r_aload_n 2 0 K (dk_of tL_use 2 rfl) rfl rfl ?_
  refine r_iload_n 3 1 K (dk_of tL_use 3 rfl) rfl rfl ?_
  refine r_iload_n 4 2 K (dk_of tL_use 4 rfl) rfl rfl ?_
  rcases oc2 hR with ⟨x1, σ2, hc, hR⟩ | ⟨k9, hc, hR⟩
  · refine r_cVi 5 52 [.int p2, .int p3] [.int (0 : Int32), .ref au] x1 (wB γ h σ2 ++ (wB γ g τ ++ (wS as9 (h 0) (g 0) an aq (ad 0) (ap 0) ++ (wN an (h 0) ν ++ (wR aq (h 0) ++ (wD γ ad δ ++ (wP γ ap π ++ (wO γ au ω ++ (r))))))))) K (ct_X9_use hl (z := .inl (x1, σ2)) hc.symm) cs_L_71 ⟨rfl, rfl, rfl⟩ (dk_of tL_use 5 rfl) rfl rfl rfl rfl rfl rfl ?_
    refine r_i2l 8 K (dk_of tL_use 6 rfl) ?_
    refine r_last 9 60 K (dk_of tL_use 7 rfl) rfl (vpd (by decide)) sO_0_btsnqdpu ?_
    refine r_nmS (fun ω3 : (Nat → Int64) => wB γ h σ2 ++ (wB γ g τ ++ (wS as9 (h 0) (g 0) an aq (ad 0) (ap 0) ++ (wN an (h 0) ν ++ (wR aq (h 0) ++ (wD γ ad δ ++ (wP γ ap π ++ (wO γ au ω3 ++ (r))))))))) hR (fun ω3 hR => ?_)
    refine r_goto 10 25 K (dk_of tL_use 8 rfl) (by decide) ?_
    refine r_iconst 25 (0 : Int32) K (dk_of tL_use 18 rfl) (by decide) ?_
    exact r_iret 26 K hQ (dk_of tL_use 19 rfl) (Nat.zero_le _) (Nat.zero_le _) (lfi (s1 := (σ0, ω0)) (s2 := (σ2, ω3)) (fun u9 : St × (Nat → Int64) => wB γ h u9.1 ++ (wB γ g τ ++ (wS as9 (h 0) (g 0) an aq (ad 0) (ap 0) ++ (wN an (h 0) ν ++ (wR aq (h 0) ++ (wD γ ad δ ++ (wP γ ap π ++ (wO γ au u9.2 ++ (r))))))))) hR)
  · refine r_case hR (fun e9 hR => ?_) (fun e9 hR => ?_)
    · subst e9
      refine r_xV (mc := 1) (ms := 6) 5 52 [.int p2, .int p3] [.int (0 : Int32), .ref au] 1 (wB γ h σ ++ (wB γ g τ ++ (wS as9 (h 0) (g 0) an aq (ad 0) (ap 0) ++ (wN an (h 0) ν ++ (wR aq (h 0) ++ (wD γ ad δ ++ (wP γ ap π ++ (wO γ au ω ++ (r))))))))) K (ct_X9_use hl (z := .inr 1) hc.symm) cs_L_71 ⟨rfl, rfl, rfl⟩ (dk_of tL_use 5 rfl) rfl rfl rfl rfl rfl ⟨by decide, by decide⟩ ?_
      refine r_catch 5 K [] ⟨0, 10, 13, 13⟩ [⟨0, 10, 17, 15⟩, ⟨0, 10, 21, 17⟩] rfl (fun z hz => by cases hz) rfl (by decide) w344 (List.mem_of_getElem? (i := 2) rfl) (fun q9 => ?_)
      refine r_astore 13 4 [some (.ref as9), some (.int p2), some (.int p3), some (.ref au), some (.ref q9)] K (dk_of tL_use 9 rfl) rfl rfl (by decide) ?_
      refine r_iconst 15 (1 : Int32) K (dk_of tL_use 10 rfl) (by decide) ?_
      exact r_iret 16 K hQ (dk_of tL_use 11 rfl) (Nat.le_refl _) (Nat.le_refl _) (lfi (s1 := (σ0, ω0)) (s2 := (σ, ω)) (fun u9 : St × (Nat → Int64) => wB γ h u9.1 ++ (wB γ g τ ++ (wS as9 (h 0) (g 0) an aq (ad 0) (ap 0) ++ (wN an (h 0) ν ++ (wR aq (h 0) ++ (wD γ ad δ ++ (wP γ ap π ++ (wO γ au u9.2 ++ (r))))))))) hR)
    · refine r_case hR (fun e9 hR => ?_) (fun e9 hR => ?_)
      · subst e9
        refine r_xV (mc := 1) (ms := 6) 5 52 [.int p2, .int p3] [.int (0 : Int32), .ref au] 2 (wB γ h σ ++ (wB γ g τ ++ (wS as9 (h 0) (g 0) an aq (ad 0) (ap 0) ++ (wN an (h 0) ν ++ (wR aq (h 0) ++ (wD γ ad δ ++ (wP γ ap π ++ (wO γ au ω ++ (r))))))))) K (ct_X9_use hl (z := .inr 2) hc.symm) cs_L_71 ⟨rfl, rfl, rfl⟩ (dk_of tL_use 5 rfl) rfl rfl rfl rfl rfl ⟨by decide, by decide⟩ ?_
        refine r_catch 5 K [⟨0, 10, 13, 13⟩] ⟨0, 10, 17, 15⟩ [⟨0, 10, 21, 17⟩] rfl (fun z hz => by rw [List.mem_singleton.mp hz]; exact ⟨by decide, 1, w344, List.mem_of_getElem? (i := 0) rfl⟩) rfl (by decide) w345 (List.mem_of_getElem? (i := 3) rfl) (fun q9 => ?_)
        refine r_astore 17 4 [some (.ref as9), some (.int p2), some (.int p3), some (.ref au), some (.ref q9)] K (dk_of tL_use 12 rfl) rfl rfl (by decide) ?_
        refine r_iconst 19 (2 : Int32) K (dk_of tL_use 13 rfl) (by decide) ?_
        exact r_iret 20 K hQ (dk_of tL_use 14 rfl) (Nat.le_refl _) (Nat.le_refl _) (lfi (s1 := (σ0, ω0)) (s2 := (σ, ω)) (fun u9 : St × (Nat → Int64) => wB γ h u9.1 ++ (wB γ g τ ++ (wS as9 (h 0) (g 0) an aq (ad 0) (ap 0) ++ (wN an (h 0) ν ++ (wR aq (h 0) ++ (wD γ ad δ ++ (wP γ ap π ++ (wO γ au u9.2 ++ (r))))))))) hR)
      · refine r_case hR (fun e9 hR => ?_) (fun e9 hR => ?_)
        · subst e9
          refine r_xV (mc := 1) (ms := 6) 5 52 [.int p2, .int p3] [.int (0 : Int32), .ref au] 3 (wB γ h σ ++ (wB γ g τ ++ (wS as9 (h 0) (g 0) an aq (ad 0) (ap 0) ++ (wN an (h 0) ν ++ (wR aq (h 0) ++ (wD γ ad δ ++ (wP γ ap π ++ (wO γ au ω ++ (r))))))))) K (ct_X9_use hl (z := .inr 3) hc.symm) cs_L_71 ⟨rfl, rfl, rfl⟩ (dk_of tL_use 5 rfl) rfl rfl rfl rfl rfl ⟨by decide, by decide⟩ ?_
          refine r_catch 5 K [⟨0, 10, 13, 13⟩, ⟨0, 10, 17, 15⟩] ⟨0, 10, 21, 17⟩ [] rfl (fun z hz => by rcases List.mem_cons.mp hz with hz | hz; (rw [hz]; exact ⟨by decide, 1, w344, List.mem_of_getElem? (i := 1) rfl⟩); (rw [List.mem_singleton.mp hz]; exact ⟨by decide, 2, w345, List.mem_of_getElem? (i := 2) rfl⟩)) rfl (by decide) w346 (List.mem_of_getElem? (i := 4) rfl) (fun q9 => ?_)
          refine r_astore 21 4 [some (.ref as9), some (.int p2), some (.int p3), some (.ref au), some (.ref q9)] K (dk_of tL_use 15 rfl) rfl rfl (by decide) ?_
          refine r_iconst 23 (3 : Int32) K (dk_of tL_use 16 rfl) (by decide) ?_
          exact r_iret 24 K hQ (dk_of tL_use 17 rfl) (Nat.le_refl _) (Nat.le_refl _) (lfi (s1 := (σ0, ω0)) (s2 := (σ, ω)) (fun u9 : St × (Nat → Int64) => wB γ h u9.1 ++ (wB γ g τ ++ (wS as9 (h 0) (g 0) an aq (ad 0) (ap 0) ++ (wN an (h 0) ν ++ (wR aq (h 0) ++ (wD γ ad δ ++ (wP γ ap π ++ (wO γ au u9.2 ++ (r))))))))) hR)
        · exact nn_ hR

def sp_L_why (p2 : Int32) (p3 : Int32) (p4 : Int32) (σ : St) (ω : (Nat → Int64)) : Option (Int32 × (Nat → Int64)) := bc1 (sp_X9_why p2 p3 p4 σ) (fun (x1 : Int32) => sl (vp_updL ω (0 : Int32).toNatClampNeg x1.toInt64) (fun ω2 : (Nat → Int64) => some ((0 : Int32), ω2))) (fun k9 => if k9 = 1 then (some ((1 : Int32), ω)) else (if k9 = 2 then (some ((2 : Int32), ω)) else (if k9 = 3 then (some ((3 : Int32), ω)) else (none))))
set_option maxHeartbeats 4000000 in
set_option maxRecDepth 100000 in
theorem ct_L_why {l : Launch} (hl : l.stackTraces = false) {γ : Gd} {h : Nat → Nat} {g : Nat → Nat} {as9 : Nat} {an : Nat} {aq : Nat} {ad : Nat → Nat} {ap : Nat → Nat} {au : Nat} {σ : St} {τ : St} {ν : (Nat → Int32)} {δ : St} {π : (St × Int64)} {ω : (Nat → Int64)} {r : va_W} {p2 : Int32} {p3 : Int32} {p4 : Int32} {x0 : Int32} {ω0 : (Nat → Int64)} (hR : some (x0, ω0) = sp_L_why p2 p3 p4 σ ω) : Ct l γ yL_why (Cond.codeWith yL_why cL_why 6 (some .int) [(0, 12, 15, 13), (0, 12, 19, 15), (0, 12, 23, 17)]) ({ frames := 8, cells := 1, slots := 6, locals := 127 } : Room) [.ref as9, .int p2, .int p3, .int p4, .ref au] (wB γ h σ ++ (wB γ g τ ++ (wS as9 (h 0) (g 0) an aq (ad 0) (ap 0) ++ (wN an (h 0) ν ++ (wR aq (h 0) ++ (wD γ ad δ ++ (wP γ ap π ++ (wO γ au ω ++ (r))))))))) (Pr (some (.int x0)) (wB γ h σ ++ (wB γ g τ ++ (wS as9 (h 0) (g 0) an aq (ad 0) (ap 0) ++ (wN an (h 0) ν ++ (wR aq (h 0) ++ (wD γ ad δ ++ (wP γ ap π ++ (wO γ au ω0 ++ (r)))))))))) 1 6 := by
  refine Ct_ofH hl (by decide +kernel) rfl (Nat.le_of_ble_eq_true rfl) (L := [some (.ref as9), some (.int p2), some (.int p3), some (.int p4), some (.ref au), none]) rfl ?_
  intro X Q K hQ
  generalize ((wB γ h σ ++ (wB γ g τ ++ (wS as9 (h 0) (g 0) an aq (ad 0) (ap 0) ++ (wN an (h 0) ν ++ (wR aq (h 0) ++ (wD γ ad δ ++ (wP γ ap π ++ (wO γ au ω ++ (r)))))))), Q) : MX) = M at K hQ ⊢
  unfold sp_L_why at hR
  refine r_aload 0 4 K (dk_of tL_why 0 rfl) rfl ?_
  refine r_iconst 2 (0 : Int32) K (dk_of tL_why 1 rfl) (by decide) ?_
  refine r_aload_n 3 0 K (dk_of tL_why 2 rfl) rfl rfl ?_
  refine r_iload_n 4 1 K (dk_of tL_why 3 rfl) rfl rfl ?_
  refine r_iload_n 5 2 K (dk_of tL_why 4 rfl) rfl rfl ?_
  refine r_iload_n 6 3 K (dk_of tL_why 5 rfl) rfl rfl ?_
  rcases oc1 hR with ⟨x1, hc, hR⟩ | ⟨k9, hc, hR⟩
  · refine r_cVi 7 52 [.int p2, .int p3, .int p4] [.int (0 : Int32), .ref au] x1 (wB γ h σ ++ (wB γ g τ ++ (wS as9 (h 0) (g 0) an aq (ad 0) (ap 0) ++ (wN an (h 0) ν ++ (wR aq (h 0) ++ (wD γ ad δ ++ (wP γ ap π ++ (wO γ au ω ++ (r))))))))) K (ct_X9_why hl (z := .inl x1) hc.symm) cs_L_74 ⟨rfl, rfl, rfl⟩ (dk_of tL_why 6 rfl) rfl rfl rfl rfl rfl rfl ?_
    refine r_i2l 10 K (dk_of tL_why 7 rfl) ?_
    refine r_last 11 60 K (dk_of tL_why 8 rfl) rfl (vpd (by decide)) sO_0_btsnqdpu ?_
    refine r_nmS (fun ω2 : (Nat → Int64) => wB γ h σ ++ (wB γ g τ ++ (wS as9 (h 0) (g 0) an aq (ad 0) (ap 0) ++ (wN an (h 0) ν ++ (wR aq (h 0) ++ (wD γ ad δ ++ (wP γ ap π ++ (wO γ au ω2 ++ (r))))))))) hR (fun ω2 hR => ?_)
    refine r_goto 12 27 K (dk_of tL_why 9 rfl) (by decide) ?_
    refine r_iconst 27 (0 : Int32) K (dk_of tL_why 19 rfl) (by decide) ?_
    exact r_iret 28 K hQ (dk_of tL_why 20 rfl) (Nat.zero_le _) (Nat.zero_le _) (lfi (s1 := ω0) (s2 := ω2) (fun u9 : (Nat → Int64) => wB γ h σ ++ (wB γ g τ ++ (wS as9 (h 0) (g 0) an aq (ad 0) (ap 0) ++ (wN an (h 0) ν ++ (wR aq (h 0) ++ (wD γ ad δ ++ (wP γ ap π ++ (wO γ au u9 ++ (r))))))))) hR)
  · refine r_case hR (fun e9 hR => ?_) (fun e9 hR => ?_)
    · subst e9
      refine r_xV (mc := 1) (ms := 6) 7 52 [.int p2, .int p3, .int p4] [.int (0 : Int32), .ref au] 1 (wB γ h σ ++ (wB γ g τ ++ (wS as9 (h 0) (g 0) an aq (ad 0) (ap 0) ++ (wN an (h 0) ν ++ (wR aq (h 0) ++ (wD γ ad δ ++ (wP γ ap π ++ (wO γ au ω ++ (r))))))))) K (ct_X9_why hl (z := .inr 1) hc.symm) cs_L_74 ⟨rfl, rfl, rfl⟩ (dk_of tL_why 6 rfl) rfl rfl rfl rfl rfl ⟨by decide, by decide⟩ ?_
      refine r_catch 7 K [] ⟨0, 12, 15, 13⟩ [⟨0, 12, 19, 15⟩, ⟨0, 12, 23, 17⟩] rfl (fun z hz => by cases hz) rfl (by decide) w344 (List.mem_of_getElem? (i := 2) rfl) (fun q9 => ?_)
      refine r_astore 15 5 [some (.ref as9), some (.int p2), some (.int p3), some (.int p4), some (.ref au), some (.ref q9)] K (dk_of tL_why 10 rfl) rfl rfl (by decide) ?_
      refine r_iconst 17 (1 : Int32) K (dk_of tL_why 11 rfl) (by decide) ?_
      exact r_iret 18 K hQ (dk_of tL_why 12 rfl) (Nat.le_refl _) (Nat.le_refl _) (lfi (s1 := ω0) (s2 := ω) (fun u9 : (Nat → Int64) => wB γ h σ ++ (wB γ g τ ++ (wS as9 (h 0) (g 0) an aq (ad 0) (ap 0) ++ (wN an (h 0) ν ++ (wR aq (h 0) ++ (wD γ ad δ ++ (wP γ ap π ++ (wO γ au u9 ++ (r))))))))) hR)
    · refine r_case hR (fun e9 hR => ?_) (fun e9 hR => ?_)
      · subst e9
        refine r_xV (mc := 1) (ms := 6) 7 52 [.int p2, .int p3, .int p4] [.int (0 : Int32), .ref au] 2 (wB γ h σ ++ (wB γ g τ ++ (wS as9 (h 0) (g 0) an aq (ad 0) (ap 0) ++ (wN an (h 0) ν ++ (wR aq (h 0) ++ (wD γ ad δ ++ (wP γ ap π ++ (wO γ au ω ++ (r))))))))) K (ct_X9_why hl (z := .inr 2) hc.symm) cs_L_74 ⟨rfl, rfl, rfl⟩ (dk_of tL_why 6 rfl) rfl rfl rfl rfl rfl ⟨by decide, by decide⟩ ?_
        refine r_catch 7 K [⟨0, 12, 15, 13⟩] ⟨0, 12, 19, 15⟩ [⟨0, 12, 23, 17⟩] rfl (fun z hz => by rw [List.mem_singleton.mp hz]; exact ⟨by decide, 1, w344, List.mem_of_getElem? (i := 0) rfl⟩) rfl (by decide) w345 (List.mem_of_getElem? (i := 3) rfl) (fun q9 => ?_)
        refine r_astore 19 5 [some (.ref as9), some (.int p2), some (.int p3), some (.int p4), some (.ref au), some (.ref q9)] K (dk_of tL_why 13 rfl) rfl rfl (by decide) ?_
        refine r_iconst 21 (2 : Int32) K (dk_of tL_why 14 rfl) (by decide) ?_
        exact r_iret 22 K hQ (dk_of tL_why 15 rfl) (Nat.le_refl _) (Nat.le_refl _) (lfi (s1 := ω0) (s2 := ω) (fun u9 : (Nat → Int64) => wB γ h σ ++ (wB γ g τ ++ (wS as9 (h 0) (g 0) an aq (ad 0) (ap 0) ++ (wN an (h 0) ν ++ (wR aq (h 0) ++ (wD γ ad δ ++ (wP γ ap π ++ (wO γ au u9 ++ (r))))))))) hR)
      · refine r_case hR (fun e9 hR => ?_) (fun e9 hR => ?_)
        · subst e9
          refine r_xV (mc := 1) (ms := 6) 7 52 [.int p2, .int p3, .int p4] [.int (0 : Int32), .ref au] 3 (wB γ h σ ++ (wB γ g τ ++ (wS as9 (h 0) (g 0) an aq (ad 0) (ap 0) ++ (wN an (h 0) ν ++ (wR aq (h 0) ++ (wD γ ad δ ++ (wP γ ap π ++ (wO γ au ω ++ (r))))))))) K (ct_X9_why hl (z := .inr 3) hc.symm) cs_L_74 ⟨rfl, rfl, rfl⟩ (dk_of tL_why 6 rfl) rfl rfl rfl rfl rfl ⟨by decide, by decide⟩ ?_
          refine r_catch 7 K [⟨0, 12, 15, 13⟩, ⟨0, 12, 19, 15⟩] ⟨0, 12, 23, 17⟩ [] rfl (fun z hz => by rcases List.mem_cons.mp hz with hz | hz; (rw [hz]; exact ⟨by decide, 1, w344, List.mem_of_getElem? (i := 1) rfl⟩); (rw [List.mem_singleton.mp hz]; exact ⟨by decide, 2, w345, List.mem_of_getElem? (i := 2) rfl⟩)) rfl (by decide) w346 (List.mem_of_getElem? (i := 4) rfl) (fun q9 => ?_)
          refine r_astore 23 5 [some (.ref as9), some (.int p2), some (.int p3), some (.int p4), some (.ref au), some (.ref q9)] K (dk_of tL_why 16 rfl) rfl rfl (by decide) ?_
          refine r_iconst 25 (3 : Int32) K (dk_of tL_why 17 rfl) (by decide) ?_
          exact r_iret 26 K hQ (dk_of tL_why 18 rfl) (Nat.le_refl _) (Nat.le_refl _) (lfi (s1 := ω0) (s2 := ω) (fun u9 : (Nat → Int64) => wB γ h σ ++ (wB γ g τ ++ (wS as9 (h 0) (g 0) an aq (ad 0) (ap 0) ++ (wN an (h 0) ν ++ (wR aq (h 0) ++ (wD γ ad δ ++ (wP γ ap π ++ (wO γ au u9 ++ (r))))))))) hR)
        · exact nn_ hR

def sp_L_birds (p2 : Int32) (p3 : Int32) (σ : St) (ω : (Nat → Int64)) : Option (Int32 × St × (Nat → Int64)) := bc2 (sp_X9_birds p2 p3 σ) (fun (x1 : Int32) (σ2 : St) => sl (vp_updL ω (0 : Int32).toNatClampNeg x1.toInt64) (fun ω3 : (Nat → Int64) => some ((0 : Int32), σ2, ω3))) (fun k9 => if k9 = 1 then (some ((1 : Int32), σ, ω)) else (if k9 = 2 then (some ((2 : Int32), σ, ω)) else (if k9 = 3 then (some ((3 : Int32), σ, ω)) else (none))))
set_option maxHeartbeats 4000000 in
set_option maxRecDepth 100000 in
theorem ct_L_birds {l : Launch} (hl : l.stackTraces = false) {γ : Gd} {h : Nat → Nat} {g : Nat → Nat} {as9 : Nat} {an : Nat} {aq : Nat} {ad : Nat → Nat} {ap : Nat → Nat} {au : Nat} {σ : St} {τ : St} {ν : (Nat → Int32)} {δ : St} {π : (St × Int64)} {ω : (Nat → Int64)} {r : va_W} {p2 : Int32} {p3 : Int32} {x0 : Int32} {σ0 : St} {ω0 : (Nat → Int64)} (hR : some (x0, σ0, ω0) = sp_L_birds p2 p3 σ ω) : Ct l γ yL_birds (Cond.codeWith yL_birds cL_birds 5 (some .int) [(0, 10, 13, 13), (0, 10, 17, 15), (0, 10, 21, 17)]) ({ frames := 8, cells := 1, slots := 6, locals := 126 } : Room) [.ref as9, .int p2, .int p3, .ref au] (wB γ h σ ++ (wB γ g τ ++ (wS as9 (h 0) (g 0) an aq (ad 0) (ap 0) ++ (wN an (h 0) ν ++ (wR aq (h 0) ++ (wD γ ad δ ++ (wP γ ap π ++ (wO γ au ω ++ (r))))))))) (Pr (some (.int x0)) (wB γ h σ0 ++ (wB γ g τ ++ (wS as9 (h 0) (g 0) an aq (ad 0) (ap 0) ++ (wN an (h 0) ν ++ (wR aq (h 0) ++ (wD γ ad δ ++ (wP γ ap π ++ (wO γ au ω0 ++ (r)))))))))) 1 6 := by
  refine Ct_ofH hl (by decide +kernel) rfl (Nat.le_of_ble_eq_true rfl) (L := [some (.ref as9), some (.int p2), some (.int p3), some (.ref au), none]) rfl ?_
  intro X Q K hQ
  generalize ((wB γ h σ ++ (wB γ g τ ++ (wS as9 (h 0) (g 0) an aq (ad 0) (ap 0) ++ (wN an (h 0) ν ++ (wR aq (h 0) ++ (wD γ ad δ ++ (wP γ ap π ++ (wO γ au ω ++ (r)))))))), Q) : MX) = M at K hQ ⊢
  unfold sp_L_birds at hR
  refine r_aload_n 0 3 K (dk_of tL_birds 0 rfl) rfl rfl ?_
  refine r_iconst 1 (0 : Int32) K (dk_of tL_birds 1 rfl) (by decide) ?_
  refine r_aload_n 2 0 K (dk_of tL_birds 2 rfl) rfl rfl ?_
  refine r_iload_n 3 1 K (dk_of tL_birds 3 rfl) rfl rfl ?_
  refine r_iload_n 4 2 K (dk_of tL_birds 4 rfl) rfl rfl ?_
  rcases oc2 hR with ⟨x1, σ2, hc, hR⟩ | ⟨k9, hc, hR⟩
  · refine r_cVi 5 52 [.int p2, .int p3] [.int (0 : Int32), .ref au] x1 (wB γ h σ2 ++ (wB γ g τ ++ (wS as9 (h 0) (g 0) an aq (ad 0) (ap 0) ++ (wN an (h 0) ν ++ (wR aq (h 0) ++ (wD γ ad δ ++ (wP γ ap π ++ (wO γ au ω ++ (r))))))))) K (ct_X9_birds hl (z := .inl (x1, σ2)) hc.symm) cs_L_77 ⟨rfl, rfl, rfl⟩ (dk_of tL_birds 5 rfl) rfl rfl rfl rfl rfl rfl ?_
    refine r_i2l 8 K (dk_of tL_birds 6 rfl) ?_
    refine r_last 9 60 K (dk_of tL_birds 7 rfl) rfl (vpd (by decide)) sO_0_btsnqdpu ?_
    refine r_nmS (fun ω3 : (Nat → Int64) => wB γ h σ2 ++ (wB γ g τ ++ (wS as9 (h 0) (g 0) an aq (ad 0) (ap 0) ++ (wN an (h 0) ν ++ (wR aq (h 0) ++ (wD γ ad δ ++ (wP γ ap π ++ (wO γ au ω3 ++ (r))))))))) hR (fun ω3 hR => ?_)
    refine r_goto 10 25 K (dk_of tL_birds 8 rfl) (by decide) ?_
    refine r_iconst 25 (0 : Int32) K (dk_of tL_birds 18 rfl) (by decide) ?_
    exact r_iret 26 K hQ (dk_of tL_birds 19 rfl) (Nat.zero_le _) (Nat.zero_le _) (lfi (s1 := (σ0, ω0)) (s2 := (σ2, ω3)) (fun u9 : St × (Nat → Int64) => wB γ h u9.1 ++ (wB γ g τ ++ (wS as9 (h 0) (g 0) an aq (ad 0) (ap 0) ++ (wN an (h 0) ν ++ (wR aq (h 0) ++ (wD γ ad δ ++ (wP γ ap π ++ (wO γ au u9.2 ++ (r))))))))) hR)
  · refine r_case hR (fun e9 hR => ?_) (fun e9 hR => ?_)
    · subst e9
      refine r_xV (mc := 1) (ms := 6) 5 52 [.int p2, .int p3] [.int (0 : Int32), .ref au] 1 (wB γ h σ ++ (wB γ g τ ++ (wS as9 (h 0) (g 0) an aq (ad 0) (ap 0) ++ (wN an (h 0) ν ++ (wR aq (h 0) ++ (wD γ ad δ ++ (wP γ ap π ++ (wO γ au ω ++ (r))))))))) K (ct_X9_birds hl (z := .inr 1) hc.symm) cs_L_77 ⟨rfl, rfl, rfl⟩ (dk_of tL_birds 5 rfl) rfl rfl rfl rfl rfl ⟨by decide, by decide⟩ ?_
      refine r_catch 5 K [] ⟨0, 10, 13, 13⟩ [⟨0, 10, 17, 15⟩, ⟨0, 10, 21, 17⟩] rfl (fun z hz => by cases hz) rfl (by decide) w344 (List.mem_of_getElem? (i := 2) rfl) (fun q9 => ?_)
      refine r_astore 13 4 [some (.ref as9), some (.int p2), some (.int p3), some (.ref au), some (.ref q9)] K (dk_of tL_birds 9 rfl) rfl rfl (by decide) ?_
      refine r_iconst 15 (1 : Int32) K (dk_of tL_birds 10 rfl) (by decide) ?_
      exact r_iret 16 K hQ (dk_of tL_birds 11 rfl) (Nat.le_refl _) (Nat.le_refl _) (lfi (s1 := (σ0, ω0)) (s2 := (σ, ω)) (fun u9 : St × (Nat → Int64) => wB γ h u9.1 ++ (wB γ g τ ++ (wS as9 (h 0) (g 0) an aq (ad 0) (ap 0) ++ (wN an (h 0) ν ++ (wR aq (h 0) ++ (wD γ ad δ ++ (wP γ ap π ++ (wO γ au u9.2 ++ (r))))))))) hR)
    · refine r_case hR (fun e9 hR => ?_) (fun e9 hR => ?_)
      · subst e9
        refine r_xV (mc := 1) (ms := 6) 5 52 [.int p2, .int p3] [.int (0 : Int32), .ref au] 2 (wB γ h σ ++ (wB γ g τ ++ (wS as9 (h 0) (g 0) an aq (ad 0) (ap 0) ++ (wN an (h 0) ν ++ (wR aq (h 0) ++ (wD γ ad δ ++ (wP γ ap π ++ (wO γ au ω ++ (r))))))))) K (ct_X9_birds hl (z := .inr 2) hc.symm) cs_L_77 ⟨rfl, rfl, rfl⟩ (dk_of tL_birds 5 rfl) rfl rfl rfl rfl rfl ⟨by decide, by decide⟩ ?_
        refine r_catch 5 K [⟨0, 10, 13, 13⟩] ⟨0, 10, 17, 15⟩ [⟨0, 10, 21, 17⟩] rfl (fun z hz => by rw [List.mem_singleton.mp hz]; exact ⟨by decide, 1, w344, List.mem_of_getElem? (i := 0) rfl⟩) rfl (by decide) w345 (List.mem_of_getElem? (i := 3) rfl) (fun q9 => ?_)
        refine r_astore 17 4 [some (.ref as9), some (.int p2), some (.int p3), some (.ref au), some (.ref q9)] K (dk_of tL_birds 12 rfl) rfl rfl (by decide) ?_
        refine r_iconst 19 (2 : Int32) K (dk_of tL_birds 13 rfl) (by decide) ?_
        exact r_iret 20 K hQ (dk_of tL_birds 14 rfl) (Nat.le_refl _) (Nat.le_refl _) (lfi (s1 := (σ0, ω0)) (s2 := (σ, ω)) (fun u9 : St × (Nat → Int64) => wB γ h u9.1 ++ (wB γ g τ ++ (wS as9 (h 0) (g 0) an aq (ad 0) (ap 0) ++ (wN an (h 0) ν ++ (wR aq (h 0) ++ (wD γ ad δ ++ (wP γ ap π ++ (wO γ au u9.2 ++ (r))))))))) hR)
      · refine r_case hR (fun e9 hR => ?_) (fun e9 hR => ?_)
        · subst e9
          refine r_xV (mc := 1) (ms := 6) 5 52 [.int p2, .int p3] [.int (0 : Int32), .ref au] 3 (wB γ h σ ++ (wB γ g τ ++ (wS as9 (h 0) (g 0) an aq (ad 0) (ap 0) ++ (wN an (h 0) ν ++ (wR aq (h 0) ++ (wD γ ad δ ++ (wP γ ap π ++ (wO γ au ω ++ (r))))))))) K (ct_X9_birds hl (z := .inr 3) hc.symm) cs_L_77 ⟨rfl, rfl, rfl⟩ (dk_of tL_birds 5 rfl) rfl rfl rfl rfl rfl ⟨by decide, by decide⟩ ?_
          refine r_catch 5 K [⟨0, 10, 13, 13⟩, ⟨0, 10, 17, 15⟩] ⟨0, 10, 21, 17⟩ [] rfl (fun z hz => by rcases List.mem_cons.mp hz with hz | hz; (rw [hz]; exact ⟨by decide, 1, w344, List.mem_of_getElem? (i := 1) rfl⟩); (rw [List.mem_singleton.mp hz]; exact ⟨by decide, 2, w345, List.mem_of_getElem? (i := 2) rfl⟩)) rfl (by decide) w346 (List.mem_of_getElem? (i := 4) rfl) (fun q9 => ?_)
          refine r_astore 21 4 [some (.ref as9), some (.int p2), some (.int p3), some (.ref au), some (.ref q9)] K (dk_of tL_birds 15 rfl) rfl rfl (by decide) ?_
          refine r_iconst 23 (3 : Int32) K (dk_of tL_birds 16 rfl) (by decide) ?_
          exact r_iret 24 K hQ (dk_of tL_birds 17 rfl) (Nat.le_refl _) (Nat.le_refl _) (lfi (s1 := (σ0, ω0)) (s2 := (σ, ω)) (fun u9 : St × (Nat → Int64) => wB γ h u9.1 ++ (wB γ g τ ++ (wS as9 (h 0) (g 0) an aq (ad 0) (ap 0) ++ (wN an (h 0) ν ++ (wR aq (h 0) ++ (wD γ ad δ ++ (wP γ ap π ++ (wO γ au u9.2 ++ (r))))))))) hR)
        · exact nn_ hR

def sp_L_wash (p2 : Int32) (p3 : Int32) (σ : St) (ω : (Nat → Int64)) : Option (Int32 × St × (Nat → Int64)) := bc2 (sp_X9_wash p2 p3 σ) (fun (x1 : Int32) (σ2 : St) => sl (vp_updL ω (0 : Int32).toNatClampNeg x1.toInt64) (fun ω3 : (Nat → Int64) => some ((0 : Int32), σ2, ω3))) (fun k9 => if k9 = 1 then (some ((1 : Int32), σ, ω)) else (if k9 = 2 then (some ((2 : Int32), σ, ω)) else (if k9 = 3 then (some ((3 : Int32), σ, ω)) else (none))))
set_option maxHeartbeats 4000000 in
set_option maxRecDepth 100000 in
theorem ct_L_wash {l : Launch} (hl : l.stackTraces = false) {γ : Gd} {h : Nat → Nat} {g : Nat → Nat} {as9 : Nat} {an : Nat} {aq : Nat} {ad : Nat → Nat} {ap : Nat → Nat} {au : Nat} {σ : St} {τ : St} {ν : (Nat → Int32)} {δ : St} {π : (St × Int64)} {ω : (Nat → Int64)} {r : va_W} {p2 : Int32} {p3 : Int32} {x0 : Int32} {σ0 : St} {ω0 : (Nat → Int64)} (hR : some (x0, σ0, ω0) = sp_L_wash p2 p3 σ ω) : Ct l γ yL_wash (Cond.codeWith yL_wash cL_wash 5 (some .int) [(0, 10, 13, 13), (0, 10, 17, 15), (0, 10, 21, 17)]) ({ frames := 8, cells := 1, slots := 6, locals := 127 } : Room) [.ref as9, .int p2, .int p3, .ref au] (wB γ h σ ++ (wB γ g τ ++ (wS as9 (h 0) (g 0) an aq (ad 0) (ap 0) ++ (wN an (h 0) ν ++ (wR aq (h 0) ++ (wD γ ad δ ++ (wP γ ap π ++ (wO γ au ω ++ (r))))))))) (Pr (some (.int x0)) (wB γ h σ0 ++ (wB γ g τ ++ (wS as9 (h 0) (g 0) an aq (ad 0) (ap 0) ++ (wN an (h 0) ν ++ (wR aq (h 0) ++ (wD γ ad δ ++ (wP γ ap π ++ (wO γ au ω0 ++ (r)))))))))) 1 6 := by
  refine Ct_ofH hl (by decide +kernel) rfl (Nat.le_of_ble_eq_true rfl) (L := [some (.ref as9), some (.int p2), some (.int p3), some (.ref au), none]) rfl ?_
  intro X Q K hQ
  generalize ((wB γ h σ ++ (wB γ g τ ++ (wS as9 (h 0) (g 0) an aq (ad 0) (ap 0) ++ (wN an (h 0) ν ++ (wR aq (h 0) ++ (wD γ ad δ ++ (wP γ ap π ++ (wO γ au ω ++ (r)))))))), Q) : MX) = M at K hQ ⊢
  unfold sp_L_wash at hR
  refine r_aload_n 0 3 K (dk_of tL_wash 0 rfl) rfl rfl ?_
  refine r_iconst 1 (0 : Int32) K (dk_of tL_wash 1 rfl) (by decide) ?_
  refine r_aload_n 2 0 K (dk_of tL_wash 2 rfl) rfl rfl ?_
  refine r_iload_n 3 1 K (dk_of tL_wash 3 rfl) rfl rfl ?_
  refine r_iload_n 4 2 K (dk_of tL_wash 4 rfl) rfl rfl ?_
  rcases oc2 hR with ⟨x1, σ2, hc, hR⟩ | ⟨k9, hc, hR⟩
  · refine r_cVi 5 52 [.int p2, .int p3] [.int (0 : Int32), .ref au] x1 (wB γ h σ2 ++ (wB γ g τ ++ (wS as9 (h 0) (g 0) an aq (ad 0) (ap 0) ++ (wN an (h 0) ν ++ (wR aq (h 0) ++ (wD γ ad δ ++ (wP γ ap π ++ (wO γ au ω ++ (r))))))))) K (ct_X9_wash hl (z := .inl (x1, σ2)) hc.symm) cs_L_80 ⟨rfl, rfl, rfl⟩ (dk_of tL_wash 5 rfl) rfl rfl rfl rfl rfl rfl ?_
    refine r_i2l 8 K (dk_of tL_wash 6 rfl) ?_
    refine r_last 9 60 K (dk_of tL_wash 7 rfl) rfl (vpd (by decide)) sO_0_btsnqdpu ?_
    refine r_nmS (fun ω3 : (Nat → Int64) => wB γ h σ2 ++ (wB γ g τ ++ (wS as9 (h 0) (g 0) an aq (ad 0) (ap 0) ++ (wN an (h 0) ν ++ (wR aq (h 0) ++ (wD γ ad δ ++ (wP γ ap π ++ (wO γ au ω3 ++ (r))))))))) hR (fun ω3 hR => ?_)
    refine r_goto 10 25 K (dk_of tL_wash 8 rfl) (by decide) ?_
    refine r_iconst 25 (0 : Int32) K (dk_of tL_wash 18 rfl) (by decide) ?_
    exact r_iret 26 K hQ (dk_of tL_wash 19 rfl) (Nat.zero_le _) (Nat.zero_le _) (lfi (s1 := (σ0, ω0)) (s2 := (σ2, ω3)) (fun u9 : St × (Nat → Int64) => wB γ h u9.1 ++ (wB γ g τ ++ (wS as9 (h 0) (g 0) an aq (ad 0) (ap 0) ++ (wN an (h 0) ν ++ (wR aq (h 0) ++ (wD γ ad δ ++ (wP γ ap π ++ (wO γ au u9.2 ++ (r))))))))) hR)
  · refine r_case hR (fun e9 hR => ?_) (fun e9 hR => ?_)
    · subst e9
      refine r_xV (mc := 1) (ms := 6) 5 52 [.int p2, .int p3] [.int (0 : Int32), .ref au] 1 (wB γ h σ ++ (wB γ g τ ++ (wS as9 (h 0) (g 0) an aq (ad 0) (ap 0) ++ (wN an (h 0) ν ++ (wR aq (h 0) ++ (wD γ ad δ ++ (wP γ ap π ++ (wO γ au ω ++ (r))))))))) K (ct_X9_wash hl (z := .inr 1) hc.symm) cs_L_80 ⟨rfl, rfl, rfl⟩ (dk_of tL_wash 5 rfl) rfl rfl rfl rfl rfl ⟨by decide, by decide⟩ ?_
      refine r_catch 5 K [] ⟨0, 10, 13, 13⟩ [⟨0, 10, 17, 15⟩, ⟨0, 10, 21, 17⟩] rfl (fun z hz => by cases hz) rfl (by decide) w344 (List.mem_of_getElem? (i := 2) rfl) (fun q9 => ?_)
      refine r_astore 13 4 [some (.ref as9), some (.int p2), some (.int p3), some (.ref au), some (.ref q9)] K (dk_of tL_wash 9 rfl) rfl rfl (by decide) ?_
      refine r_iconst 15 (1 : Int32) K (dk_of tL_wash 10 rfl) (by decide) ?_
      exact r_iret 16 K hQ (dk_of tL_wash 11 rfl) (Nat.le_refl _) (Nat.le_refl _) (lfi (s1 := (σ0, ω0)) (s2 := (σ, ω)) (fun u9 : St × (Nat → Int64) => wB γ h u9.1 ++ (wB γ g τ ++ (wS as9 (h 0) (g 0) an aq (ad 0) (ap 0) ++ (wN an (h 0) ν ++ (wR aq (h 0) ++ (wD γ ad δ ++ (wP γ ap π ++ (wO γ au u9.2 ++ (r))))))))) hR)
    · refine r_case hR (fun e9 hR => ?_) (fun e9 hR => ?_)
      · subst e9
        refine r_xV (mc := 1) (ms := 6) 5 52 [.int p2, .int p3] [.int (0 : Int32), .ref au] 2 (wB γ h σ ++ (wB γ g τ ++ (wS as9 (h 0) (g 0) an aq (ad 0) (ap 0) ++ (wN an (h 0) ν ++ (wR aq (h 0) ++ (wD γ ad δ ++ (wP γ ap π ++ (wO γ au ω ++ (r))))))))) K (ct_X9_wash hl (z := .inr 2) hc.symm) cs_L_80 ⟨rfl, rfl, rfl⟩ (dk_of tL_wash 5 rfl) rfl rfl rfl rfl rfl ⟨by decide, by decide⟩ ?_
        refine r_catch 5 K [⟨0, 10, 13, 13⟩] ⟨0, 10, 17, 15⟩ [⟨0, 10, 21, 17⟩] rfl (fun z hz => by rw [List.mem_singleton.mp hz]; exact ⟨by decide, 1, w344, List.mem_of_getElem? (i := 0) rfl⟩) rfl (by decide) w345 (List.mem_of_getElem? (i := 3) rfl) (fun q9 => ?_)
        refine r_astore 17 4 [some (.ref as9), some (.int p2), some (.int p3), some (.ref au), some (.ref q9)] K (dk_of tL_wash 12 rfl) rfl rfl (by decide) ?_
        refine r_iconst 19 (2 : Int32) K (dk_of tL_wash 13 rfl) (by decide) ?_
        exact r_iret 20 K hQ (dk_of tL_wash 14 rfl) (Nat.le_refl _) (Nat.le_refl _) (lfi (s1 := (σ0, ω0)) (s2 := (σ, ω)) (fun u9 : St × (Nat → Int64) => wB γ h u9.1 ++ (wB γ g τ ++ (wS as9 (h 0) (g 0) an aq (ad 0) (ap 0) ++ (wN an (h 0) ν ++ (wR aq (h 0) ++ (wD γ ad δ ++ (wP γ ap π ++ (wO γ au u9.2 ++ (r))))))))) hR)
      · refine r_case hR (fun e9 hR => ?_) (fun e9 hR => ?_)
        · subst e9
          refine r_xV (mc := 1) (ms := 6) 5 52 [.int p2, .int p3] [.int (0 : Int32), .ref au] 3 (wB γ h σ ++ (wB γ g τ ++ (wS as9 (h 0) (g 0) an aq (ad 0) (ap 0) ++ (wN an (h 0) ν ++ (wR aq (h 0) ++ (wD γ ad δ ++ (wP γ ap π ++ (wO γ au ω ++ (r))))))))) K (ct_X9_wash hl (z := .inr 3) hc.symm) cs_L_80 ⟨rfl, rfl, rfl⟩ (dk_of tL_wash 5 rfl) rfl rfl rfl rfl rfl ⟨by decide, by decide⟩ ?_
          refine r_catch 5 K [⟨0, 10, 13, 13⟩, ⟨0, 10, 17, 15⟩] ⟨0, 10, 21, 17⟩ [] rfl (fun z hz => by rcases List.mem_cons.mp hz with hz | hz; (rw [hz]; exact ⟨by decide, 1, w344, List.mem_of_getElem? (i := 1) rfl⟩); (rw [List.mem_singleton.mp hz]; exact ⟨by decide, 2, w345, List.mem_of_getElem? (i := 2) rfl⟩)) rfl (by decide) w346 (List.mem_of_getElem? (i := 4) rfl) (fun q9 => ?_)
          refine r_astore 21 4 [some (.ref as9), some (.int p2), some (.int p3), some (.ref au), some (.ref q9)] K (dk_of tL_wash 15 rfl) rfl rfl (by decide) ?_
          refine r_iconst 23 (3 : Int32) K (dk_of tL_wash 16 rfl) (by decide) ?_
          exact r_iret 24 K hQ (dk_of tL_wash 17 rfl) (Nat.le_refl _) (Nat.le_refl _) (lfi (s1 := (σ0, ω0)) (s2 := (σ, ω)) (fun u9 : St × (Nat → Int64) => wB γ h u9.1 ++ (wB γ g τ ++ (wS as9 (h 0) (g 0) an aq (ad 0) (ap 0) ++ (wN an (h 0) ν ++ (wR aq (h 0) ++ (wD γ ad δ ++ (wP γ ap π ++ (wO γ au u9.2 ++ (r))))))))) hR)
        · exact nn_ hR

def sp_L_sign (p2 : Int32) (p3 : Int32) (σ : St) (ω : (Nat → Int64)) : Option (Int32 × St × (Nat → Int64)) := bc2 (sp_X9_sign p2 p3 σ) (fun (x1 : Int32) (σ2 : St) => if x1 = 0 then (sl (vp_updL ω (0 : Int32).toNatClampNeg (0 : Int64)) (fun ω3 : (Nat → Int64) => some ((0 : Int32), σ2, ω3))) else (sl (vp_updL ω (0 : Int32).toNatClampNeg (1 : Int64)) (fun ω4 : (Nat → Int64) => some ((0 : Int32), σ2, ω4)))) (fun k9 => if k9 = 1 then (some ((1 : Int32), σ, ω)) else (if k9 = 2 then (some ((2 : Int32), σ, ω)) else (if k9 = 3 then (some ((3 : Int32), σ, ω)) else (none))))
set_option maxHeartbeats 4000000 in
set_option maxRecDepth 100000 in
theorem ct_L_sign {l : Launch} (hl : l.stackTraces = false) {γ : Gd} {h : Nat → Nat} {g : Nat → Nat} {as9 : Nat} {an : Nat} {aq : Nat} {ad : Nat → Nat} {ap : Nat → Nat} {au : Nat} {σ : St} {τ : St} {ν : (Nat → Int32)} {δ : St} {π : (St × Int64)} {ω : (Nat → Int64)} {r : va_W} {p2 : Int32} {p3 : Int32} {x0 : Int32} {σ0 : St} {ω0 : (Nat → Int64)} (hR : some (x0, σ0, ω0) = sp_L_sign p2 p3 σ ω) : Ct l γ yL_sign (Cond.codeWith yL_sign cL_sign 5 (some .int) [(0, 17, 20, 13), (0, 17, 24, 15), (0, 17, 28, 17)]) ({ frames := 8, cells := 1, slots := 6, locals := 127 } : Room) [.ref as9, .int p2, .int p3, .ref au] (wB γ h σ ++ (wB γ g τ ++ (wS as9 (h 0) (g 0) an aq (ad 0) (ap 0) ++ (wN an (h 0) ν ++ (wR aq (h 0) ++ (wD γ ad δ ++ (wP γ ap π ++ (wO γ au ω ++ (r))))))))) (Pr (some (.int x0)) (wB γ h σ0 ++ (wB γ g τ ++ (wS as9 (h 0) (g 0) an aq (ad 0) (ap 0) ++ (wN an (h 0) ν ++ (wR aq (h 0) ++ (wD γ ad δ ++ (wP γ ap π ++ (wO γ au ω0 ++ (r)))))))))) 1 6 := by
  refine Ct_ofH hl (by decide +kernel) rfl (Nat.le_of_ble_eq_true rfl) (L := [some (.ref as9), some (.int p2), some (.int p3), some (.ref au), none]) rfl ?_
  intro X Q K hQ
  generalize ((wB γ h σ ++ (wB γ g τ ++ (wS as9 (h 0) (g 0) an aq (ad 0) (ap 0) ++ (wN an (h 0) ν ++ (wR aq (h 0) ++ (wD γ ad δ ++ (wP γ ap π ++ (wO γ au ω ++ (r)))))))), Q) : MX) = M at K hQ ⊢
  unfold sp_L_sign at hR
  refine r_aload_n 0 3 K (dk_of tL_sign 0 rfl) rfl rfl ?_
  refine r_iconst 1 (0 : Int32) K (dk_of tL_sign 1 rfl) (by decide) ?_
  refine r_aload_n 2 0 K (dk_of tL_sign 2 rfl) rfl rfl ?_
  refine r_iload_n 3 1 K (dk_of tL_sign 3 rfl) rfl rfl ?_
  refine r_iload_n 4 2 K (dk_of tL_sign 4 rfl) rfl rfl ?_
  rcases oc2 hR with ⟨x1, σ2, hc, hR⟩ | ⟨k9, hc, hR⟩
  · refine r_cVi 5 52 [.int p2, .int p3] [.int (0 : Int32), .ref au] x1 (wB γ h σ2 ++ (wB γ g τ ++ (wS as9 (h 0) (g 0) an aq (ad 0) (ap 0) ++ (wN an (h 0) ν ++ (wR aq (h 0) ++ (wD γ ad δ ++ (wP γ ap π ++ (wO γ au ω ++ (r))))))))) K (ct_X9_sign hl (z := .inl (x1, σ2)) hc.symm) cs_L_83 ⟨rfl, rfl, rfl⟩ (dk_of tL_sign 5 rfl) rfl rfl rfl rfl rfl rfl ?_
    refine r_if_eq 8 15 K (dk_of tL_sign 6 rfl) (by decide) hR (fun hR => ?_) (fun hR => ?_)
    · refine r_lconst 15 0 K (dk_of tL_sign 9 rfl) (by decide) ?_
      refine r_last 16 60 K (dk_of tL_sign 10 rfl) rfl (vpd (by decide)) sO_0_btsnqdpu ?_
      refine r_nmS (fun ω3 : (Nat → Int64) => wB γ h σ2 ++ (wB γ g τ ++ (wS as9 (h 0) (g 0) an aq (ad 0) (ap 0) ++ (wN an (h 0) ν ++ (wR aq (h 0) ++ (wD γ ad δ ++ (wP γ ap π ++ (wO γ au ω3 ++ (r))))))))) hR (fun ω3 hR => ?_)
      refine r_goto 17 32 K (dk_of tL_sign 11 rfl) (by decide) ?_
      refine r_iconst 32 (0 : Int32) K (dk_of tL_sign 21 rfl) (by decide) ?_
      exact r_iret 33 K hQ (dk_of tL_sign 22 rfl) (Nat.zero_le _) (Nat.zero_le _) (lfi (s1 := (σ0, ω0)) (s2 := (σ2, ω3)) (fun u9 : St × (Nat → Int64) => wB γ h u9.1 ++ (wB γ g τ ++ (wS as9 (h 0) (g 0) an aq (ad 0) (ap 0) ++ (wN an (h 0) ν ++ (wR aq (h 0) ++ (wD γ ad δ ++ (wP γ ap π ++ (wO γ au u9.2 ++ (r))))))))) hR)
    · refine r_lconst 11 1 K (dk_of tL_sign 7 rfl) (by decide) ?_
      refine r_goto 12 16 K (dk_of tL_sign 8 rfl) (by decide) ?_
      refine r_last 16 60 K (dk_of tL_sign 10 rfl) rfl (vpd (by decide)) sO_0_btsnqdpu ?_
      refine r_nmS (fun ω4 : (Nat → Int64) => wB γ h σ2 ++ (wB γ g τ ++ (wS as9 (h 0) (g 0) an aq (ad 0) (ap 0) ++ (wN an (h 0) ν ++ (wR aq (h 0) ++ (wD γ ad δ ++ (wP γ ap π ++ (wO γ au ω4 ++ (r))))))))) hR (fun ω4 hR => ?_)
      refine r_goto 17 32 K (dk_of tL_sign 11 rfl) (by decide) ?_
      refine r_iconst 32 (0 : Int32) K (dk_of tL_sign 21 rfl) (by decide) ?_
      exact r_iret 33 K hQ (dk_of tL_sign 22 rfl) (Nat.zero_le _) (Nat.zero_le _) (lfi (s1 := (σ0, ω0)) (s2 := (σ2, ω4)) (fun u9 : St × (Nat → Int64) => wB γ h u9.1 ++ (wB γ g τ ++ (wS as9 (h 0) (g 0) an aq (ad 0) (ap 0) ++ (wN an (h 0) ν ++ (wR aq (h 0) ++ (wD γ ad δ ++ (wP γ ap π ++ (wO γ au u9.2 ++ (r))))))))) hR)
  · refine r_case hR (fun e9 hR => ?_) (fun e9 hR => ?_)
    · subst e9
      refine r_xV (mc := 1) (ms := 6) 5 52 [.int p2, .int p3] [.int (0 : Int32), .ref au] 1 (wB γ h σ ++ (wB γ g τ ++ (wS as9 (h 0) (g 0) an aq (ad 0) (ap 0) ++ (wN an (h 0) ν ++ (wR aq (h 0) ++ (wD γ ad δ ++ (wP γ ap π ++ (wO γ au ω ++ (r))))))))) K (ct_X9_sign hl (z := .inr 1) hc.symm) cs_L_83 ⟨rfl, rfl, rfl⟩ (dk_of tL_sign 5 rfl) rfl rfl rfl rfl rfl ⟨by decide, by decide⟩ ?_
      refine r_catch 5 K [] ⟨0, 17, 20, 13⟩ [⟨0, 17, 24, 15⟩, ⟨0, 17, 28, 17⟩] rfl (fun z hz => by cases hz) rfl (by decide) w344 (List.mem_of_getElem? (i := 2) rfl) (fun q9 => ?_)
      refine r_astore 20 4 [some (.ref as9), some (.int p2), some (.int p3), some (.ref au), some (.ref q9)] K (dk_of tL_sign 12 rfl) rfl rfl (by decide) ?_
      refine r_iconst 22 (1 : Int32) K (dk_of tL_sign 13 rfl) (by decide) ?_
      exact r_iret 23 K hQ (dk_of tL_sign 14 rfl) (Nat.le_refl _) (Nat.le_refl _) (lfi (s1 := (σ0, ω0)) (s2 := (σ, ω)) (fun u9 : St × (Nat → Int64) => wB γ h u9.1 ++ (wB γ g τ ++ (wS as9 (h 0) (g 0) an aq (ad 0) (ap 0) ++ (wN an (h 0) ν ++ (wR aq (h 0) ++ (wD γ ad δ ++ (wP γ ap π ++ (wO γ au u9.2 ++ (r))))))))) hR)
    · refine r_case hR (fun e9 hR => ?_) (fun e9 hR => ?_)
      · subst e9
        refine r_xV (mc := 1) (ms := 6) 5 52 [.int p2, .int p3] [.int (0 : Int32), .ref au] 2 (wB γ h σ ++ (wB γ g τ ++ (wS as9 (h 0) (g 0) an aq (ad 0) (ap 0) ++ (wN an (h 0) ν ++ (wR aq (h 0) ++ (wD γ ad δ ++ (wP γ ap π ++ (wO γ au ω ++ (r))))))))) K (ct_X9_sign hl (z := .inr 2) hc.symm) cs_L_83 ⟨rfl, rfl, rfl⟩ (dk_of tL_sign 5 rfl) rfl rfl rfl rfl rfl ⟨by decide, by decide⟩ ?_
        refine r_catch 5 K [⟨0, 17, 20, 13⟩] ⟨0, 17, 24, 15⟩ [⟨0, 17, 28, 17⟩] rfl (fun z hz => by rw [List.mem_singleton.mp hz]; exact ⟨by decide, 1, w344, List.mem_of_getElem? (i := 0) rfl⟩) rfl (by decide) w345 (List.mem_of_getElem? (i := 3) rfl) (fun q9 => ?_)
        refine r_astore 24 4 [some (.ref as9), some (.int p2), some (.int p3), some (.ref au), some (.ref q9)] K (dk_of tL_sign 15 rfl) rfl rfl (by decide) ?_
        refine r_iconst 26 (2 : Int32) K (dk_of tL_sign 16 rfl) (by decide) ?_
        exact r_iret 27 K hQ (dk_of tL_sign 17 rfl) (Nat.le_refl _) (Nat.le_refl _) (lfi (s1 := (σ0, ω0)) (s2 := (σ, ω)) (fun u9 : St × (Nat → Int64) => wB γ h u9.1 ++ (wB γ g τ ++ (wS as9 (h 0) (g 0) an aq (ad 0) (ap 0) ++ (wN an (h 0) ν ++ (wR aq (h 0) ++ (wD γ ad δ ++ (wP γ ap π ++ (wO γ au u9.2 ++ (r))))))))) hR)
      · refine r_case hR (fun e9 hR => ?_) (fun e9 hR => ?_)
        · subst e9
          refine r_xV (mc := 1) (ms := 6) 5 52 [.int p2, .int p3] [.int (0 : Int32), .ref au] 3 (wB γ h σ ++ (wB γ g τ ++ (wS as9 (h 0) (g 0) an aq (ad 0) (ap 0) ++ (wN an (h 0) ν ++ (wR aq (h 0) ++ (wD γ ad δ ++ (wP γ ap π ++ (wO γ au ω ++ (r))))))))) K (ct_X9_sign hl (z := .inr 3) hc.symm) cs_L_83 ⟨rfl, rfl, rfl⟩ (dk_of tL_sign 5 rfl) rfl rfl rfl rfl rfl ⟨by decide, by decide⟩ ?_
          refine r_catch 5 K [⟨0, 17, 20, 13⟩, ⟨0, 17, 24, 15⟩] ⟨0, 17, 28, 17⟩ [] rfl (fun z hz => by rcases List.mem_cons.mp hz with hz | hz; (rw [hz]; exact ⟨by decide, 1, w344, List.mem_of_getElem? (i := 1) rfl⟩); (rw [List.mem_singleton.mp hz]; exact ⟨by decide, 2, w345, List.mem_of_getElem? (i := 2) rfl⟩)) rfl (by decide) w346 (List.mem_of_getElem? (i := 4) rfl) (fun q9 => ?_)
          refine r_astore 28 4 [some (.ref as9), some (.int p2), some (.int p3), some (.ref au), some (.ref q9)] K (dk_of tL_sign 18 rfl) rfl rfl (by decide) ?_
          refine r_iconst 30 (3 : Int32) K (dk_of tL_sign 19 rfl) (by decide) ?_
          exact r_iret 31 K hQ (dk_of tL_sign 20 rfl) (Nat.le_refl _) (Nat.le_refl _) (lfi (s1 := (σ0, ω0)) (s2 := (σ, ω)) (fun u9 : St × (Nat → Int64) => wB γ h u9.1 ++ (wB γ g τ ++ (wS as9 (h 0) (g 0) an aq (ad 0) (ap 0) ++ (wN an (h 0) ν ++ (wR aq (h 0) ++ (wD γ ad δ ++ (wP γ ap π ++ (wO γ au u9.2 ++ (r))))))))) hR)
        · exact nn_ hR

def sp_L_site (p2 : Int32) (p3 : Int32) (δ : St) (ω : (Nat → Int64)) : Option (Int32 × St × (Nat → Int64)) := bc2 (sp_X9_site p2 p3 δ) (fun (x1 : Int32) (δ2 : St) => sl (vp_updL ω (0 : Int32).toNatClampNeg x1.toInt64) (fun ω3 : (Nat → Int64) => some ((0 : Int32), δ2, ω3))) (fun k9 => if k9 = 2 then (some ((1 : Int32), δ, ω)) else (if k9 = 3 then (some ((2 : Int32), δ, ω)) else (none)))
set_option maxHeartbeats 4000000 in
set_option maxRecDepth 100000 in
theorem ct_L_site {l : Launch} (hl : l.stackTraces = false) {γ : Gd} {h : Nat → Nat} {g : Nat → Nat} {as9 : Nat} {an : Nat} {aq : Nat} {ad : Nat → Nat} {ap : Nat → Nat} {au : Nat} {σ : St} {τ : St} {ν : (Nat → Int32)} {δ : St} {π : (St × Int64)} {ω : (Nat → Int64)} {r : va_W} {p2 : Int32} {p3 : Int32} {x0 : Int32} {δ0 : St} {ω0 : (Nat → Int64)} (hR : some (x0, δ0, ω0) = sp_L_site p2 p3 δ ω) : Ct l γ yL_site (Cond.codeWith yL_site cL_site 5 (some .int) [(0, 10, 13, 15), (0, 10, 17, 17)]) ({ frames := 8, cells := 1, slots := 6, locals := 126 } : Room) [.ref as9, .int p2, .int p3, .ref au] (wB γ h σ ++ (wB γ g τ ++ (wS as9 (h 0) (g 0) an aq (ad 0) (ap 0) ++ (wN an (h 0) ν ++ (wR aq (h 0) ++ (wD γ ad δ ++ (wP γ ap π ++ (wO γ au ω ++ (r))))))))) (Pr (some (.int x0)) (wB γ h σ ++ (wB γ g τ ++ (wS as9 (h 0) (g 0) an aq (ad 0) (ap 0) ++ (wN an (h 0) ν ++ (wR aq (h 0) ++ (wD γ ad δ0 ++ (wP γ ap π ++ (wO γ au ω0 ++ (r)))))))))) 1 6 := by
  refine Ct_ofH hl (by decide +kernel) rfl (Nat.le_of_ble_eq_true rfl) (L := [some (.ref as9), some (.int p2), some (.int p3), some (.ref au), none]) rfl ?_
  intro X Q K hQ
  generalize ((wB γ h σ ++ (wB γ g τ ++ (wS as9 (h 0) (g 0) an aq (ad 0) (ap 0) ++ (wN an (h 0) ν ++ (wR aq (h 0) ++ (wD γ ad δ ++ (wP γ ap π ++ (wO γ au ω ++ (r)))))))), Q) : MX) = M at K hQ ⊢
  unfold sp_L_site at hR
  refine r_aload_n 0 3 K (dk_of tL_site 0 rfl) rfl rfl ?_
  refine r_iconst 1 (0 : Int32) K (dk_of tL_site 1 rfl) (by decide) ?_
  refine r_aload_n 2 0 K (dk_of tL_site 2 rfl) rfl rfl ?_
  refine r_iload_n 3 1 K (dk_of tL_site 3 rfl) rfl rfl ?_
  refine r_iload_n 4 2 K (dk_of tL_site 4 rfl) rfl rfl ?_
  rcases oc2 hR with ⟨x1, δ2, hc, hR⟩ | ⟨k9, hc, hR⟩
  · refine r_cVi 5 52 [.int p2, .int p3] [.int (0 : Int32), .ref au] x1 (wB γ h σ ++ (wB γ g τ ++ (wS as9 (h 0) (g 0) an aq (ad 0) (ap 0) ++ (wN an (h 0) ν ++ (wR aq (h 0) ++ (wD γ ad δ2 ++ (wP γ ap π ++ (wO γ au ω ++ (r))))))))) K (ct_X9_site hl (z := .inl (x1, δ2)) hc.symm) cs_L_87 ⟨rfl, rfl, rfl⟩ (dk_of tL_site 5 rfl) rfl rfl rfl rfl rfl rfl ?_
    refine r_i2l 8 K (dk_of tL_site 6 rfl) ?_
    refine r_last 9 60 K (dk_of tL_site 7 rfl) rfl (vpd (by decide)) sO_0_btsnqdpu ?_
    refine r_nmS (fun ω3 : (Nat → Int64) => wB γ h σ ++ (wB γ g τ ++ (wS as9 (h 0) (g 0) an aq (ad 0) (ap 0) ++ (wN an (h 0) ν ++ (wR aq (h 0) ++ (wD γ ad δ2 ++ (wP γ ap π ++ (wO γ au ω3 ++ (r))))))))) hR (fun ω3 hR => ?_)
    refine r_goto 10 21 K (dk_of tL_site 8 rfl) (by decide) ?_
    refine r_iconst 21 (0 : Int32) K (dk_of tL_site 15 rfl) (by decide) ?_
    exact r_iret 22 K hQ (dk_of tL_site 16 rfl) (Nat.zero_le _) (Nat.zero_le _) (lfi (s1 := (δ0, ω0)) (s2 := (δ2, ω3)) (fun u9 : St × (Nat → Int64) => wB γ h σ ++ (wB γ g τ ++ (wS as9 (h 0) (g 0) an aq (ad 0) (ap 0) ++ (wN an (h 0) ν ++ (wR aq (h 0) ++ (wD γ ad u9.1 ++ (wP γ ap π ++ (wO γ au u9.2 ++ (r))))))))) hR)
  · refine r_case hR (fun e9 hR => ?_) (fun e9 hR => ?_)
    · subst e9
      refine r_xV (mc := 1) (ms := 6) 5 52 [.int p2, .int p3] [.int (0 : Int32), .ref au] 2 (wB γ h σ ++ (wB γ g τ ++ (wS as9 (h 0) (g 0) an aq (ad 0) (ap 0) ++ (wN an (h 0) ν ++ (wR aq (h 0) ++ (wD γ ad δ ++ (wP γ ap π ++ (wO γ au ω ++ (r))))))))) K (ct_X9_site hl (z := .inr 2) hc.symm) cs_L_87 ⟨rfl, rfl, rfl⟩ (dk_of tL_site 5 rfl) rfl rfl rfl rfl rfl ⟨by decide, by decide⟩ ?_
      refine r_catch 5 K [] ⟨0, 10, 13, 15⟩ [⟨0, 10, 17, 17⟩] rfl (fun z hz => by cases hz) rfl (by decide) w345 (List.mem_of_getElem? (i := 3) rfl) (fun q9 => ?_)
      refine r_astore 13 4 [some (.ref as9), some (.int p2), some (.int p3), some (.ref au), some (.ref q9)] K (dk_of tL_site 9 rfl) rfl rfl (by decide) ?_
      refine r_iconst 15 (1 : Int32) K (dk_of tL_site 10 rfl) (by decide) ?_
      exact r_iret 16 K hQ (dk_of tL_site 11 rfl) (Nat.le_refl _) (Nat.le_refl _) (lfi (s1 := (δ0, ω0)) (s2 := (δ, ω)) (fun u9 : St × (Nat → Int64) => wB γ h σ ++ (wB γ g τ ++ (wS as9 (h 0) (g 0) an aq (ad 0) (ap 0) ++ (wN an (h 0) ν ++ (wR aq (h 0) ++ (wD γ ad u9.1 ++ (wP γ ap π ++ (wO γ au u9.2 ++ (r))))))))) hR)
    · refine r_case hR (fun e9 hR => ?_) (fun e9 hR => ?_)
      · subst e9
        refine r_xV (mc := 1) (ms := 6) 5 52 [.int p2, .int p3] [.int (0 : Int32), .ref au] 3 (wB γ h σ ++ (wB γ g τ ++ (wS as9 (h 0) (g 0) an aq (ad 0) (ap 0) ++ (wN an (h 0) ν ++ (wR aq (h 0) ++ (wD γ ad δ ++ (wP γ ap π ++ (wO γ au ω ++ (r))))))))) K (ct_X9_site hl (z := .inr 3) hc.symm) cs_L_87 ⟨rfl, rfl, rfl⟩ (dk_of tL_site 5 rfl) rfl rfl rfl rfl rfl ⟨by decide, by decide⟩ ?_
        refine r_catch 5 K [⟨0, 10, 13, 15⟩] ⟨0, 10, 17, 17⟩ [] rfl (fun z hz => by rw [List.mem_singleton.mp hz]; exact ⟨by decide, 2, w345, List.mem_of_getElem? (i := 2) rfl⟩) rfl (by decide) w346 (List.mem_of_getElem? (i := 4) rfl) (fun q9 => ?_)
        refine r_astore 17 4 [some (.ref as9), some (.int p2), some (.int p3), some (.ref au), some (.ref q9)] K (dk_of tL_site 12 rfl) rfl rfl (by decide) ?_
        refine r_iconst 19 (2 : Int32) K (dk_of tL_site 13 rfl) (by decide) ?_
        exact r_iret 20 K hQ (dk_of tL_site 14 rfl) (Nat.le_refl _) (Nat.le_refl _) (lfi (s1 := (δ0, ω0)) (s2 := (δ, ω)) (fun u9 : St × (Nat → Int64) => wB γ h σ ++ (wB γ g τ ++ (wS as9 (h 0) (g 0) an aq (ad 0) (ap 0) ++ (wN an (h 0) ν ++ (wR aq (h 0) ++ (wD γ ad u9.1 ++ (wP γ ap π ++ (wO γ au u9.2 ++ (r))))))))) hR)
      · exact nn_ hR

def sp_L_deliver (p2 : Int32) (p3 : Int32) (p4 : Int32) (δ : St) (ω : (Nat → Int64)) : Option (Int32 × St × (Nat → Int64)) := bc2 (sp_X9_deliver p2 p3 p4 δ) (fun (x1 : Int32) (δ2 : St) => sl (vp_updL ω (0 : Int32).toNatClampNeg x1.toInt64) (fun ω3 : (Nat → Int64) => some ((0 : Int32), δ2, ω3))) (fun k9 => if k9 = 1 then (some ((1 : Int32), δ, ω)) else (if k9 = 2 then (some ((2 : Int32), δ, ω)) else (if k9 = 3 then (some ((3 : Int32), δ, ω)) else (none))))
set_option maxHeartbeats 4000000 in
set_option maxRecDepth 100000 in
theorem ct_L_deliver {l : Launch} (hl : l.stackTraces = false) {γ : Gd} {h : Nat → Nat} {g : Nat → Nat} {as9 : Nat} {an : Nat} {aq : Nat} {ad : Nat → Nat} {ap : Nat → Nat} {au : Nat} {σ : St} {τ : St} {ν : (Nat → Int32)} {δ : St} {π : (St × Int64)} {ω : (Nat → Int64)} {r : va_W} {p2 : Int32} {p3 : Int32} {p4 : Int32} {x0 : Int32} {δ0 : St} {ω0 : (Nat → Int64)} (hR : some (x0, δ0, ω0) = sp_L_deliver p2 p3 p4 δ ω) : Ct l γ yL_deliver (Cond.codeWith yL_deliver cL_deliver 6 (some .int) [(0, 12, 15, 13), (0, 12, 19, 15), (0, 12, 23, 17)]) ({ frames := 8, cells := 1, slots := 6, locals := 127 } : Room) [.ref as9, .int p2, .int p3, .int p4, .ref au] (wB γ h σ ++ (wB γ g τ ++ (wS as9 (h 0) (g 0) an aq (ad 0) (ap 0) ++ (wN an (h 0) ν ++ (wR aq (h 0) ++ (wD γ ad δ ++ (wP γ ap π ++ (wO γ au ω ++ (r))))))))) (Pr (some (.int x0)) (wB γ h σ ++ (wB γ g τ ++ (wS as9 (h 0) (g 0) an aq (ad 0) (ap 0) ++ (wN an (h 0) ν ++ (wR aq (h 0) ++ (wD γ ad δ0 ++ (wP γ ap π ++ (wO γ au ω0 ++ (r)))))))))) 1 6 := by
  refine Ct_ofH hl (by decide +kernel) rfl (Nat.le_of_ble_eq_true rfl) (L := [some (.ref as9), some (.int p2), some (.int p3), some (.int p4), some (.ref au), none]) rfl ?_
  intro X Q K hQ
  generalize ((wB γ h σ ++ (wB γ g τ ++ (wS as9 (h 0) (g 0) an aq (ad 0) (ap 0) ++ (wN an (h 0) ν ++ (wR aq (h 0) ++ (wD γ ad δ ++ (wP γ ap π ++ (wO γ au ω ++ (r)))))))), Q) : MX) = M at K hQ ⊢
  unfold sp_L_deliver at hR
  refine r_aload 0 4 K (dk_of tL_deliver 0 rfl) rfl ?_
  refine r_iconst 2 (0 : Int32) K (dk_of tL_deliver 1 rfl) (by decide) ?_
  refine r_aload_n 3 0 K (dk_of tL_deliver 2 rfl) rfl rfl ?_
  refine r_iload_n 4 1 K (dk_of tL_deliver 3 rfl) rfl rfl ?_
  refine r_iload_n 5 2 K (dk_of tL_deliver 4 rfl) rfl rfl ?_
  refine r_iload_n 6 3 K (dk_of tL_deliver 5 rfl) rfl rfl ?_
  rcases oc2 hR with ⟨x1, δ2, hc, hR⟩ | ⟨k9, hc, hR⟩
  · refine r_cVi 7 52 [.int p2, .int p3, .int p4] [.int (0 : Int32), .ref au] x1 (wB γ h σ ++ (wB γ g τ ++ (wS as9 (h 0) (g 0) an aq (ad 0) (ap 0) ++ (wN an (h 0) ν ++ (wR aq (h 0) ++ (wD γ ad δ2 ++ (wP γ ap π ++ (wO γ au ω ++ (r))))))))) K (ct_X9_deliver hl (z := .inl (x1, δ2)) hc.symm) cs_L_90 ⟨rfl, rfl, rfl⟩ (dk_of tL_deliver 6 rfl) rfl rfl rfl rfl rfl rfl ?_
    refine r_i2l 10 K (dk_of tL_deliver 7 rfl) ?_
    refine r_last 11 60 K (dk_of tL_deliver 8 rfl) rfl (vpd (by decide)) sO_0_btsnqdpu ?_
    refine r_nmS (fun ω3 : (Nat → Int64) => wB γ h σ ++ (wB γ g τ ++ (wS as9 (h 0) (g 0) an aq (ad 0) (ap 0) ++ (wN an (h 0) ν ++ (wR aq (h 0) ++ (wD γ ad δ2 ++ (wP γ ap π ++ (wO γ au ω3 ++ (r))))))))) hR (fun ω3 hR => ?_)
    refine r_goto 12 27 K (dk_of tL_deliver 9 rfl) (by decide) ?_
    refine r_iconst 27 (0 : Int32) K (dk_of tL_deliver 19 rfl) (by decide) ?_
    exact r_iret 28 K hQ (dk_of tL_deliver 20 rfl) (Nat.zero_le _) (Nat.zero_le _) (lfi (s1 := (δ0, ω0)) (s2 := (δ2, ω3)) (fun u9 : St × (Nat → Int64) => wB γ h σ ++ (wB γ g τ ++ (wS as9 (h 0) (g 0) an aq (ad 0) (ap 0) ++ (wN an (h 0) ν ++ (wR aq (h 0) ++ (wD γ ad u9.1 ++ (wP γ ap π ++ (wO γ au u9.2 ++ (r))))))))) hR)
  · refine r_case hR (fun e9 hR => ?_) (fun e9 hR => ?_)
    · subst e9
      refine r_xV (mc := 1) (ms := 6) 7 52 [.int p2, .int p3, .int p4] [.int (0 : Int32), .ref au] 1 (wB γ h σ ++ (wB γ g τ ++ (wS as9 (h 0) (g 0) an aq (ad 0) (ap 0) ++ (wN an (h 0) ν ++ (wR aq (h 0) ++ (wD γ ad δ ++ (wP γ ap π ++ (wO γ au ω ++ (r))))))))) K (ct_X9_deliver hl (z := .inr 1) hc.symm) cs_L_90 ⟨rfl, rfl, rfl⟩ (dk_of tL_deliver 6 rfl) rfl rfl rfl rfl rfl ⟨by decide, by decide⟩ ?_
      refine r_catch 7 K [] ⟨0, 12, 15, 13⟩ [⟨0, 12, 19, 15⟩, ⟨0, 12, 23, 17⟩] rfl (fun z hz => by cases hz) rfl (by decide) w344 (List.mem_of_getElem? (i := 2) rfl) (fun q9 => ?_)
      refine r_astore 15 5 [some (.ref as9), some (.int p2), some (.int p3), some (.int p4), some (.ref au), some (.ref q9)] K (dk_of tL_deliver 10 rfl) rfl rfl (by decide) ?_
      refine r_iconst 17 (1 : Int32) K (dk_of tL_deliver 11 rfl) (by decide) ?_
      exact r_iret 18 K hQ (dk_of tL_deliver 12 rfl) (Nat.le_refl _) (Nat.le_refl _) (lfi (s1 := (δ0, ω0)) (s2 := (δ, ω)) (fun u9 : St × (Nat → Int64) => wB γ h σ ++ (wB γ g τ ++ (wS as9 (h 0) (g 0) an aq (ad 0) (ap 0) ++ (wN an (h 0) ν ++ (wR aq (h 0) ++ (wD γ ad u9.1 ++ (wP γ ap π ++ (wO γ au u9.2 ++ (r))))))))) hR)
    · refine r_case hR (fun e9 hR => ?_) (fun e9 hR => ?_)
      · subst e9
        refine r_xV (mc := 1) (ms := 6) 7 52 [.int p2, .int p3, .int p4] [.int (0 : Int32), .ref au] 2 (wB γ h σ ++ (wB γ g τ ++ (wS as9 (h 0) (g 0) an aq (ad 0) (ap 0) ++ (wN an (h 0) ν ++ (wR aq (h 0) ++ (wD γ ad δ ++ (wP γ ap π ++ (wO γ au ω ++ (r))))))))) K (ct_X9_deliver hl (z := .inr 2) hc.symm) cs_L_90 ⟨rfl, rfl, rfl⟩ (dk_of tL_deliver 6 rfl) rfl rfl rfl rfl rfl ⟨by decide, by decide⟩ ?_
        refine r_catch 7 K [⟨0, 12, 15, 13⟩] ⟨0, 12, 19, 15⟩ [⟨0, 12, 23, 17⟩] rfl (fun z hz => by rw [List.mem_singleton.mp hz]; exact ⟨by decide, 1, w344, List.mem_of_getElem? (i := 0) rfl⟩) rfl (by decide) w345 (List.mem_of_getElem? (i := 3) rfl) (fun q9 => ?_)
        refine r_astore 19 5 [some (.ref as9), some (.int p2), some (.int p3), some (.int p4), some (.ref au), some (.ref q9)] K (dk_of tL_deliver 13 rfl) rfl rfl (by decide) ?_
        refine r_iconst 21 (2 : Int32) K (dk_of tL_deliver 14 rfl) (by decide) ?_
        exact r_iret 22 K hQ (dk_of tL_deliver 15 rfl) (Nat.le_refl _) (Nat.le_refl _) (lfi (s1 := (δ0, ω0)) (s2 := (δ, ω)) (fun u9 : St × (Nat → Int64) => wB γ h σ ++ (wB γ g τ ++ (wS as9 (h 0) (g 0) an aq (ad 0) (ap 0) ++ (wN an (h 0) ν ++ (wR aq (h 0) ++ (wD γ ad u9.1 ++ (wP γ ap π ++ (wO γ au u9.2 ++ (r))))))))) hR)
      · refine r_case hR (fun e9 hR => ?_) (fun e9 hR => ?_)
        · subst e9
          refine r_xV (mc := 1) (ms := 6) 7 52 [.int p2, .int p3, .int p4] [.int (0 : Int32), .ref au] 3 (wB γ h σ ++ (wB γ g τ ++ (wS as9 (h 0) (g 0) an aq (ad 0) (ap 0) ++ (wN an (h 0) ν ++ (wR aq (h 0) ++ (wD γ ad δ ++ (wP γ ap π ++ (wO γ au ω ++ (r))))))))) K (ct_X9_deliver hl (z := .inr 3) hc.symm) cs_L_90 ⟨rfl, rfl, rfl⟩ (dk_of tL_deliver 6 rfl) rfl rfl rfl rfl rfl ⟨by decide, by decide⟩ ?_
          refine r_catch 7 K [⟨0, 12, 15, 13⟩, ⟨0, 12, 19, 15⟩] ⟨0, 12, 23, 17⟩ [] rfl (fun z hz => by rcases List.mem_cons.mp hz with hz | hz; (rw [hz]; exact ⟨by decide, 1, w344, List.mem_of_getElem? (i := 1) rfl⟩); (rw [List.mem_singleton.mp hz]; exact ⟨by decide, 2, w345, List.mem_of_getElem? (i := 2) rfl⟩)) rfl (by decide) w346 (List.mem_of_getElem? (i := 4) rfl) (fun q9 => ?_)
          refine r_astore 23 5 [some (.ref as9), some (.int p2), some (.int p3), some (.int p4), some (.ref au), some (.ref q9)] K (dk_of tL_deliver 16 rfl) rfl rfl (by decide) ?_
          refine r_iconst 25 (3 : Int32) K (dk_of tL_deliver 17 rfl) (by decide) ?_
          exact r_iret 26 K hQ (dk_of tL_deliver 18 rfl) (Nat.le_refl _) (Nat.le_refl _) (lfi (s1 := (δ0, ω0)) (s2 := (δ, ω)) (fun u9 : St × (Nat → Int64) => wB γ h σ ++ (wB γ g τ ++ (wS as9 (h 0) (g 0) an aq (ad 0) (ap 0) ++ (wN an (h 0) ν ++ (wR aq (h 0) ++ (wD γ ad u9.1 ++ (wP γ ap π ++ (wO γ au u9.2 ++ (r))))))))) hR)
        · exact nn_ hR

def sp_L_waste (p2 : Int32) (δ : St) (ω : (Nat → Int64)) : Option (Int32 × (Nat → Int64)) := bc1 (sp_X9_waste p2 δ) (fun (x1 : Int32) => sl (vp_updL ω (0 : Int32).toNatClampNeg x1.toInt64) (fun ω2 : (Nat → Int64) => some ((0 : Int32), ω2))) (fun k9 => if k9 = 2 then (some ((1 : Int32), ω)) else (none))
set_option maxHeartbeats 4000000 in
set_option maxRecDepth 100000 in
theorem ct_L_waste {l : Launch} (hl : l.stackTraces = false) {γ : Gd} {h : Nat → Nat} {g : Nat → Nat} {as9 : Nat} {an : Nat} {aq : Nat} {ad : Nat → Nat} {ap : Nat → Nat} {au : Nat} {σ : St} {τ : St} {ν : (Nat → Int32)} {δ : St} {π : (St × Int64)} {ω : (Nat → Int64)} {r : va_W} {p2 : Int32} {x0 : Int32} {ω0 : (Nat → Int64)} (hR : some (x0, ω0) = sp_L_waste p2 δ ω) : Ct l γ yL_waste (Cond.codeWith yL_waste cL_waste 4 (some .int) [(0, 9, 12, 15)]) ({ frames := 8, cells := 1, slots := 6, locals := 125 } : Room) [.ref as9, .int p2, .ref au] (wB γ h σ ++ (wB γ g τ ++ (wS as9 (h 0) (g 0) an aq (ad 0) (ap 0) ++ (wN an (h 0) ν ++ (wR aq (h 0) ++ (wD γ ad δ ++ (wP γ ap π ++ (wO γ au ω ++ (r))))))))) (Pr (some (.int x0)) (wB γ h σ ++ (wB γ g τ ++ (wS as9 (h 0) (g 0) an aq (ad 0) (ap 0) ++ (wN an (h 0) ν ++ (wR aq (h 0) ++ (wD γ ad δ ++ (wP γ ap π ++ (wO γ au ω0 ++ (r)))))))))) 1 6 := by
  refine Ct_ofH hl (by decide +kernel) rfl (Nat.le_of_ble_eq_true rfl) (L := [some (.ref as9), some (.int p2), some (.ref au), none]) rfl ?_
  intro X Q K hQ
  generalize ((wB γ h σ ++ (wB γ g τ ++ (wS as9 (h 0) (g 0) an aq (ad 0) (ap 0) ++ (wN an (h 0) ν ++ (wR aq (h 0) ++ (wD γ ad δ ++ (wP γ ap π ++ (wO γ au ω ++ (r)))))))), Q) : MX) = M at K hQ ⊢
  unfold sp_L_waste at hR
  refine r_aload_n 0 2 K (dk_of tL_waste 0 rfl) rfl rfl ?_
  refine r_iconst 1 (0 : Int32) K (dk_of tL_waste 1 rfl) (by decide) ?_
  refine r_aload_n 2 0 K (dk_of tL_waste 2 rfl) rfl rfl ?_
  refine r_iload_n 3 1 K (dk_of tL_waste 3 rfl) rfl rfl ?_
  rcases oc1 hR with ⟨x1, hc, hR⟩ | ⟨k9, hc, hR⟩
  · refine r_cVi 4 52 [.int p2] [.int (0 : Int32), .ref au] x1 (wB γ h σ ++ (wB γ g τ ++ (wS as9 (h 0) (g 0) an aq (ad 0) (ap 0) ++ (wN an (h 0) ν ++ (wR aq (h 0) ++ (wD γ ad δ ++ (wP γ ap π ++ (wO γ au ω ++ (r))))))))) K (ct_X9_waste hl (z := .inl x1) hc.symm) cs_L_93 ⟨rfl, rfl, rfl⟩ (dk_of tL_waste 4 rfl) rfl rfl rfl rfl rfl rfl ?_
    refine r_i2l 7 K (dk_of tL_waste 5 rfl) ?_
    refine r_last 8 60 K (dk_of tL_waste 6 rfl) rfl (vpd (by decide)) sO_0_btsnqdpu ?_
    refine r_nmS (fun ω2 : (Nat → Int64) => wB γ h σ ++ (wB γ g τ ++ (wS as9 (h 0) (g 0) an aq (ad 0) (ap 0) ++ (wN an (h 0) ν ++ (wR aq (h 0) ++ (wD γ ad δ ++ (wP γ ap π ++ (wO γ au ω2 ++ (r))))))))) hR (fun ω2 hR => ?_)
    refine r_goto 9 15 K (dk_of tL_waste 7 rfl) (by decide) ?_
    refine r_iconst 15 (0 : Int32) K (dk_of tL_waste 11 rfl) (by decide) ?_
    exact r_iret 16 K hQ (dk_of tL_waste 12 rfl) (Nat.zero_le _) (Nat.zero_le _) (lfi (s1 := ω0) (s2 := ω2) (fun u9 : (Nat → Int64) => wB γ h σ ++ (wB γ g τ ++ (wS as9 (h 0) (g 0) an aq (ad 0) (ap 0) ++ (wN an (h 0) ν ++ (wR aq (h 0) ++ (wD γ ad δ ++ (wP γ ap π ++ (wO γ au u9 ++ (r))))))))) hR)
  · refine r_case hR (fun e9 hR => ?_) (fun e9 hR => ?_)
    · subst e9
      refine r_xV (mc := 1) (ms := 6) 4 52 [.int p2] [.int (0 : Int32), .ref au] 2 (wB γ h σ ++ (wB γ g τ ++ (wS as9 (h 0) (g 0) an aq (ad 0) (ap 0) ++ (wN an (h 0) ν ++ (wR aq (h 0) ++ (wD γ ad δ ++ (wP γ ap π ++ (wO γ au ω ++ (r))))))))) K (ct_X9_waste hl (z := .inr 2) hc.symm) cs_L_93 ⟨rfl, rfl, rfl⟩ (dk_of tL_waste 4 rfl) rfl rfl rfl rfl rfl ⟨by decide, by decide⟩ ?_
      refine r_catch 4 K [] ⟨0, 9, 12, 15⟩ [] rfl (fun z hz => by cases hz) rfl (by decide) w345 (List.mem_of_getElem? (i := 3) rfl) (fun q9 => ?_)
      refine r_astore_n 12 3 [some (.ref as9), some (.int p2), some (.ref au), some (.ref q9)] K (dk_of tL_waste 8 rfl) rfl rfl rfl (by decide) ?_
      refine r_iconst 13 (1 : Int32) K (dk_of tL_waste 9 rfl) (by decide) ?_
      exact r_iret 14 K hQ (dk_of tL_waste 10 rfl) (Nat.le_refl _) (Nat.le_refl _) (lfi (s1 := ω0) (s2 := ω) (fun u9 : (Nat → Int64) => wB γ h σ ++ (wB γ g τ ++ (wS as9 (h 0) (g 0) an aq (ad 0) (ap 0) ++ (wN an (h 0) ν ++ (wR aq (h 0) ++ (wD γ ad δ ++ (wP γ ap π ++ (wO γ au u9 ++ (r))))))))) hR)
    · exact nn_ hR

def sp_L_claim (p2 : Int32) (π : (St × Int64)) (ω : (Nat → Int64)) : Option (Int32 × (St × Int64) × (Nat → Int64)) := bc2 (sp_X9_claim p2 π) (fun (x1 : Int32) (π2 : (St × Int64)) => sl (vp_updL ω (0 : Int32).toNatClampNeg x1.toInt64) (fun ω3 : (Nat → Int64) => some ((0 : Int32), π2, ω3))) (fun k9 => if k9 = 2 then (some ((1 : Int32), π, ω)) else (if k9 = 3 then (some ((2 : Int32), π, ω)) else (none)))
set_option maxHeartbeats 4000000 in
set_option maxRecDepth 100000 in
theorem ct_L_claim {l : Launch} (hl : l.stackTraces = false) {γ : Gd} {h : Nat → Nat} {g : Nat → Nat} {as9 : Nat} {an : Nat} {aq : Nat} {ad : Nat → Nat} {ap : Nat → Nat} {au : Nat} {σ : St} {τ : St} {ν : (Nat → Int32)} {δ : St} {π : (St × Int64)} {ω : (Nat → Int64)} {r : va_W} {p2 : Int32} {x0 : Int32} {π0 : (St × Int64)} {ω0 : (Nat → Int64)} (hR : some (x0, π0, ω0) = sp_L_claim p2 π ω) : Ct l γ yL_claim (Cond.codeWith yL_claim cL_claim 4 (some .int) [(0, 9, 12, 15), (0, 9, 15, 17)]) ({ frames := 8, cells := 1, slots := 6, locals := 125 } : Room) [.ref as9, .int p2, .ref au] (wB γ h σ ++ (wB γ g τ ++ (wS as9 (h 0) (g 0) an aq (ad 0) (ap 0) ++ (wN an (h 0) ν ++ (wR aq (h 0) ++ (wD γ ad δ ++ (wP γ ap π ++ (wO γ au ω ++ (r))))))))) (Pr (some (.int x0)) (wB γ h σ ++ (wB γ g τ ++ (wS as9 (h 0) (g 0) an aq (ad 0) (ap 0) ++ (wN an (h 0) ν ++ (wR aq (h 0) ++ (wD γ ad δ ++ (wP γ ap π0 ++ (wO γ au ω0 ++ (r)))))))))) 1 6 := by
  refine Ct_ofH hl (by decide +kernel) rfl (Nat.le_of_ble_eq_true rfl) (L := [some (.ref as9), some (.int p2), some (.ref au), none]) rfl ?_
  intro X Q K hQ
  generalize ((wB γ h σ ++ (wB γ g τ ++ (wS as9 (h 0) (g 0) an aq (ad 0) (ap 0) ++ (wN an (h 0) ν ++ (wR aq (h 0) ++ (wD γ ad δ ++ (wP γ ap π ++ (wO γ au ω ++ (r)))))))), Q) : MX) = M at K hQ ⊢
  unfold sp_L_claim at hR
  refine r_aload_n 0 2 K (dk_of tL_claim 0 rfl) rfl rfl ?_
  refine r_iconst 1 (0 : Int32) K (dk_of tL_claim 1 rfl) (by decide) ?_
  refine r_aload_n 2 0 K (dk_of tL_claim 2 rfl) rfl rfl ?_
  refine r_iload_n 3 1 K (dk_of tL_claim 3 rfl) rfl rfl ?_
  rcases oc2 hR with ⟨x1, π2, hc, hR⟩ | ⟨k9, hc, hR⟩
  · refine r_cVi 4 52 [.int p2] [.int (0 : Int32), .ref au] x1 (wB γ h σ ++ (wB γ g τ ++ (wS as9 (h 0) (g 0) an aq (ad 0) (ap 0) ++ (wN an (h 0) ν ++ (wR aq (h 0) ++ (wD γ ad δ ++ (wP γ ap π2 ++ (wO γ au ω ++ (r))))))))) K (ct_X9_claim hl (z := .inl (x1, π2)) hc.symm) cs_L_96 ⟨rfl, rfl, rfl⟩ (dk_of tL_claim 4 rfl) rfl rfl rfl rfl rfl rfl ?_
    refine r_i2l 7 K (dk_of tL_claim 5 rfl) ?_
    refine r_last 8 60 K (dk_of tL_claim 6 rfl) rfl (vpd (by decide)) sO_0_btsnqdpu ?_
    refine r_nmS (fun ω3 : (Nat → Int64) => wB γ h σ ++ (wB γ g τ ++ (wS as9 (h 0) (g 0) an aq (ad 0) (ap 0) ++ (wN an (h 0) ν ++ (wR aq (h 0) ++ (wD γ ad δ ++ (wP γ ap π2 ++ (wO γ au ω3 ++ (r))))))))) hR (fun ω3 hR => ?_)
    refine r_goto 9 18 K (dk_of tL_claim 7 rfl) (by decide) ?_
    refine r_iconst 18 (0 : Int32) K (dk_of tL_claim 14 rfl) (by decide) ?_
    exact r_iret 19 K hQ (dk_of tL_claim 15 rfl) (Nat.zero_le _) (Nat.zero_le _) (lfi (s1 := (π0, ω0)) (s2 := (π2, ω3)) (fun u9 : (St × Int64) × (Nat → Int64) => wB γ h σ ++ (wB γ g τ ++ (wS as9 (h 0) (g 0) an aq (ad 0) (ap 0) ++ (wN an (h 0) ν ++ (wR aq (h 0) ++ (wD γ ad δ ++ (wP γ ap u9.1 ++ (wO γ au u9.2 ++ (r))))))))) hR)
  · refine r_case hR (fun e9 hR => ?_) (fun e9 hR => ?_)
    · subst e9
      refine r_xV (mc := 1) (ms := 6) 4 52 [.int p2] [.int (0 : Int32), .ref au] 2 (wB γ h σ ++ (wB γ g τ ++ (wS as9 (h 0) (g 0) an aq (ad 0) (ap 0) ++ (wN an (h 0) ν ++ (wR aq (h 0) ++ (wD γ ad δ ++ (wP γ ap π ++ (wO γ au ω ++ (r))))))))) K (ct_X9_claim hl (z := .inr 2) hc.symm) cs_L_96 ⟨rfl, rfl, rfl⟩ (dk_of tL_claim 4 rfl) rfl rfl rfl rfl rfl ⟨by decide, by decide⟩ ?_
      refine r_catch 4 K [] ⟨0, 9, 12, 15⟩ [⟨0, 9, 15, 17⟩] rfl (fun z hz => by cases hz) rfl (by decide) w345 (List.mem_of_getElem? (i := 3) rfl) (fun q9 => ?_)
      refine r_astore_n 12 3 [some (.ref as9), some (.int p2), some (.ref au), some (.ref q9)] K (dk_of tL_claim 8 rfl) rfl rfl rfl (by decide) ?_
      refine r_iconst 13 (1 : Int32) K (dk_of tL_claim 9 rfl) (by decide) ?_
      exact r_iret 14 K hQ (dk_of tL_claim 10 rfl) (Nat.le_refl _) (Nat.le_refl _) (lfi (s1 := (π0, ω0)) (s2 := (π, ω)) (fun u9 : (St × Int64) × (Nat → Int64) => wB γ h σ ++ (wB γ g τ ++ (wS as9 (h 0) (g 0) an aq (ad 0) (ap 0) ++ (wN an (h 0) ν ++ (wR aq (h 0) ++ (wD γ ad δ ++ (wP γ ap u9.1 ++ (wO γ au u9.2 ++ (r))))))))) hR)
    · refine r_case hR (fun e9 hR => ?_) (fun e9 hR => ?_)
      · subst e9
        refine r_xV (mc := 1) (ms := 6) 4 52 [.int p2] [.int (0 : Int32), .ref au] 3 (wB γ h σ ++ (wB γ g τ ++ (wS as9 (h 0) (g 0) an aq (ad 0) (ap 0) ++ (wN an (h 0) ν ++ (wR aq (h 0) ++ (wD γ ad δ ++ (wP γ ap π ++ (wO γ au ω ++ (r))))))))) K (ct_X9_claim hl (z := .inr 3) hc.symm) cs_L_96 ⟨rfl, rfl, rfl⟩ (dk_of tL_claim 4 rfl) rfl rfl rfl rfl rfl ⟨by decide, by decide⟩ ?_
        refine r_catch 4 K [⟨0, 9, 12, 15⟩] ⟨0, 9, 15, 17⟩ [] rfl (fun z hz => by rw [List.mem_singleton.mp hz]; exact ⟨by decide, 2, w345, List.mem_of_getElem? (i := 2) rfl⟩) rfl (by decide) w346 (List.mem_of_getElem? (i := 4) rfl) (fun q9 => ?_)
        refine r_astore_n 15 3 [some (.ref as9), some (.int p2), some (.ref au), some (.ref q9)] K (dk_of tL_claim 11 rfl) rfl rfl rfl (by decide) ?_
        refine r_iconst 16 (2 : Int32) K (dk_of tL_claim 12 rfl) (by decide) ?_
        exact r_iret 17 K hQ (dk_of tL_claim 13 rfl) (Nat.le_refl _) (Nat.le_refl _) (lfi (s1 := (π0, ω0)) (s2 := (π, ω)) (fun u9 : (St × Int64) × (Nat → Int64) => wB γ h σ ++ (wB γ g τ ++ (wS as9 (h 0) (g 0) an aq (ad 0) (ap 0) ++ (wN an (h 0) ν ++ (wR aq (h 0) ++ (wD γ ad δ ++ (wP γ ap u9.1 ++ (wO γ au u9.2 ++ (r))))))))) hR)
      · exact nn_ hR

def sp_L_layers (p2 : Int32) (p3 : Int32) (π : (St × Int64)) (ω : (Nat → Int64)) : Option (Int32 × (St × Int64) × (Nat → Int64)) := bc2 (sp_X9_layers p2 p3 π) (fun (x1 : Int32) (π2 : (St × Int64)) => sl (vp_updL ω (0 : Int32).toNatClampNeg x1.toInt64) (fun ω3 : (Nat → Int64) => some ((0 : Int32), π2, ω3))) (fun k9 => if k9 = 2 then (some ((1 : Int32), π, ω)) else (none))
set_option maxHeartbeats 4000000 in
set_option maxRecDepth 100000 in
theorem ct_L_layers {l : Launch} (hl : l.stackTraces = false) {γ : Gd} {h : Nat → Nat} {g : Nat → Nat} {as9 : Nat} {an : Nat} {aq : Nat} {ad : Nat → Nat} {ap : Nat → Nat} {au : Nat} {σ : St} {τ : St} {ν : (Nat → Int32)} {δ : St} {π : (St × Int64)} {ω : (Nat → Int64)} {r : va_W} {p2 : Int32} {p3 : Int32} {x0 : Int32} {π0 : (St × Int64)} {ω0 : (Nat → Int64)} (hR : some (x0, π0, ω0) = sp_L_layers p2 p3 π ω) : Ct l γ yL_layers (Cond.codeWith yL_layers cL_layers 5 (some .int) [(0, 10, 13, 15)]) ({ frames := 8, cells := 1, slots := 6, locals := 127 } : Room) [.ref as9, .int p2, .int p3, .ref au] (wB γ h σ ++ (wB γ g τ ++ (wS as9 (h 0) (g 0) an aq (ad 0) (ap 0) ++ (wN an (h 0) ν ++ (wR aq (h 0) ++ (wD γ ad δ ++ (wP γ ap π ++ (wO γ au ω ++ (r))))))))) (Pr (some (.int x0)) (wB γ h σ ++ (wB γ g τ ++ (wS as9 (h 0) (g 0) an aq (ad 0) (ap 0) ++ (wN an (h 0) ν ++ (wR aq (h 0) ++ (wD γ ad δ ++ (wP γ ap π0 ++ (wO γ au ω0 ++ (r)))))))))) 1 6 := by
  refine Ct_ofH hl (by decide +kernel) rfl (Nat.le_of_ble_eq_true rfl) (L := [some (.ref as9), some (.int p2), some (.int p3), some (.ref au), none]) rfl ?_
  intro X Q K hQ
  generalize ((wB γ h σ ++ (wB γ g τ ++ (wS as9 (h 0) (g 0) an aq (ad 0) (ap 0) ++ (wN an (h 0) ν ++ (wR aq (h 0) ++ (wD γ ad δ ++ (wP γ ap π ++ (wO γ au ω ++ (r)))))))), Q) : MX) = M at K hQ ⊢
  unfold sp_L_layers at hR
  refine r_aload_n 0 3 K (dk_of tL_layers 0 rfl) rfl rfl ?_
  refine r_iconst 1 (0 : Int32) K (dk_of tL_layers 1 rfl) (by decide) ?_
  refine r_aload_n 2 0 K (dk_of tL_layers 2 rfl) rfl rfl ?_
  refine r_iload_n 3 1 K (dk_of tL_layers 3 rfl) rfl rfl ?_
  refine r_iload_n 4 2 K (dk_of tL_layers 4 rfl) rfl rfl ?_
  rcases oc2 hR with ⟨x1, π2, hc, hR⟩ | ⟨k9, hc, hR⟩
  · refine r_cVi 5 52 [.int p2, .int p3] [.int (0 : Int32), .ref au] x1 (wB γ h σ ++ (wB γ g τ ++ (wS as9 (h 0) (g 0) an aq (ad 0) (ap 0) ++ (wN an (h 0) ν ++ (wR aq (h 0) ++ (wD γ ad δ ++ (wP γ ap π2 ++ (wO γ au ω ++ (r))))))))) K (ct_X9_layers hl (z := .inl (x1, π2)) hc.symm) cs_L_99 ⟨rfl, rfl, rfl⟩ (dk_of tL_layers 5 rfl) rfl rfl rfl rfl rfl rfl ?_
    refine r_i2l 8 K (dk_of tL_layers 6 rfl) ?_
    refine r_last 9 60 K (dk_of tL_layers 7 rfl) rfl (vpd (by decide)) sO_0_btsnqdpu ?_
    refine r_nmS (fun ω3 : (Nat → Int64) => wB γ h σ ++ (wB γ g τ ++ (wS as9 (h 0) (g 0) an aq (ad 0) (ap 0) ++ (wN an (h 0) ν ++ (wR aq (h 0) ++ (wD γ ad δ ++ (wP γ ap π2 ++ (wO γ au ω3 ++ (r))))))))) hR (fun ω3 hR => ?_)
    refine r_goto 10 17 K (dk_of tL_layers 8 rfl) (by decide) ?_
    refine r_iconst 17 (0 : Int32) K (dk_of tL_layers 12 rfl) (by decide) ?_
    exact r_iret 18 K hQ (dk_of tL_layers 13 rfl) (Nat.zero_le _) (Nat.zero_le _) (lfi (s1 := (π0, ω0)) (s2 := (π2, ω3)) (fun u9 : (St × Int64) × (Nat → Int64) => wB γ h σ ++ (wB γ g τ ++ (wS as9 (h 0) (g 0) an aq (ad 0) (ap 0) ++ (wN an (h 0) ν ++ (wR aq (h 0) ++ (wD γ ad δ ++ (wP γ ap u9.1 ++ (wO γ au u9.2 ++ (r))))))))) hR)
  · refine r_case hR (fun e9 hR => ?_) (fun e9 hR => ?_)
    · subst e9
      refine r_xV (mc := 1) (ms := 6) 5 52 [.int p2, .int p3] [.int (0 : Int32), .ref au] 2 (wB γ h σ ++ (wB γ g τ ++ (wS as9 (h 0) (g 0) an aq (ad 0) (ap 0) ++ (wN an (h 0) ν ++ (wR aq (h 0) ++ (wD γ ad δ ++ (wP γ ap π ++ (wO γ au ω ++ (r))))))))) K (ct_X9_layers hl (z := .inr 2) hc.symm) cs_L_99 ⟨rfl, rfl, rfl⟩ (dk_of tL_layers 5 rfl) rfl rfl rfl rfl rfl ⟨by decide, by decide⟩ ?_
      refine r_catch 5 K [] ⟨0, 10, 13, 15⟩ [] rfl (fun z hz => by cases hz) rfl (by decide) w345 (List.mem_of_getElem? (i := 3) rfl) (fun q9 => ?_)
      refine r_astore 13 4 [some (.ref as9), some (.int p2), some (.int p3), some (.ref au), some (.ref q9)] K (dk_of tL_layers 9 rfl) rfl rfl (by decide) ?_
      refine r_iconst 15 (1 : Int32) K (dk_of tL_layers 10 rfl) (by decide) ?_
      exact r_iret 16 K hQ (dk_of tL_layers 11 rfl) (Nat.le_refl _) (Nat.le_refl _) (lfi (s1 := (π0, ω0)) (s2 := (π, ω)) (fun u9 : (St × Int64) × (Nat → Int64) => wB γ h σ ++ (wB γ g τ ++ (wS as9 (h 0) (g 0) an aq (ad 0) (ap 0) ++ (wN an (h 0) ν ++ (wR aq (h 0) ++ (wD γ ad δ ++ (wP γ ap u9.1 ++ (wO γ au u9.2 ++ (r))))))))) hR)
    · exact nn_ hR

def sp_L_due (p2 : Int32) (p3 : Int32) (π : (St × Int64)) (ω : (Nat → Int64)) : Option (Int32 × (Nat → Int64)) := bc1 (sp_X9_due p2 p3 π) (fun (x1 : Int32) => sl (vp_updL ω (0 : Int32).toNatClampNeg x1.toInt64) (fun ω2 : (Nat → Int64) => some ((0 : Int32), ω2))) (fun k9 => if k9 = 1 then (some ((1 : Int32), ω)) else (if k9 = 2 then (some ((2 : Int32), ω)) else (none)))
set_option maxHeartbeats 4000000 in
set_option maxRecDepth 100000 in
theorem ct_L_due {l : Launch} (hl : l.stackTraces = false) {γ : Gd} {h : Nat → Nat} {g : Nat → Nat} {as9 : Nat} {an : Nat} {aq : Nat} {ad : Nat → Nat} {ap : Nat → Nat} {au : Nat} {σ : St} {τ : St} {ν : (Nat → Int32)} {δ : St} {π : (St × Int64)} {ω : (Nat → Int64)} {r : va_W} {p2 : Int32} {p3 : Int32} {x0 : Int32} {ω0 : (Nat → Int64)} (hR : some (x0, ω0) = sp_L_due p2 p3 π ω) : Ct l γ yL_due (Cond.codeWith yL_due cL_due 5 (some .int) [(0, 10, 13, 13), (0, 10, 17, 15)]) ({ frames := 8, cells := 1, slots := 6, locals := 130 } : Room) [.ref as9, .int p2, .int p3, .ref au] (wB γ h σ ++ (wB γ g τ ++ (wS as9 (h 0) (g 0) an aq (ad 0) (ap 0) ++ (wN an (h 0) ν ++ (wR aq (h 0) ++ (wD γ ad δ ++ (wP γ ap π ++ (wO γ au ω ++ (r))))))))) (Pr (some (.int x0)) (wB γ h σ ++ (wB γ g τ ++ (wS as9 (h 0) (g 0) an aq (ad 0) (ap 0) ++ (wN an (h 0) ν ++ (wR aq (h 0) ++ (wD γ ad δ ++ (wP γ ap π ++ (wO γ au ω0 ++ (r)))))))))) 1 6 := by
  refine Ct_ofH hl (by decide +kernel) rfl (Nat.le_of_ble_eq_true rfl) (L := [some (.ref as9), some (.int p2), some (.int p3), some (.ref au), none]) rfl ?_
  intro X Q K hQ
  generalize ((wB γ h σ ++ (wB γ g τ ++ (wS as9 (h 0) (g 0) an aq (ad 0) (ap 0) ++ (wN an (h 0) ν ++ (wR aq (h 0) ++ (wD γ ad δ ++ (wP γ ap π ++ (wO γ au ω ++ (r)))))))), Q) : MX) = M at K hQ ⊢
  unfold sp_L_due at hR
  refine r_aload_n 0 3 K (dk_of tL_due 0 rfl) rfl rfl ?_
  refine r_iconst 1 (0 : Int32) K (dk_of tL_due 1 rfl) (by decide) ?_
  refine r_aload_n 2 0 K (dk_of tL_due 2 rfl) rfl rfl ?_
  refine r_iload_n 3 1 K (dk_of tL_due 3 rfl) rfl rfl ?_
  refine r_iload_n 4 2 K (dk_of tL_due 4 rfl) rfl rfl ?_
  rcases oc1 hR with ⟨x1, hc, hR⟩ | ⟨k9, hc, hR⟩
  · refine r_cVi 5 52 [.int p2, .int p3] [.int (0 : Int32), .ref au] x1 (wB γ h σ ++ (wB γ g τ ++ (wS as9 (h 0) (g 0) an aq (ad 0) (ap 0) ++ (wN an (h 0) ν ++ (wR aq (h 0) ++ (wD γ ad δ ++ (wP γ ap π ++ (wO γ au ω ++ (r))))))))) K (ct_X9_due hl (z := .inl x1) hc.symm) cs_L_102 ⟨rfl, rfl, rfl⟩ (dk_of tL_due 5 rfl) rfl rfl rfl rfl rfl rfl ?_
    refine r_i2l 8 K (dk_of tL_due 6 rfl) ?_
    refine r_last 9 60 K (dk_of tL_due 7 rfl) rfl (vpd (by decide)) sO_0_btsnqdpu ?_
    refine r_nmS (fun ω2 : (Nat → Int64) => wB γ h σ ++ (wB γ g τ ++ (wS as9 (h 0) (g 0) an aq (ad 0) (ap 0) ++ (wN an (h 0) ν ++ (wR aq (h 0) ++ (wD γ ad δ ++ (wP γ ap π ++ (wO γ au ω2 ++ (r))))))))) hR (fun ω2 hR => ?_)
    refine r_goto 10 21 K (dk_of tL_due 8 rfl) (by decide) ?_
    refine r_iconst 21 (0 : Int32) K (dk_of tL_due 15 rfl) (by decide) ?_
    exact r_iret 22 K hQ (dk_of tL_due 16 rfl) (Nat.zero_le _) (Nat.zero_le _) (lfi (s1 := ω0) (s2 := ω2) (fun u9 : (Nat → Int64) => wB γ h σ ++ (wB γ g τ ++ (wS as9 (h 0) (g 0) an aq (ad 0) (ap 0) ++ (wN an (h 0) ν ++ (wR aq (h 0) ++ (wD γ ad δ ++ (wP γ ap π ++ (wO γ au u9 ++ (r))))))))) hR)
  · refine r_case hR (fun e9 hR => ?_) (fun e9 hR => ?_)
    · subst e9
      refine r_xV (mc := 1) (ms := 6) 5 52 [.int p2, .int p3] [.int (0 : Int32), .ref au] 1 (wB γ h σ ++ (wB γ g τ ++ (wS as9 (h 0) (g 0) an aq (ad 0) (ap 0) ++ (wN an (h 0) ν ++ (wR aq (h 0) ++ (wD γ ad δ ++ (wP γ ap π ++ (wO γ au ω ++ (r))))))))) K (ct_X9_due hl (z := .inr 1) hc.symm) cs_L_102 ⟨rfl, rfl, rfl⟩ (dk_of tL_due 5 rfl) rfl rfl rfl rfl rfl ⟨by decide, by decide⟩ ?_
      refine r_catch 5 K [] ⟨0, 10, 13, 13⟩ [⟨0, 10, 17, 15⟩] rfl (fun z hz => by cases hz) rfl (by decide) w344 (List.mem_of_getElem? (i := 2) rfl) (fun q9 => ?_)
      refine r_astore 13 4 [some (.ref as9), some (.int p2), some (.int p3), some (.ref au), some (.ref q9)] K (dk_of tL_due 9 rfl) rfl rfl (by decide) ?_
      refine r_iconst 15 (1 : Int32) K (dk_of tL_due 10 rfl) (by decide) ?_
      exact r_iret 16 K hQ (dk_of tL_due 11 rfl) (Nat.le_refl _) (Nat.le_refl _) (lfi (s1 := ω0) (s2 := ω) (fun u9 : (Nat → Int64) => wB γ h σ ++ (wB γ g τ ++ (wS as9 (h 0) (g 0) an aq (ad 0) (ap 0) ++ (wN an (h 0) ν ++ (wR aq (h 0) ++ (wD γ ad δ ++ (wP γ ap π ++ (wO γ au u9 ++ (r))))))))) hR)
    · refine r_case hR (fun e9 hR => ?_) (fun e9 hR => ?_)
      · subst e9
        refine r_xV (mc := 1) (ms := 6) 5 52 [.int p2, .int p3] [.int (0 : Int32), .ref au] 2 (wB γ h σ ++ (wB γ g τ ++ (wS as9 (h 0) (g 0) an aq (ad 0) (ap 0) ++ (wN an (h 0) ν ++ (wR aq (h 0) ++ (wD γ ad δ ++ (wP γ ap π ++ (wO γ au ω ++ (r))))))))) K (ct_X9_due hl (z := .inr 2) hc.symm) cs_L_102 ⟨rfl, rfl, rfl⟩ (dk_of tL_due 5 rfl) rfl rfl rfl rfl rfl ⟨by decide, by decide⟩ ?_
        refine r_catch 5 K [⟨0, 10, 13, 13⟩] ⟨0, 10, 17, 15⟩ [] rfl (fun z hz => by rw [List.mem_singleton.mp hz]; exact ⟨by decide, 1, w344, List.mem_of_getElem? (i := 0) rfl⟩) rfl (by decide) w345 (List.mem_of_getElem? (i := 3) rfl) (fun q9 => ?_)
        refine r_astore 17 4 [some (.ref as9), some (.int p2), some (.int p3), some (.ref au), some (.ref q9)] K (dk_of tL_due 12 rfl) rfl rfl (by decide) ?_
        refine r_iconst 19 (2 : Int32) K (dk_of tL_due 13 rfl) (by decide) ?_
        exact r_iret 20 K hQ (dk_of tL_due 14 rfl) (Nat.le_refl _) (Nat.le_refl _) (lfi (s1 := ω0) (s2 := ω) (fun u9 : (Nat → Int64) => wB γ h σ ++ (wB γ g τ ++ (wS as9 (h 0) (g 0) an aq (ad 0) (ap 0) ++ (wN an (h 0) ν ++ (wR aq (h 0) ++ (wD γ ad δ ++ (wP γ ap π ++ (wO γ au u9 ++ (r))))))))) hR)
      · exact nn_ hR

def sp_L_ahead (p2 : Int32) (p3 : Int32) (σ : St) (τ : St) (ω : (Nat → Int64)) : Option (Int32 × St × (Nat → Int64)) := bc2 (sp_X9_ahead p2 p3 σ τ) (fun (x1 : Int32) (τ2 : St) => sl (vp_updL ω (0 : Int32).toNatClampNeg x1.toInt64) (fun ω3 : (Nat → Int64) => some ((0 : Int32), τ2, ω3))) (fun k9 => if k9 = 1 then (some ((1 : Int32), τ, ω)) else (if k9 = 2 then (some ((2 : Int32), τ, ω)) else (none)))
set_option maxHeartbeats 4000000 in
set_option maxRecDepth 100000 in
theorem ct_L_ahead {l : Launch} (hl : l.stackTraces = false) {γ : Gd} {h : Nat → Nat} {g : Nat → Nat} {as9 : Nat} {an : Nat} {aq : Nat} {ad : Nat → Nat} {ap : Nat → Nat} {au : Nat} {σ : St} {τ : St} {ν : (Nat → Int32)} {δ : St} {π : (St × Int64)} {ω : (Nat → Int64)} {r : va_W} {p2 : Int32} {p3 : Int32} {x0 : Int32} {τ0 : St} {ω0 : (Nat → Int64)} (hR : some (x0, τ0, ω0) = sp_L_ahead p2 p3 σ τ ω) : Ct l γ yL_ahead (Cond.codeWith yL_ahead cL_ahead 5 (some .int) [(0, 10, 13, 13), (0, 10, 17, 15)]) ({ frames := 8, cells := 1, slots := 6, locals := 138 } : Room) [.ref as9, .int p2, .int p3, .ref au] (wB γ h σ ++ (wB γ g τ ++ (wS as9 (h 0) (g 0) an aq (ad 0) (ap 0) ++ (wN an (h 0) ν ++ (wR aq (h 0) ++ (wD γ ad δ ++ (wP γ ap π ++ (wO γ au ω ++ (r))))))))) (Pr (some (.int x0)) (wB γ h σ ++ (wB γ g τ0 ++ (wS as9 (h 0) (g 0) an aq (ad 0) (ap 0) ++ (wN an (h 0) ν ++ (wR aq (h 0) ++ (wD γ ad δ ++ (wP γ ap π ++ (wO γ au ω0 ++ (r)))))))))) 1 6 := by
  refine Ct_ofH hl (by decide +kernel) rfl (Nat.le_of_ble_eq_true rfl) (L := [some (.ref as9), some (.int p2), some (.int p3), some (.ref au), none]) rfl ?_
  intro X Q K hQ
  generalize ((wB γ h σ ++ (wB γ g τ ++ (wS as9 (h 0) (g 0) an aq (ad 0) (ap 0) ++ (wN an (h 0) ν ++ (wR aq (h 0) ++ (wD γ ad δ ++ (wP γ ap π ++ (wO γ au ω ++ (r)))))))), Q) : MX) = M at K hQ ⊢
  unfold sp_L_ahead at hR
  refine r_aload_n 0 3 K (dk_of tL_ahead 0 rfl) rfl rfl ?_
  refine r_iconst 1 (0 : Int32) K (dk_of tL_ahead 1 rfl) (by decide) ?_
  refine r_aload_n 2 0 K (dk_of tL_ahead 2 rfl) rfl rfl ?_
  refine r_iload_n 3 1 K (dk_of tL_ahead 3 rfl) rfl rfl ?_
  refine r_iload_n 4 2 K (dk_of tL_ahead 4 rfl) rfl rfl ?_
  rcases oc2 hR with ⟨x1, τ2, hc, hR⟩ | ⟨k9, hc, hR⟩
  · refine r_cVi 5 52 [.int p2, .int p3] [.int (0 : Int32), .ref au] x1 (wB γ h σ ++ (wB γ g τ2 ++ (wS as9 (h 0) (g 0) an aq (ad 0) (ap 0) ++ (wN an (h 0) ν ++ (wR aq (h 0) ++ (wD γ ad δ ++ (wP γ ap π ++ (wO γ au ω ++ (r))))))))) K (ct_X9_ahead hl (z := .inl (x1, τ2)) hc.symm) cs_L_105 ⟨rfl, rfl, rfl⟩ (dk_of tL_ahead 5 rfl) rfl rfl rfl rfl rfl rfl ?_
    refine r_i2l 8 K (dk_of tL_ahead 6 rfl) ?_
    refine r_last 9 60 K (dk_of tL_ahead 7 rfl) rfl (vpd (by decide)) sO_0_btsnqdpu ?_
    refine r_nmS (fun ω3 : (Nat → Int64) => wB γ h σ ++ (wB γ g τ2 ++ (wS as9 (h 0) (g 0) an aq (ad 0) (ap 0) ++ (wN an (h 0) ν ++ (wR aq (h 0) ++ (wD γ ad δ ++ (wP γ ap π ++ (wO γ au ω3 ++ (r))))))))) hR (fun ω3 hR => ?_)
    refine r_goto 10 21 K (dk_of tL_ahead 8 rfl) (by decide) ?_
    refine r_iconst 21 (0 : Int32) K (dk_of tL_ahead 15 rfl) (by decide) ?_
    exact r_iret 22 K hQ (dk_of tL_ahead 16 rfl) (Nat.zero_le _) (Nat.zero_le _) (lfi (s1 := (τ0, ω0)) (s2 := (τ2, ω3)) (fun u9 : St × (Nat → Int64) => wB γ h σ ++ (wB γ g u9.1 ++ (wS as9 (h 0) (g 0) an aq (ad 0) (ap 0) ++ (wN an (h 0) ν ++ (wR aq (h 0) ++ (wD γ ad δ ++ (wP γ ap π ++ (wO γ au u9.2 ++ (r))))))))) hR)
  · refine r_case hR (fun e9 hR => ?_) (fun e9 hR => ?_)
    · subst e9
      refine r_xV (mc := 1) (ms := 6) 5 52 [.int p2, .int p3] [.int (0 : Int32), .ref au] 1 (wB γ h σ ++ (wB γ g τ ++ (wS as9 (h 0) (g 0) an aq (ad 0) (ap 0) ++ (wN an (h 0) ν ++ (wR aq (h 0) ++ (wD γ ad δ ++ (wP γ ap π ++ (wO γ au ω ++ (r))))))))) K (ct_X9_ahead hl (z := .inr 1) hc.symm) cs_L_105 ⟨rfl, rfl, rfl⟩ (dk_of tL_ahead 5 rfl) rfl rfl rfl rfl rfl ⟨by decide, by decide⟩ ?_
      refine r_catch 5 K [] ⟨0, 10, 13, 13⟩ [⟨0, 10, 17, 15⟩] rfl (fun z hz => by cases hz) rfl (by decide) w344 (List.mem_of_getElem? (i := 2) rfl) (fun q9 => ?_)
      refine r_astore 13 4 [some (.ref as9), some (.int p2), some (.int p3), some (.ref au), some (.ref q9)] K (dk_of tL_ahead 9 rfl) rfl rfl (by decide) ?_
      refine r_iconst 15 (1 : Int32) K (dk_of tL_ahead 10 rfl) (by decide) ?_
      exact r_iret 16 K hQ (dk_of tL_ahead 11 rfl) (Nat.le_refl _) (Nat.le_refl _) (lfi (s1 := (τ0, ω0)) (s2 := (τ, ω)) (fun u9 : St × (Nat → Int64) => wB γ h σ ++ (wB γ g u9.1 ++ (wS as9 (h 0) (g 0) an aq (ad 0) (ap 0) ++ (wN an (h 0) ν ++ (wR aq (h 0) ++ (wD γ ad δ ++ (wP γ ap π ++ (wO γ au u9.2 ++ (r))))))))) hR)
    · refine r_case hR (fun e9 hR => ?_) (fun e9 hR => ?_)
      · subst e9
        refine r_xV (mc := 1) (ms := 6) 5 52 [.int p2, .int p3] [.int (0 : Int32), .ref au] 2 (wB γ h σ ++ (wB γ g τ ++ (wS as9 (h 0) (g 0) an aq (ad 0) (ap 0) ++ (wN an (h 0) ν ++ (wR aq (h 0) ++ (wD γ ad δ ++ (wP γ ap π ++ (wO γ au ω ++ (r))))))))) K (ct_X9_ahead hl (z := .inr 2) hc.symm) cs_L_105 ⟨rfl, rfl, rfl⟩ (dk_of tL_ahead 5 rfl) rfl rfl rfl rfl rfl ⟨by decide, by decide⟩ ?_
        refine r_catch 5 K [⟨0, 10, 13, 13⟩] ⟨0, 10, 17, 15⟩ [] rfl (fun z hz => by rw [List.mem_singleton.mp hz]; exact ⟨by decide, 1, w344, List.mem_of_getElem? (i := 0) rfl⟩) rfl (by decide) w345 (List.mem_of_getElem? (i := 3) rfl) (fun q9 => ?_)
        refine r_astore 17 4 [some (.ref as9), some (.int p2), some (.int p3), some (.ref au), some (.ref q9)] K (dk_of tL_ahead 12 rfl) rfl rfl (by decide) ?_
        refine r_iconst 19 (2 : Int32) K (dk_of tL_ahead 13 rfl) (by decide) ?_
        exact r_iret 20 K hQ (dk_of tL_ahead 14 rfl) (Nat.le_refl _) (Nat.le_refl _) (lfi (s1 := (τ0, ω0)) (s2 := (τ, ω)) (fun u9 : St × (Nat → Int64) => wB γ h σ ++ (wB γ g u9.1 ++ (wS as9 (h 0) (g 0) an aq (ad 0) (ap 0) ++ (wN an (h 0) ν ++ (wR aq (h 0) ++ (wD γ ad δ ++ (wP γ ap π ++ (wO γ au u9.2 ++ (r))))))))) hR)
      · exact nn_ hR

def sp_L_nextAnew (p2 : Int32) (σ : St) (ν : (Nat → Int32)) (ω : (Nat → Int64)) : Option (Int32 × (Nat → Int32) × (Nat → Int64)) := bc2 (sp_X9_nextAnew p2 σ ν) (fun (x1 : Int32) (ν2 : (Nat → Int32)) => sl (vp_updL ω (0 : Int32).toNatClampNeg x1.toInt64) (fun ω3 : (Nat → Int64) => some ((0 : Int32), ν2, ω3))) (fun k9 => if k9 = 1 then (some ((1 : Int32), ν, ω)) else (none))
set_option maxHeartbeats 4000000 in
set_option maxRecDepth 100000 in
theorem ct_L_nextAnew {l : Launch} (hl : l.stackTraces = false) {γ : Gd} {h : Nat → Nat} {g : Nat → Nat} {as9 : Nat} {an : Nat} {aq : Nat} {ad : Nat → Nat} {ap : Nat → Nat} {au : Nat} {σ : St} {τ : St} {ν : (Nat → Int32)} {δ : St} {π : (St × Int64)} {ω : (Nat → Int64)} {r : va_W} {p2 : Int32} {x0 : Int32} {ν0 : (Nat → Int32)} {ω0 : (Nat → Int64)} (hR : some (x0, ν0, ω0) = sp_L_nextAnew p2 σ ν ω) : Ct l γ yL_nextAnew (Cond.codeWith yL_nextAnew cL_nextAnew 4 (some .int) [(0, 9, 12, 13)]) ({ frames := 8, cells := 1, slots := 6, locals := 180 } : Room) [.ref as9, .int p2, .ref au] (wB γ h σ ++ (wB γ g τ ++ (wS as9 (h 0) (g 0) an aq (ad 0) (ap 0) ++ (wN an (h 0) ν ++ (wR aq (h 0) ++ (wD γ ad δ ++ (wP γ ap π ++ (wO γ au ω ++ (r))))))))) (Pr (some (.int x0)) (wB γ h σ ++ (wB γ g τ ++ (wS as9 (h 0) (g 0) an aq (ad 0) (ap 0) ++ (wN an (h 0) ν0 ++ (wR aq (h 0) ++ (wD γ ad δ ++ (wP γ ap π ++ (wO γ au ω0 ++ (r)))))))))) 1 6 := by
  refine Ct_ofH hl (by decide +kernel) rfl (Nat.le_of_ble_eq_true rfl) (L := [some (.ref as9), some (.int p2), some (.ref au), none]) rfl ?_
  intro X Q K hQ
  generalize ((wB γ h σ ++ (wB γ g τ ++ (wS as9 (h 0) (g 0) an aq (ad 0) (ap 0) ++ (wN an (h 0) ν ++ (wR aq (h 0) ++ (wD γ ad δ ++ (wP γ ap π ++ (wO γ au ω ++ (r)))))))), Q) : MX) = M at K hQ ⊢
  unfold sp_L_nextAnew at hR
  refine r_aload_n 0 2 K (dk_of tL_nextAnew 0 rfl) rfl rfl ?_
  refine r_iconst 1 (0 : Int32) K (dk_of tL_nextAnew 1 rfl) (by decide) ?_
  refine r_aload_n 2 0 K (dk_of tL_nextAnew 2 rfl) rfl rfl ?_
  refine r_iload_n 3 1 K (dk_of tL_nextAnew 3 rfl) rfl rfl ?_
  rcases oc2 hR with ⟨x1, ν2, hc, hR⟩ | ⟨k9, hc, hR⟩
  · refine r_cVi 4 52 [.int p2] [.int (0 : Int32), .ref au] x1 (wB γ h σ ++ (wB γ g τ ++ (wS as9 (h 0) (g 0) an aq (ad 0) (ap 0) ++ (wN an (h 0) ν2 ++ (wR aq (h 0) ++ (wD γ ad δ ++ (wP γ ap π ++ (wO γ au ω ++ (r))))))))) K (ct_X9_nextAnew hl (z := .inl (x1, ν2)) hc.symm) cs_L_108 ⟨rfl, rfl, rfl⟩ (dk_of tL_nextAnew 4 rfl) rfl rfl rfl rfl rfl rfl ?_
    refine r_i2l 7 K (dk_of tL_nextAnew 5 rfl) ?_
    refine r_last 8 60 K (dk_of tL_nextAnew 6 rfl) rfl (vpd (by decide)) sO_0_btsnqdpu ?_
    refine r_nmS (fun ω3 : (Nat → Int64) => wB γ h σ ++ (wB γ g τ ++ (wS as9 (h 0) (g 0) an aq (ad 0) (ap 0) ++ (wN an (h 0) ν2 ++ (wR aq (h 0) ++ (wD γ ad δ ++ (wP γ ap π ++ (wO γ au ω3 ++ (r))))))))) hR (fun ω3 hR => ?_)
    refine r_goto 9 15 K (dk_of tL_nextAnew 7 rfl) (by decide) ?_
    refine r_iconst 15 (0 : Int32) K (dk_of tL_nextAnew 11 rfl) (by decide) ?_
    exact r_iret 16 K hQ (dk_of tL_nextAnew 12 rfl) (Nat.zero_le _) (Nat.zero_le _) (lfi (s1 := (ν0, ω0)) (s2 := (ν2, ω3)) (fun u9 : (Nat → Int32) × (Nat → Int64) => wB γ h σ ++ (wB γ g τ ++ (wS as9 (h 0) (g 0) an aq (ad 0) (ap 0) ++ (wN an (h 0) u9.1 ++ (wR aq (h 0) ++ (wD γ ad δ ++ (wP γ ap π ++ (wO γ au u9.2 ++ (r))))))))) hR)
  · refine r_case hR (fun e9 hR => ?_) (fun e9 hR => ?_)
    · subst e9
      refine r_xV (mc := 1) (ms := 6) 4 52 [.int p2] [.int (0 : Int32), .ref au] 1 (wB γ h σ ++ (wB γ g τ ++ (wS as9 (h 0) (g 0) an aq (ad 0) (ap 0) ++ (wN an (h 0) ν ++ (wR aq (h 0) ++ (wD γ ad δ ++ (wP γ ap π ++ (wO γ au ω ++ (r))))))))) K (ct_X9_nextAnew hl (z := .inr 1) hc.symm) cs_L_108 ⟨rfl, rfl, rfl⟩ (dk_of tL_nextAnew 4 rfl) rfl rfl rfl rfl rfl ⟨by decide, by decide⟩ ?_
      refine r_catch 4 K [] ⟨0, 9, 12, 13⟩ [] rfl (fun z hz => by cases hz) rfl (by decide) w344 (List.mem_of_getElem? (i := 2) rfl) (fun q9 => ?_)
      refine r_astore_n 12 3 [some (.ref as9), some (.int p2), some (.ref au), some (.ref q9)] K (dk_of tL_nextAnew 8 rfl) rfl rfl rfl (by decide) ?_
      refine r_iconst 13 (1 : Int32) K (dk_of tL_nextAnew 9 rfl) (by decide) ?_
      exact r_iret 14 K hQ (dk_of tL_nextAnew 10 rfl) (Nat.le_refl _) (Nat.le_refl _) (lfi (s1 := (ν0, ω0)) (s2 := (ν, ω)) (fun u9 : (Nat → Int32) × (Nat → Int64) => wB γ h σ ++ (wB γ g τ ++ (wS as9 (h 0) (g 0) an aq (ad 0) (ap 0) ++ (wN an (h 0) u9.1 ++ (wR aq (h 0) ++ (wD γ ad δ ++ (wP γ ap π ++ (wO γ au u9.2 ++ (r))))))))) hR)
    · exact nn_ hR

def sp_L_sum (p2 : Int32) (σ : St) (δ : St) (ω : (Nat → Int64)) : Option (Int32 × (Nat → Int64)) := bc1 (sp_X9_sum p2 σ δ) (fun (x1 : Int32) => sl (vp_updL ω (0 : Int32).toNatClampNeg x1.toInt64) (fun ω2 : (Nat → Int64) => some ((0 : Int32), ω2))) (fun k9 => if k9 = 2 then (some ((1 : Int32), ω)) else (none))
set_option maxHeartbeats 4000000 in
set_option maxRecDepth 100000 in
theorem ct_L_sum {l : Launch} (hl : l.stackTraces = false) {γ : Gd} {h : Nat → Nat} {g : Nat → Nat} {as9 : Nat} {an : Nat} {aq : Nat} {ad : Nat → Nat} {ap : Nat → Nat} {au : Nat} {σ : St} {τ : St} {ν : (Nat → Int32)} {δ : St} {π : (St × Int64)} {ω : (Nat → Int64)} {r : va_W} {p2 : Int32} {x0 : Int32} {ω0 : (Nat → Int64)} (hR : some (x0, ω0) = sp_L_sum p2 σ δ ω) : Ct l γ yL_sum (Cond.codeWith yL_sum cL_sum 4 (some .int) [(0, 9, 12, 15)]) ({ frames := 8, cells := 1, slots := 6, locals := 126 } : Room) [.ref as9, .int p2, .ref au] (wB γ h σ ++ (wB γ g τ ++ (wS as9 (h 0) (g 0) an aq (ad 0) (ap 0) ++ (wN an (h 0) ν ++ (wR aq (h 0) ++ (wD γ ad δ ++ (wP γ ap π ++ (wO γ au ω ++ (r))))))))) (Pr (some (.int x0)) (wB γ h σ ++ (wB γ g τ ++ (wS as9 (h 0) (g 0) an aq (ad 0) (ap 0) ++ (wN an (h 0) ν ++ (wR aq (h 0) ++ (wD γ ad δ ++ (wP γ ap π ++ (wO γ au ω0 ++ (r)))))))))) 1 6 := by
  refine Ct_ofH hl (by decide +kernel) rfl (Nat.le_of_ble_eq_true rfl) (L := [some (.ref as9), some (.int p2), some (.ref au), none]) rfl ?_
  intro X Q K hQ
  generalize ((wB γ h σ ++ (wB γ g τ ++ (wS as9 (h 0) (g 0) an aq (ad 0) (ap 0) ++ (wN an (h 0) ν ++ (wR aq (h 0) ++ (wD γ ad δ ++ (wP γ ap π ++ (wO γ au ω ++ (r)))))))), Q) : MX) = M at K hQ ⊢
  unfold sp_L_sum at hR
  refine r_aload_n 0 2 K (dk_of tL_sum 0 rfl) rfl rfl ?_
  refine r_iconst 1 (0 : Int32) K (dk_of tL_sum 1 rfl) (by decide) ?_
  refine r_aload_n 2 0 K (dk_of tL_sum 2 rfl) rfl rfl ?_
  refine r_iload_n 3 1 K (dk_of tL_sum 3 rfl) rfl rfl ?_
  rcases oc1 hR with ⟨x1, hc, hR⟩ | ⟨k9, hc, hR⟩
  · refine r_cVi 4 52 [.int p2] [.int (0 : Int32), .ref au] x1 (wB γ h σ ++ (wB γ g τ ++ (wS as9 (h 0) (g 0) an aq (ad 0) (ap 0) ++ (wN an (h 0) ν ++ (wR aq (h 0) ++ (wD γ ad δ ++ (wP γ ap π ++ (wO γ au ω ++ (r))))))))) K (ct_X9_sum hl (z := .inl x1) hc.symm) cs_L_111 ⟨rfl, rfl, rfl⟩ (dk_of tL_sum 4 rfl) rfl rfl rfl rfl rfl rfl ?_
    refine r_i2l 7 K (dk_of tL_sum 5 rfl) ?_
    refine r_last 8 60 K (dk_of tL_sum 6 rfl) rfl (vpd (by decide)) sO_0_btsnqdpu ?_
    refine r_nmS (fun ω2 : (Nat → Int64) => wB γ h σ ++ (wB γ g τ ++ (wS as9 (h 0) (g 0) an aq (ad 0) (ap 0) ++ (wN an (h 0) ν ++ (wR aq (h 0) ++ (wD γ ad δ ++ (wP γ ap π ++ (wO γ au ω2 ++ (r))))))))) hR (fun ω2 hR => ?_)
    refine r_goto 9 15 K (dk_of tL_sum 7 rfl) (by decide) ?_
    refine r_iconst 15 (0 : Int32) K (dk_of tL_sum 11 rfl) (by decide) ?_
    exact r_iret 16 K hQ (dk_of tL_sum 12 rfl) (Nat.zero_le _) (Nat.zero_le _) (lfi (s1 := ω0) (s2 := ω2) (fun u9 : (Nat → Int64) => wB γ h σ ++ (wB γ g τ ++ (wS as9 (h 0) (g 0) an aq (ad 0) (ap 0) ++ (wN an (h 0) ν ++ (wR aq (h 0) ++ (wD γ ad δ ++ (wP γ ap π ++ (wO γ au u9 ++ (r))))))))) hR)
  · refine r_case hR (fun e9 hR => ?_) (fun e9 hR => ?_)
    · subst e9
      refine r_xV (mc := 1) (ms := 6) 4 52 [.int p2] [.int (0 : Int32), .ref au] 2 (wB γ h σ ++ (wB γ g τ ++ (wS as9 (h 0) (g 0) an aq (ad 0) (ap 0) ++ (wN an (h 0) ν ++ (wR aq (h 0) ++ (wD γ ad δ ++ (wP γ ap π ++ (wO γ au ω ++ (r))))))))) K (ct_X9_sum hl (z := .inr 2) hc.symm) cs_L_111 ⟨rfl, rfl, rfl⟩ (dk_of tL_sum 4 rfl) rfl rfl rfl rfl rfl ⟨by decide, by decide⟩ ?_
      refine r_catch 4 K [] ⟨0, 9, 12, 15⟩ [] rfl (fun z hz => by cases hz) rfl (by decide) w345 (List.mem_of_getElem? (i := 3) rfl) (fun q9 => ?_)
      refine r_astore_n 12 3 [some (.ref as9), some (.int p2), some (.ref au), some (.ref q9)] K (dk_of tL_sum 8 rfl) rfl rfl rfl (by decide) ?_
      refine r_iconst 13 (1 : Int32) K (dk_of tL_sum 9 rfl) (by decide) ?_
      exact r_iret 14 K hQ (dk_of tL_sum 10 rfl) (Nat.le_refl _) (Nat.le_refl _) (lfi (s1 := ω0) (s2 := ω) (fun u9 : (Nat → Int64) => wB γ h σ ++ (wB γ g τ ++ (wS as9 (h 0) (g 0) an aq (ad 0) (ap 0) ++ (wN an (h 0) ν ++ (wR aq (h 0) ++ (wD γ ad δ ++ (wP γ ap π ++ (wO γ au u9 ++ (r))))))))) hR)
    · exact nn_ hR
