def sp_L_low (p1 : Int32) (p2 : Int32)  : Option (Int32) := if p2 = 0 then none else (some ((p1 &&& (2147483647 : Int32)) - (p1 &&& (2147483647 : Int32)) / p2 * p2))
set_option maxHeartbeats 4000000 in
set_option maxRecDepth 100000 in
theorem ct_L_low {l : Launch} (hl : l.stackTraces = false) {γ : Gd}   {w : va_W} {p1 : Int32} {p2 : Int32} {x0 : Int32} (hR : some x0 = sp_L_low p1 p2) : Ct l γ yL_low (Cond.code yL_low cL_low 2 (some .int)) ({ frames := 0, cells := 0, slots := 0, locals := 0 } : Room) [.int p1, .int p2] (w) (Pr (some (.int x0)) (w)) 0 0 := by
  refine Ct_of hl (by decide +kernel) rfl (Nat.le_of_ble_eq_true rfl) (L := [some (.int p1), some (.int p2)]) rfl ?_
  intro X Q K hQ
  generalize ((w, Q) : MX) = M at K hQ ⊢
  unfold sp_L_low at hR
  refine r_iload_n 0 0 K (dk_of tL_low 0 rfl) rfl rfl ?_
  refine r_ldc 1 2147483647 K (dk_of tL_low 1 rfl) w774 ?_
  refine r_iand 3 K (dk_of tL_low 2 rfl) ?_
  refine r_iload_n 4 1 K (dk_of tL_low 3 rfl) rfl rfl ?_
  refine r_iremR 5 K (dk_of tL_low 4 rfl) hR (fun hR => ?_)
  exact r_iret 6 K hQ (dk_of tL_low 5 rfl) (Nat.zero_le _) (Nat.zero_le _) (lfi0 hR)

def sp_L_tryLay (p2 : Int32) (p3 : Int32) (p4 : Int32) (p5 : Int32) (σ : St) : Option (Int32 × St) := if p2 = 0 then (bc2 (sp_X9_boom p3 (p4 - p4 / (4 : Int32) * (4 : Int32)) ((1 : Int32) + (p5 - p5 / (9 : Int32) * (9 : Int32))) σ) (fun (x1 : Int32) (σ2 : St) => some (x1, σ2)) (fun k9 => if k9 = 1 then (some ((-300 : Int32), σ)) else (if k9 = 2 then (some ((-100 : Int32), σ)) else (if k9 = 3 then (some ((-200 : Int32), σ)) else (none))))) else (if p2 = (1 : Int32) then (bc2 (sp_X9_skimmer p3 ((1 : Int32) + (p4 - p4 / (300 : Int32) * (300 : Int32))) ((1 : Int32) + (p5 - p5 / (900 : Int32) * (900 : Int32))) σ) (fun (x3 : Int32) (σ4 : St) => some (x3, σ4)) (fun k9 => if k9 = 1 then (some ((-300 : Int32), σ)) else (if k9 = 2 then (some ((-100 : Int32), σ)) else (if k9 = 3 then (some ((-200 : Int32), σ)) else (none))))) else (bc2 (sp_X9_ship p3 (p4 - p4 / (9000 : Int32) * (9000 : Int32)) σ) (fun (x5 : Int32) (σ6 : St) => some (x5, σ6)) (fun k9 => if k9 = 1 then (some ((-300 : Int32), σ)) else (if k9 = 2 then (some ((-100 : Int32), σ)) else (if k9 = 3 then (some ((-200 : Int32), σ)) else (none))))))
set_option maxHeartbeats 4000000 in
set_option maxRecDepth 100000 in
theorem ct_L_tryLay {l : Launch} (hl : l.stackTraces = false) {γ : Gd} {h : Nat → Nat} {g : Nat → Nat} {as9 : Nat} {an : Nat} {aq : Nat} {ad : Nat → Nat} {ap : Nat → Nat} {σ : St} {τ : St} {ν : (Nat → Int32)} {δ : St} {π : (St × Int64)} {r : va_W} {p2 : Int32} {p3 : Int32} {p4 : Int32} {p5 : Int32} {x0 : Int32} {σ0 : St} (hR : some (x0, σ0) = sp_L_tryLay p2 p3 p4 p5 σ) : Ct l γ yL_tryLay (Cond.codeWith yL_tryLay cL_tryLay 6 (some .int) [(0, 60, 61, 22), (0, 60, 67, 24), (0, 60, 72, 26)]) ({ frames := 8, cells := 1, slots := 6, locals := 128 } : Room) [.ref as9, .int p2, .int p3, .int p4, .int p5] (wB γ h σ ++ (wB γ g τ ++ (wS as9 (h 0) (g 0) an aq (ad 0) (ap 0) ++ (wN an (h 0) ν ++ (wR aq (h 0) ++ (wD γ ad δ ++ (wP γ ap π ++ (r)))))))) (Pr (some (.int x0)) (wB γ h σ0 ++ (wB γ g τ ++ (wS as9 (h 0) (g 0) an aq (ad 0) (ap 0) ++ (wN an (h 0) ν ++ (wR aq (h 0) ++ (wD γ ad δ ++ (wP γ ap π ++ (r))))))))) 1 6 := by
  refine Ct_ofH hl (by decide +kernel) rfl (Nat.le_of_ble_eq_true rfl) (L := [some (.ref as9), some (.int p2), some (.int p3), some (.int p4), some (.int p5), none]) rfl ?_
  intro X Q K hQ
  generalize ((wB γ h σ ++ (wB γ g τ ++ (wS as9 (h 0) (g 0) an aq (ad 0) (ap 0) ++ (wN an (h 0) ν ++ (wR aq (h 0) ++ (wD γ ad δ ++ (wP γ ap π ++ (r))))))), Q) : MX) = M at K hQ ⊢
  unfold sp_L_tryLay at hR
  refine r_iload_n 0 1 K (dk_of tL_tryLay 0 rfl) rfl rfl ?_
  refine r_if_ne 1 22 K (dk_of tL_tryLay 1 rfl) (by decide) hR (fun hR => ?_) (fun hR => ?_)
  · refine r_aload_n 4 0 K (dk_of tL_tryLay 2 rfl) rfl rfl ?_
    refine r_iload_n 5 2 K (dk_of tL_tryLay 3 rfl) rfl rfl ?_
    refine r_iload_n 6 3 K (dk_of tL_tryLay 4 rfl) rfl rfl ?_
    refine r_iconst 7 (4 : Int32) K (dk_of tL_tryLay 5 rfl) (by decide) ?_
    refine r_irem 8 K (dk_of tL_tryLay 6 rfl) (by decide) ?_
    refine r_iconst 9 (1 : Int32) K (dk_of tL_tryLay 7 rfl) (by decide) ?_
    refine r_iload 10 4 K (dk_of tL_tryLay 8 rfl) rfl ?_
    refine r_bipush 12 (9 : Int32) K (dk_of tL_tryLay 9 rfl) (by decide) ?_
    refine r_irem 14 K (dk_of tL_tryLay 10 rfl) (by decide) ?_
    refine r_iadd 15 K (dk_of tL_tryLay 11 rfl) ?_
    rcases oc2 hR with ⟨x1, σ2, hc, hR⟩ | ⟨k9, hc, hR⟩
    · refine r_cVi 16 52 [.int p3, .int (p4 - p4 / (4 : Int32) * (4 : Int32)), .int ((1 : Int32) + (p5 - p5 / (9 : Int32) * (9 : Int32)))] [] x1 (wB γ h σ2 ++ (wB γ g τ ++ (wS as9 (h 0) (g 0) an aq (ad 0) (ap 0) ++ (wN an (h 0) ν ++ (wR aq (h 0) ++ (wD γ ad δ ++ (wP γ ap π ++ (r)))))))) K (ct_X9_boom hl (z := .inl (x1, σ2)) hc.symm) cs_L_9 ⟨rfl, rfl, rfl⟩ (dk_of tL_tryLay 12 rfl) rfl rfl rfl rfl rfl rfl ?_
      refine r_goto 19 60 K (dk_of tL_tryLay 13 rfl) (by decide) ?_
      exact r_iret 60 K hQ (dk_of tL_tryLay 37 rfl) (Nat.zero_le _) (Nat.zero_le _) (lfi (s1 := σ0) (s2 := σ2) (fun u9 : St => wB γ h u9 ++ (wB γ g τ ++ (wS as9 (h 0) (g 0) an aq (ad 0) (ap 0) ++ (wN an (h 0) ν ++ (wR aq (h 0) ++ (wD γ ad δ ++ (wP γ ap π ++ (r)))))))) hR)
    · refine r_case hR (fun e9 hR => ?_) (fun e9 hR => ?_)
      · subst e9
        refine r_xV (mc := 1) (ms := 6) 16 52 [.int p3, .int (p4 - p4 / (4 : Int32) * (4 : Int32)), .int ((1 : Int32) + (p5 - p5 / (9 : Int32) * (9 : Int32)))] [] 1 (wB γ h σ ++ (wB γ g τ ++ (wS as9 (h 0) (g 0) an aq (ad 0) (ap 0) ++ (wN an (h 0) ν ++ (wR aq (h 0) ++ (wD γ ad δ ++ (wP γ ap π ++ (r)))))))) K (ct_X9_boom hl (z := .inr 1) hc.symm) cs_L_9 ⟨rfl, rfl, rfl⟩ (dk_of tL_tryLay 12 rfl) rfl rfl rfl rfl rfl ⟨by decide, by decide⟩ ?_
        refine r_catch 16 K [] ⟨0, 60, 61, 22⟩ [⟨0, 60, 67, 24⟩, ⟨0, 60, 72, 26⟩] rfl (fun z hz => by cases hz) rfl (by decide) w778 (List.mem_of_getElem? (i := 2) rfl) (fun q9 => ?_)
        refine r_astore 61 5 [some (.ref as9), some (.int p2), some (.int p3), some (.int p4), some (.int p5), some (.ref q9)] K (dk_of tL_tryLay 38 rfl) rfl rfl (by decide) ?_
        refine r_sipush 63 (-300) K (dk_of tL_tryLay 39 rfl) (by decide) ?_
        exact r_iret 66 K hQ (dk_of tL_tryLay 40 rfl) (Nat.le_refl _) (Nat.le_refl _) (lfi (s1 := σ0) (s2 := σ) (fun u9 : St => wB γ h u9 ++ (wB γ g τ ++ (wS as9 (h 0) (g 0) an aq (ad 0) (ap 0) ++ (wN an (h 0) ν ++ (wR aq (h 0) ++ (wD γ ad δ ++ (wP γ ap π ++ (r)))))))) hR)
      · refine r_case hR (fun e9 hR => ?_) (fun e9 hR => ?_)
        · subst e9
          refine r_xV (mc := 1) (ms := 6) 16 52 [.int p3, .int (p4 - p4 / (4 : Int32) * (4 : Int32)), .int ((1 : Int32) + (p5 - p5 / (9 : Int32) * (9 : Int32)))] [] 2 (wB γ h σ ++ (wB γ g τ ++ (wS as9 (h 0) (g 0) an aq (ad 0) (ap 0) ++ (wN an (h 0) ν ++ (wR aq (h 0) ++ (wD γ ad δ ++ (wP γ ap π ++ (r)))))))) K (ct_X9_boom hl (z := .inr 2) hc.symm) cs_L_9 ⟨rfl, rfl, rfl⟩ (dk_of tL_tryLay 12 rfl) rfl rfl rfl rfl rfl ⟨by decide, by decide⟩ ?_
          refine r_catch 16 K [⟨0, 60, 61, 22⟩] ⟨0, 60, 67, 24⟩ [⟨0, 60, 72, 26⟩] rfl (fun z hz => by rw [List.mem_singleton.mp hz]; exact ⟨by decide, 1, w778, List.mem_of_getElem? (i := 0) rfl⟩) rfl (by decide) w779 (List.mem_of_getElem? (i := 3) rfl) (fun q9 => ?_)
          refine r_astore 67 5 [some (.ref as9), some (.int p2), some (.int p3), some (.int p4), some (.int p5), some (.ref q9)] K (dk_of tL_tryLay 41 rfl) rfl rfl (by decide) ?_
          refine r_bipush 69 (-100) K (dk_of tL_tryLay 42 rfl) (by decide) ?_
          exact r_iret 71 K hQ (dk_of tL_tryLay 43 rfl) (Nat.le_refl _) (Nat.le_refl _) (lfi (s1 := σ0) (s2 := σ) (fun u9 : St => wB γ h u9 ++ (wB γ g τ ++ (wS as9 (h 0) (g 0) an aq (ad 0) (ap 0) ++ (wN an (h 0) ν ++ (wR aq (h 0) ++ (wD γ ad δ ++ (wP γ ap π ++ (r)))))))) hR)
        · refine r_case hR (fun e9 hR => ?_) (fun e9 hR => ?_)
          · subst e9
            refine r_xV (mc := 1) (ms := 6) 16 52 [.int p3, .int (p4 - p4 / (4 : Int32) * (4 : Int32)), .int ((1 : Int32) + (p5 - p5 / (9 : Int32) * (9 : Int32)))] [] 3 (wB γ h σ ++ (wB γ g τ ++ (wS as9 (h 0) (g 0) an aq (ad 0) (ap 0) ++ (wN an (h 0) ν ++ (wR aq (h 0) ++ (wD γ ad δ ++ (wP γ ap π ++ (r)))))))) K (ct_X9_boom hl (z := .inr 3) hc.symm) cs_L_9 ⟨rfl, rfl, rfl⟩ (dk_of tL_tryLay 12 rfl) rfl rfl rfl rfl rfl ⟨by decide, by decide⟩ ?_
            refine r_catch 16 K [⟨0, 60, 61, 22⟩, ⟨0, 60, 67, 24⟩] ⟨0, 60, 72, 26⟩ [] rfl (fun z hz => by rcases List.mem_cons.mp hz with hz | hz; (rw [hz]; exact ⟨by decide, 1, w778, List.mem_of_getElem? (i := 1) rfl⟩); (rw [List.mem_singleton.mp hz]; exact ⟨by decide, 2, w779, List.mem_of_getElem? (i := 2) rfl⟩)) rfl (by decide) w780 (List.mem_of_getElem? (i := 4) rfl) (fun q9 => ?_)
            refine r_astore 72 5 [some (.ref as9), some (.int p2), some (.int p3), some (.int p4), some (.int p5), some (.ref q9)] K (dk_of tL_tryLay 44 rfl) rfl rfl (by decide) ?_
            refine r_sipush 74 (-200) K (dk_of tL_tryLay 45 rfl) (by decide) ?_
            exact r_iret 77 K hQ (dk_of tL_tryLay 46 rfl) (Nat.le_refl _) (Nat.le_refl _) (lfi (s1 := σ0) (s2 := σ) (fun u9 : St => wB γ h u9 ++ (wB γ g τ ++ (wS as9 (h 0) (g 0) an aq (ad 0) (ap 0) ++ (wN an (h 0) ν ++ (wR aq (h 0) ++ (wD γ ad δ ++ (wP γ ap π ++ (r)))))))) hR)
          · exact nn_ hR
  · refine r_iload_n 22 1 K (dk_of tL_tryLay 14 rfl) rfl rfl ?_
    refine r_iconst 23 (1 : Int32) K (dk_of tL_tryLay 15 rfl) (by decide) ?_
    refine r_ic_ne 24 50 K (dk_of tL_tryLay 16 rfl) (by decide) hR (fun hR => ?_) (fun hR => ?_)
    · refine r_aload_n 27 0 K (dk_of tL_tryLay 17 rfl) rfl rfl ?_
      refine r_iload_n 28 2 K (dk_of tL_tryLay 18 rfl) rfl rfl ?_
      refine r_iconst 29 (1 : Int32) K (dk_of tL_tryLay 19 rfl) (by decide) ?_
      refine r_iload_n 30 3 K (dk_of tL_tryLay 20 rfl) rfl rfl ?_
      refine r_sipush 31 (300 : Int32) K (dk_of tL_tryLay 21 rfl) (by decide) ?_
      refine r_irem 34 K (dk_of tL_tryLay 22 rfl) (by decide) ?_
      refine r_iadd 35 K (dk_of tL_tryLay 23 rfl) ?_
      refine r_iconst 36 (1 : Int32) K (dk_of tL_tryLay 24 rfl) (by decide) ?_
      refine r_iload 37 4 K (dk_of tL_tryLay 25 rfl) rfl ?_
      refine r_sipush 39 (900 : Int32) K (dk_of tL_tryLay 26 rfl) (by decide) ?_
      refine r_irem 42 K (dk_of tL_tryLay 27 rfl) (by decide) ?_
      refine r_iadd 43 K (dk_of tL_tryLay 28 rfl) ?_
      rcases oc2 hR with ⟨x3, σ4, hc, hR⟩ | ⟨k9, hc, hR⟩
      · refine r_cVi 44 52 [.int p3, .int ((1 : Int32) + (p4 - p4 / (300 : Int32) * (300 : Int32))), .int ((1 : Int32) + (p5 - p5 / (900 : Int32) * (900 : Int32)))] [] x3 (wB γ h σ4 ++ (wB γ g τ ++ (wS as9 (h 0) (g 0) an aq (ad 0) (ap 0) ++ (wN an (h 0) ν ++ (wR aq (h 0) ++ (wD γ ad δ ++ (wP γ ap π ++ (r)))))))) K (ct_X9_skimmer hl (z := .inl (x3, σ4)) hc.symm) cs_L_15 ⟨rfl, rfl, rfl⟩ (dk_of tL_tryLay 29 rfl) rfl rfl rfl rfl rfl rfl ?_
        refine r_goto 47 60 K (dk_of tL_tryLay 30 rfl) (by decide) ?_
        exact r_iret 60 K hQ (dk_of tL_tryLay 37 rfl) (Nat.zero_le _) (Nat.zero_le _) (lfi (s1 := σ0) (s2 := σ4) (fun u9 : St => wB γ h u9 ++ (wB γ g τ ++ (wS as9 (h 0) (g 0) an aq (ad 0) (ap 0) ++ (wN an (h 0) ν ++ (wR aq (h 0) ++ (wD γ ad δ ++ (wP γ ap π ++ (r)))))))) hR)
      · refine r_case hR (fun e9 hR => ?_) (fun e9 hR => ?_)
        · subst e9
          refine r_xV (mc := 1) (ms := 6) 44 52 [.int p3, .int ((1 : Int32) + (p4 - p4 / (300 : Int32) * (300 : Int32))), .int ((1 : Int32) + (p5 - p5 / (900 : Int32) * (900 : Int32)))] [] 1 (wB γ h σ ++ (wB γ g τ ++ (wS as9 (h 0) (g 0) an aq (ad 0) (ap 0) ++ (wN an (h 0) ν ++ (wR aq (h 0) ++ (wD γ ad δ ++ (wP γ ap π ++ (r)))))))) K (ct_X9_skimmer hl (z := .inr 1) hc.symm) cs_L_15 ⟨rfl, rfl, rfl⟩ (dk_of tL_tryLay 29 rfl) rfl rfl rfl rfl rfl ⟨by decide, by decide⟩ ?_
          refine r_catch 44 K [] ⟨0, 60, 61, 22⟩ [⟨0, 60, 67, 24⟩, ⟨0, 60, 72, 26⟩] rfl (fun z hz => by cases hz) rfl (by decide) w778 (List.mem_of_getElem? (i := 2) rfl) (fun q9 => ?_)
          refine r_astore 61 5 [some (.ref as9), some (.int p2), some (.int p3), some (.int p4), some (.int p5), some (.ref q9)] K (dk_of tL_tryLay 38 rfl) rfl rfl (by decide) ?_
          refine r_sipush 63 (-300) K (dk_of tL_tryLay 39 rfl) (by decide) ?_
          exact r_iret 66 K hQ (dk_of tL_tryLay 40 rfl) (Nat.le_refl _) (Nat.le_refl _) (lfi (s1 := σ0) (s2 := σ) (fun u9 : St => wB γ h u9 ++ (wB γ g τ ++ (wS as9 (h 0) (g 0) an aq (ad 0) (ap 0) ++ (wN an (h 0) ν ++ (wR aq (h 0) ++ (wD γ ad δ ++ (wP γ ap π ++ (r)))))))) hR)
        · refine r_case hR (fun e9 hR => ?_) (fun e9 hR => ?_)
          · subst e9
            refine r_xV (mc := 1) (ms := 6) 44 52 [.int p3, .int ((1 : Int32) + (p4 - p4 / (300 : Int32) * (300 : Int32))), .int ((1 : Int32) + (p5 - p5 / (900 : Int32) * (900 : Int32)))] [] 2 (wB γ h σ ++ (wB γ g τ ++ (wS as9 (h 0) (g 0) an aq (ad 0) (ap 0) ++ (wN an (h 0) ν ++ (wR aq (h 0) ++ (wD γ ad δ ++ (wP γ ap π ++ (r)))))))) K (ct_X9_skimmer hl (z := .inr 2) hc.symm) cs_L_15 ⟨rfl, rfl, rfl⟩ (dk_of tL_tryLay 29 rfl) rfl rfl rfl rfl rfl ⟨by decide, by decide⟩ ?_
            refine r_catch 44 K [⟨0, 60, 61, 22⟩] ⟨0, 60, 67, 24⟩ [⟨0, 60, 72, 26⟩] rfl (fun z hz => by rw [List.mem_singleton.mp hz]; exact ⟨by decide, 1, w778, List.mem_of_getElem? (i := 0) rfl⟩) rfl (by decide) w779 (List.mem_of_getElem? (i := 3) rfl) (fun q9 => ?_)
            refine r_astore 67 5 [some (.ref as9), some (.int p2), some (.int p3), some (.int p4), some (.int p5), some (.ref q9)] K (dk_of tL_tryLay 41 rfl) rfl rfl (by decide) ?_
            refine r_bipush 69 (-100) K (dk_of tL_tryLay 42 rfl) (by decide) ?_
            exact r_iret 71 K hQ (dk_of tL_tryLay 43 rfl) (Nat.le_refl _) (Nat.le_refl _) (lfi (s1 := σ0) (s2 := σ) (fun u9 : St => wB γ h u9 ++ (wB γ g τ ++ (wS as9 (h 0) (g 0) an aq (ad 0) (ap 0) ++ (wN an (h 0) ν ++ (wR aq (h 0) ++ (wD γ ad δ ++ (wP γ ap π ++ (r)))))))) hR)
          · refine r_case hR (fun e9 hR => ?_) (fun e9 hR => ?_)
            · subst e9
              refine r_xV (mc := 1) (ms := 6) 44 52 [.int p3, .int ((1 : Int32) + (p4 - p4 / (300 : Int32) * (300 : Int32))), .int ((1 : Int32) + (p5 - p5 / (900 : Int32) * (900 : Int32)))] [] 3 (wB γ h σ ++ (wB γ g τ ++ (wS as9 (h 0) (g 0) an aq (ad 0) (ap 0) ++ (wN an (h 0) ν ++ (wR aq (h 0) ++ (wD γ ad δ ++ (wP γ ap π ++ (r)))))))) K (ct_X9_skimmer hl (z := .inr 3) hc.symm) cs_L_15 ⟨rfl, rfl, rfl⟩ (dk_of tL_tryLay 29 rfl) rfl rfl rfl rfl rfl ⟨by decide, by decide⟩ ?_
              refine r_catch 44 K [⟨0, 60, 61, 22⟩, ⟨0, 60, 67, 24⟩] ⟨0, 60, 72, 26⟩ [] rfl (fun z hz => by rcases List.mem_cons.mp hz with hz | hz; (rw [hz]; exact ⟨by decide, 1, w778, List.mem_of_getElem? (i := 1) rfl⟩); (rw [List.mem_singleton.mp hz]; exact ⟨by decide, 2, w779, List.mem_of_getElem? (i := 2) rfl⟩)) rfl (by decide) w780 (List.mem_of_getElem? (i := 4) rfl) (fun q9 => ?_)
              refine r_astore 72 5 [some (.ref as9), some (.int p2), some (.int p3), some (.int p4), some (.int p5), some (.ref q9)] K (dk_of tL_tryLay 44 rfl) rfl rfl (by decide) ?_
              refine r_sipush 74 (-200) K (dk_of tL_tryLay 45 rfl) (by decide) ?_
              exact r_iret 77 K hQ (dk_of tL_tryLay 46 rfl) (Nat.le_refl _) (Nat.le_refl _) (lfi (s1 := σ0) (s2 := σ) (fun u9 : St => wB γ h u9 ++ (wB γ g τ ++ (wS as9 (h 0) (g 0) an aq (ad 0) (ap 0) ++ (wN an (h 0) ν ++ (wR aq (h 0) ++ (wD γ ad δ ++ (wP γ ap π ++ (r)))))))) hR)
            · exact nn_ hR
    · refine r_aload_n 50 0 K (dk_of tL_tryLay 31 rfl) rfl rfl ?_
      refine r_iload_n 51 2 K (dk_of tL_tryLay 32 rfl) rfl rfl ?_
      refine r_iload_n 52 3 K (dk_of tL_tryLay 33 rfl) rfl rfl ?_
      refine r_sipush 53 (9000 : Int32) K (dk_of tL_tryLay 34 rfl) (by decide) ?_
      refine r_irem 56 K (dk_of tL_tryLay 35 rfl) (by decide) ?_
      rcases oc2 hR with ⟨x5, σ6, hc, hR⟩ | ⟨k9, hc, hR⟩
      · refine r_cVi 57 52 [.int p3, .int (p4 - p4 / (9000 : Int32) * (9000 : Int32))] [] x5 (wB γ h σ6 ++ (wB γ g τ ++ (wS as9 (h 0) (g 0) an aq (ad 0) (ap 0) ++ (wN an (h 0) ν ++ (wR aq (h 0) ++ (wD γ ad δ ++ (wP γ ap π ++ (r)))))))) K (ct_X9_ship hl (z := .inl (x5, σ6)) hc.symm) cs_L_18 ⟨rfl, rfl, rfl⟩ (dk_of tL_tryLay 36 rfl) rfl rfl rfl rfl rfl rfl ?_
        exact r_iret 60 K hQ (dk_of tL_tryLay 37 rfl) (Nat.zero_le _) (Nat.zero_le _) (lfi (s1 := σ0) (s2 := σ6) (fun u9 : St => wB γ h u9 ++ (wB γ g τ ++ (wS as9 (h 0) (g 0) an aq (ad 0) (ap 0) ++ (wN an (h 0) ν ++ (wR aq (h 0) ++ (wD γ ad δ ++ (wP γ ap π ++ (r)))))))) hR)
      · refine r_case hR (fun e9 hR => ?_) (fun e9 hR => ?_)
        · subst e9
          refine r_xV (mc := 1) (ms := 6) 57 52 [.int p3, .int (p4 - p4 / (9000 : Int32) * (9000 : Int32))] [] 1 (wB γ h σ ++ (wB γ g τ ++ (wS as9 (h 0) (g 0) an aq (ad 0) (ap 0) ++ (wN an (h 0) ν ++ (wR aq (h 0) ++ (wD γ ad δ ++ (wP γ ap π ++ (r)))))))) K (ct_X9_ship hl (z := .inr 1) hc.symm) cs_L_18 ⟨rfl, rfl, rfl⟩ (dk_of tL_tryLay 36 rfl) rfl rfl rfl rfl rfl ⟨by decide, by decide⟩ ?_
          refine r_catch 57 K [] ⟨0, 60, 61, 22⟩ [⟨0, 60, 67, 24⟩, ⟨0, 60, 72, 26⟩] rfl (fun z hz => by cases hz) rfl (by decide) w778 (List.mem_of_getElem? (i := 2) rfl) (fun q9 => ?_)
          refine r_astore 61 5 [some (.ref as9), some (.int p2), some (.int p3), some (.int p4), some (.int p5), some (.ref q9)] K (dk_of tL_tryLay 38 rfl) rfl rfl (by decide) ?_
          refine r_sipush 63 (-300) K (dk_of tL_tryLay 39 rfl) (by decide) ?_
          exact r_iret 66 K hQ (dk_of tL_tryLay 40 rfl) (Nat.le_refl _) (Nat.le_refl _) (lfi (s1 := σ0) (s2 := σ) (fun u9 : St => wB γ h u9 ++ (wB γ g τ ++ (wS as9 (h 0) (g 0) an aq (ad 0) (ap 0) ++ (wN an (h 0) ν ++ (wR aq (h 0) ++ (wD γ ad δ ++ (wP γ ap π ++ (r)))))))) hR)
        · refine r_case hR (fun e9 hR => ?_) (fun e9 hR => ?_)
          · subst e9
            refine r_xV (mc := 1) (ms := 6) 57 52 [.int p3, .int (p4 - p4 / (9000 : Int32) * (9000 : Int32))] [] 2 (wB γ h σ ++ (wB γ g τ ++ (wS as9 (h 0) (g 0) an aq (ad 0) (ap 0) ++ (wN an (h 0) ν ++ (wR aq (h 0) ++ (wD γ ad δ ++ (wP γ ap π ++ (r)))))))) K (ct_X9_ship hl (z := .inr 2) hc.symm) cs_L_18 ⟨rfl, rfl, rfl⟩ (dk_of tL_tryLay 36 rfl) rfl rfl rfl rfl rfl ⟨by decide, by decide⟩ ?_
            refine r_catch 57 K [⟨0, 60, 61, 22⟩] ⟨0, 60, 67, 24⟩ [⟨0, 60, 72, 26⟩] rfl (fun z hz => by rw [List.mem_singleton.mp hz]; exact ⟨by decide, 1, w778, List.mem_of_getElem? (i := 0) rfl⟩) rfl (by decide) w779 (List.mem_of_getElem? (i := 3) rfl) (fun q9 => ?_)
            refine r_astore 67 5 [some (.ref as9), some (.int p2), some (.int p3), some (.int p4), some (.int p5), some (.ref q9)] K (dk_of tL_tryLay 41 rfl) rfl rfl (by decide) ?_
            refine r_bipush 69 (-100) K (dk_of tL_tryLay 42 rfl) (by decide) ?_
            exact r_iret 71 K hQ (dk_of tL_tryLay 43 rfl) (Nat.le_refl _) (Nat.le_refl _) (lfi (s1 := σ0) (s2 := σ) (fun u9 : St => wB γ h u9 ++ (wB γ g τ ++ (wS as9 (h 0) (g 0) an aq (ad 0) (ap 0) ++ (wN an (h 0) ν ++ (wR aq (h 0) ++ (wD γ ad δ ++ (wP γ ap π ++ (r)))))))) hR)
          · refine r_case hR (fun e9 hR => ?_) (fun e9 hR => ?_)
            · subst e9
              refine r_xV (mc := 1) (ms := 6) 57 52 [.int p3, .int (p4 - p4 / (9000 : Int32) * (9000 : Int32))] [] 3 (wB γ h σ ++ (wB γ g τ ++ (wS as9 (h 0) (g 0) an aq (ad 0) (ap 0) ++ (wN an (h 0) ν ++ (wR aq (h 0) ++ (wD γ ad δ ++ (wP γ ap π ++ (r)))))))) K (ct_X9_ship hl (z := .inr 3) hc.symm) cs_L_18 ⟨rfl, rfl, rfl⟩ (dk_of tL_tryLay 36 rfl) rfl rfl rfl rfl rfl ⟨by decide, by decide⟩ ?_
              refine r_catch 57 K [⟨0, 60, 61, 22⟩, ⟨0, 60, 67, 24⟩] ⟨0, 60, 72, 26⟩ [] rfl (fun z hz => by rcases List.mem_cons.mp hz with hz | hz; (rw [hz]; exact ⟨by decide, 1, w778, List.mem_of_getElem? (i := 1) rfl⟩); (rw [List.mem_singleton.mp hz]; exact ⟨by decide, 2, w779, List.mem_of_getElem? (i := 2) rfl⟩)) rfl (by decide) w780 (List.mem_of_getElem? (i := 4) rfl) (fun q9 => ?_)
              refine r_astore 72 5 [some (.ref as9), some (.int p2), some (.int p3), some (.int p4), some (.int p5), some (.ref q9)] K (dk_of tL_tryLay 44 rfl) rfl rfl (by decide) ?_
              refine r_sipush 74 (-200) K (dk_of tL_tryLay 45 rfl) (by decide) ?_
              exact r_iret 77 K hQ (dk_of tL_tryLay 46 rfl) (Nat.le_refl _) (Nat.le_refl _) (lfi (s1 := σ0) (s2 := σ) (fun u9 : St => wB γ h u9 ++ (wB γ g τ ++ (wS as9 (h 0) (g 0) an aq (ad 0) (ap 0) ++ (wN an (h 0) ν ++ (wR aq (h 0) ++ (wD γ ad δ ++ (wP γ ap π ++ (r)))))))) hR)
            · exact nn_ hR

def sp_L_tryMean (p2 : Int32) (p3 : Int32) (p4 : Int32) (σ : St) (δ : St) : Option (Int32 × St × St) := if p2 = 0 then (bc3 (sp_X9_clean p3 p4 σ δ) (fun (x1 : Int32) (σ2 : St) (δ3 : St) => some (x1, σ2, δ3)) (fun k9 => if k9 = 1 then (some ((-300 : Int32), σ, δ)) else (if k9 = 3 then (some ((-200 : Int32), σ, δ)) else (none)))) else (if p2 = (1 : Int32) then (bc3 (sp_X9_carry p3 σ δ) (fun (x4 : Int32) (σ5 : St) (δ6 : St) => some (x4, σ5, δ6)) (fun k9 => if k9 = 1 then (some ((-300 : Int32), σ, δ)) else (if k9 = 3 then (some ((-200 : Int32), σ, δ)) else (none)))) else (bc2 (sp_X9_move p3 p4 σ) (fun (x7 : Int32) (σ8 : St) => some (x7, σ8, δ)) (fun k9 => if k9 = 1 then (some ((-300 : Int32), σ, δ)) else (if k9 = 3 then (some ((-200 : Int32), σ, δ)) else (none)))))
set_option maxHeartbeats 4000000 in
set_option maxRecDepth 100000 in
theorem ct_L_tryMean {l : Launch} (hl : l.stackTraces = false) {γ : Gd} {h : Nat → Nat} {g : Nat → Nat} {as9 : Nat} {an : Nat} {aq : Nat} {ad : Nat → Nat} {ap : Nat → Nat} {σ : St} {τ : St} {ν : (Nat → Int32)} {δ : St} {π : (St × Int64)} {r : va_W} {p2 : Int32} {p3 : Int32} {p4 : Int32} {x0 : Int32} {σ0 : St} {δ0 : St} (hR : some (x0, σ0, δ0) = sp_L_tryMean p2 p3 p4 σ δ) : Ct l γ yL_tryMean (Cond.codeWith yL_tryMean cL_tryMean 5 (some .int) [(0, 32, 33, 22), (0, 32, 39, 26)]) ({ frames := 8, cells := 1, slots := 6, locals := 127 } : Room) [.ref as9, .int p2, .int p3, .int p4] (wB γ h σ ++ (wB γ g τ ++ (wS as9 (h 0) (g 0) an aq (ad 0) (ap 0) ++ (wN an (h 0) ν ++ (wR aq (h 0) ++ (wD γ ad δ ++ (wP γ ap π ++ (r)))))))) (Pr (some (.int x0)) (wB γ h σ0 ++ (wB γ g τ ++ (wS as9 (h 0) (g 0) an aq (ad 0) (ap 0) ++ (wN an (h 0) ν ++ (wR aq (h 0) ++ (wD γ ad δ0 ++ (wP γ ap π ++ (r))))))))) 1 6 := by
  refine Ct_ofH hl (by decide +kernel) rfl (Nat.le_of_ble_eq_true rfl) (L := [some (.ref as9), some (.int p2), some (.int p3), some (.int p4), none]) rfl ?_
  intro X Q K hQ
  generalize ((wB γ h σ ++ (wB γ g τ ++ (wS as9 (h 0) (g 0) an aq (ad 0) (ap 0) ++ (wN an (h 0) ν ++ (wR aq (h 0) ++ (wD γ ad δ ++ (wP γ ap π ++ (r))))))), Q) : MX) = M at K hQ ⊢
  unfold sp_L_tryMean at hR
  refine r_iload_n 0 1 K (dk_of tL_tryMean 0 rfl) rfl rfl ?_
  refine r_if_ne 1 13 K (dk_of tL_tryMean 1 rfl) (by decide) hR (fun hR => ?_) (fun hR => ?_)
  · refine r_aload_n 4 0 K (dk_of tL_tryMean 2 rfl) rfl rfl ?_
    refine r_iload_n 5 2 K (dk_of tL_tryMean 3 rfl) rfl rfl ?_
    refine r_iload_n 6 3 K (dk_of tL_tryMean 4 rfl) rfl rfl ?_
    rcases oc3 hR with ⟨x1, σ2, δ3, hc, hR⟩ | ⟨k9, hc, hR⟩
    · refine r_cVi 7 52 [.int p3, .int p4] [] x1 (wB γ h σ2 ++ (wB γ g τ ++ (wS as9 (h 0) (g 0) an aq (ad 0) (ap 0) ++ (wN an (h 0) ν ++ (wR aq (h 0) ++ (wD γ ad δ3 ++ (wP γ ap π ++ (r)))))))) K (ct_X9_clean hl (z := .inl (x1, σ2, δ3)) hc.symm) cs_L_28 ⟨rfl, rfl, rfl⟩ (dk_of tL_tryMean 5 rfl) rfl rfl rfl rfl rfl rfl ?_
      refine r_goto 10 32 K (dk_of tL_tryMean 6 rfl) (by decide) ?_
      exact r_iret 32 K hQ (dk_of tL_tryMean 18 rfl) (Nat.zero_le _) (Nat.zero_le _) (lfi (s1 := (σ0, δ0)) (s2 := (σ2, δ3)) (fun u9 : St × St => wB γ h u9.1 ++ (wB γ g τ ++ (wS as9 (h 0) (g 0) an aq (ad 0) (ap 0) ++ (wN an (h 0) ν ++ (wR aq (h 0) ++ (wD γ ad u9.2 ++ (wP γ ap π ++ (r)))))))) hR)
    · refine r_case hR (fun e9 hR => ?_) (fun e9 hR => ?_)
      · subst e9
        refine r_xV (mc := 1) (ms := 6) 7 52 [.int p3, .int p4] [] 1 (wB γ h σ ++ (wB γ g τ ++ (wS as9 (h 0) (g 0) an aq (ad 0) (ap 0) ++ (wN an (h 0) ν ++ (wR aq (h 0) ++ (wD γ ad δ ++ (wP γ ap π ++ (r)))))))) K (ct_X9_clean hl (z := .inr 1) hc.symm) cs_L_28 ⟨rfl, rfl, rfl⟩ (dk_of tL_tryMean 5 rfl) rfl rfl rfl rfl rfl ⟨by decide, by decide⟩ ?_
        refine r_catch 7 K [] ⟨0, 32, 33, 22⟩ [⟨0, 32, 39, 26⟩] rfl (fun z hz => by cases hz) rfl (by decide) w778 (List.mem_of_getElem? (i := 2) rfl) (fun q9 => ?_)
        refine r_astore 33 4 [some (.ref as9), some (.int p2), some (.int p3), some (.int p4), some (.ref q9)] K (dk_of tL_tryMean 19 rfl) rfl rfl (by decide) ?_
        refine r_sipush 35 (-300) K (dk_of tL_tryMean 20 rfl) (by decide) ?_
        exact r_iret 38 K hQ (dk_of tL_tryMean 21 rfl) (Nat.le_refl _) (Nat.le_refl _) (lfi (s1 := (σ0, δ0)) (s2 := (σ, δ)) (fun u9 : St × St => wB γ h u9.1 ++ (wB γ g τ ++ (wS as9 (h 0) (g 0) an aq (ad 0) (ap 0) ++ (wN an (h 0) ν ++ (wR aq (h 0) ++ (wD γ ad u9.2 ++ (wP γ ap π ++ (r)))))))) hR)
      · refine r_case hR (fun e9 hR => ?_) (fun e9 hR => ?_)
        · subst e9
          refine r_xV (mc := 1) (ms := 6) 7 52 [.int p3, .int p4] [] 3 (wB γ h σ ++ (wB γ g τ ++ (wS as9 (h 0) (g 0) an aq (ad 0) (ap 0) ++ (wN an (h 0) ν ++ (wR aq (h 0) ++ (wD γ ad δ ++ (wP γ ap π ++ (r)))))))) K (ct_X9_clean hl (z := .inr 3) hc.symm) cs_L_28 ⟨rfl, rfl, rfl⟩ (dk_of tL_tryMean 5 rfl) rfl rfl rfl rfl rfl ⟨by decide, by decide⟩ ?_
          refine r_catch 7 K [⟨0, 32, 33, 22⟩] ⟨0, 32, 39, 26⟩ [] rfl (fun z hz => by rw [List.mem_singleton.mp hz]; exact ⟨by decide, 1, w778, List.mem_of_getElem? (i := 1) rfl⟩) rfl (by decide) w780 (List.mem_of_getElem? (i := 4) rfl) (fun q9 => ?_)
          refine r_astore 39 4 [some (.ref as9), some (.int p2), some (.int p3), some (.int p4), some (.ref q9)] K (dk_of tL_tryMean 22 rfl) rfl rfl (by decide) ?_
          refine r_sipush 41 (-200) K (dk_of tL_tryMean 23 rfl) (by decide) ?_
          exact r_iret 44 K hQ (dk_of tL_tryMean 24 rfl) (Nat.le_refl _) (Nat.le_refl _) (lfi (s1 := (σ0, δ0)) (s2 := (σ, δ)) (fun u9 : St × St => wB γ h u9.1 ++ (wB γ g τ ++ (wS as9 (h 0) (g 0) an aq (ad 0) (ap 0) ++ (wN an (h 0) ν ++ (wR aq (h 0) ++ (wD γ ad u9.2 ++ (wP γ ap π ++ (r)))))))) hR)
        · exact nn_ hR
  · refine r_iload_n 13 1 K (dk_of tL_tryMean 7 rfl) rfl rfl ?_
    refine r_iconst 14 (1 : Int32) K (dk_of tL_tryMean 8 rfl) (by decide) ?_
    refine r_ic_ne 15 26 K (dk_of tL_tryMean 9 rfl) (by decide) hR (fun hR => ?_) (fun hR => ?_)
    · refine r_aload_n 18 0 K (dk_of tL_tryMean 10 rfl) rfl rfl ?_
      refine r_iload_n 19 2 K (dk_of tL_tryMean 11 rfl) rfl rfl ?_
      rcases oc3 hR with ⟨x4, σ5, δ6, hc, hR⟩ | ⟨k9, hc, hR⟩
      · refine r_cVi 20 52 [.int p3] [] x4 (wB γ h σ5 ++ (wB γ g τ ++ (wS as9 (h 0) (g 0) an aq (ad 0) (ap 0) ++ (wN an (h 0) ν ++ (wR aq (h 0) ++ (wD γ ad δ6 ++ (wP γ ap π ++ (r)))))))) K (ct_X9_carry hl (z := .inl (x4, σ5, δ6)) hc.symm) cs_L_31 ⟨rfl, rfl, rfl⟩ (dk_of tL_tryMean 12 rfl) rfl rfl rfl rfl rfl rfl ?_
        refine r_goto 23 32 K (dk_of tL_tryMean 13 rfl) (by decide) ?_
        exact r_iret 32 K hQ (dk_of tL_tryMean 18 rfl) (Nat.zero_le _) (Nat.zero_le _) (lfi (s1 := (σ0, δ0)) (s2 := (σ5, δ6)) (fun u9 : St × St => wB γ h u9.1 ++ (wB γ g τ ++ (wS as9 (h 0) (g 0) an aq (ad 0) (ap 0) ++ (wN an (h 0) ν ++ (wR aq (h 0) ++ (wD γ ad u9.2 ++ (wP γ ap π ++ (r)))))))) hR)
      · refine r_case hR (fun e9 hR => ?_) (fun e9 hR => ?_)
        · subst e9
          refine r_xV (mc := 1) (ms := 6) 20 52 [.int p3] [] 1 (wB γ h σ ++ (wB γ g τ ++ (wS as9 (h 0) (g 0) an aq (ad 0) (ap 0) ++ (wN an (h 0) ν ++ (wR aq (h 0) ++ (wD γ ad δ ++ (wP γ ap π ++ (r)))))))) K (ct_X9_carry hl (z := .inr 1) hc.symm) cs_L_31 ⟨rfl, rfl, rfl⟩ (dk_of tL_tryMean 12 rfl) rfl rfl rfl rfl rfl ⟨by decide, by decide⟩ ?_
          refine r_catch 20 K [] ⟨0, 32, 33, 22⟩ [⟨0, 32, 39, 26⟩] rfl (fun z hz => by cases hz) rfl (by decide) w778 (List.mem_of_getElem? (i := 2) rfl) (fun q9 => ?_)
          refine r_astore 33 4 [some (.ref as9), some (.int p2), some (.int p3), some (.int p4), some (.ref q9)] K (dk_of tL_tryMean 19 rfl) rfl rfl (by decide) ?_
          refine r_sipush 35 (-300) K (dk_of tL_tryMean 20 rfl) (by decide) ?_
          exact r_iret 38 K hQ (dk_of tL_tryMean 21 rfl) (Nat.le_refl _) (Nat.le_refl _) (lfi (s1 := (σ0, δ0)) (s2 := (σ, δ)) (fun u9 : St × St => wB γ h u9.1 ++ (wB γ g τ ++ (wS as9 (h 0) (g 0) an aq (ad 0) (ap 0) ++ (wN an (h 0) ν ++ (wR aq (h 0) ++ (wD γ ad u9.2 ++ (wP γ ap π ++ (r)))))))) hR)
        · refine r_case hR (fun e9 hR => ?_) (fun e9 hR => ?_)
          · subst e9
            refine r_xV (mc := 1) (ms := 6) 20 52 [.int p3] [] 3 (wB γ h σ ++ (wB γ g τ ++ (wS as9 (h 0) (g 0) an aq (ad 0) (ap 0) ++ (wN an (h 0) ν ++ (wR aq (h 0) ++ (wD γ ad δ ++ (wP γ ap π ++ (r)))))))) K (ct_X9_carry hl (z := .inr 3) hc.symm) cs_L_31 ⟨rfl, rfl, rfl⟩ (dk_of tL_tryMean 12 rfl) rfl rfl rfl rfl rfl ⟨by decide, by decide⟩ ?_
            refine r_catch 20 K [⟨0, 32, 33, 22⟩] ⟨0, 32, 39, 26⟩ [] rfl (fun z hz => by rw [List.mem_singleton.mp hz]; exact ⟨by decide, 1, w778, List.mem_of_getElem? (i := 1) rfl⟩) rfl (by decide) w780 (List.mem_of_getElem? (i := 4) rfl) (fun q9 => ?_)
            refine r_astore 39 4 [some (.ref as9), some (.int p2), some (.int p3), some (.int p4), some (.ref q9)] K (dk_of tL_tryMean 22 rfl) rfl rfl (by decide) ?_
            refine r_sipush 41 (-200) K (dk_of tL_tryMean 23 rfl) (by decide) ?_
            exact r_iret 44 K hQ (dk_of tL_tryMean 24 rfl) (Nat.le_refl _) (Nat.le_refl _) (lfi (s1 := (σ0, δ0)) (s2 := (σ, δ)) (fun u9 : St × St => wB γ h u9.1 ++ (wB γ g τ ++ (wS as9 (h 0) (g 0) an aq (ad 0) (ap 0) ++ (wN an (h 0) ν ++ (wR aq (h 0) ++ (wD γ ad u9.2 ++ (wP γ ap π ++ (r)))))))) hR)
          · exact nn_ hR
    · refine r_aload_n 26 0 K (dk_of tL_tryMean 14 rfl) rfl rfl ?_
      refine r_iload_n 27 2 K (dk_of tL_tryMean 15 rfl) rfl rfl ?_
      refine r_iload_n 28 3 K (dk_of tL_tryMean 16 rfl) rfl rfl ?_
      rcases oc2 hR with ⟨x7, σ8, hc, hR⟩ | ⟨k9, hc, hR⟩
      · refine r_cVi 29 52 [.int p3, .int p4] [] x7 (wB γ h σ8 ++ (wB γ g τ ++ (wS as9 (h 0) (g 0) an aq (ad 0) (ap 0) ++ (wN an (h 0) ν ++ (wR aq (h 0) ++ (wD γ ad δ ++ (wP γ ap π ++ (r)))))))) K (ct_X9_move hl (z := .inl (x7, σ8)) hc.symm) cs_L_35 ⟨rfl, rfl, rfl⟩ (dk_of tL_tryMean 17 rfl) rfl rfl rfl rfl rfl rfl ?_
        exact r_iret 32 K hQ (dk_of tL_tryMean 18 rfl) (Nat.zero_le _) (Nat.zero_le _) (lfi (s1 := (σ0, δ0)) (s2 := (σ8, δ)) (fun u9 : St × St => wB γ h u9.1 ++ (wB γ g τ ++ (wS as9 (h 0) (g 0) an aq (ad 0) (ap 0) ++ (wN an (h 0) ν ++ (wR aq (h 0) ++ (wD γ ad u9.2 ++ (wP γ ap π ++ (r)))))))) hR)
      · refine r_case hR (fun e9 hR => ?_) (fun e9 hR => ?_)
        · subst e9
          refine r_xV (mc := 1) (ms := 6) 29 52 [.int p3, .int p4] [] 1 (wB γ h σ ++ (wB γ g τ ++ (wS as9 (h 0) (g 0) an aq (ad 0) (ap 0) ++ (wN an (h 0) ν ++ (wR aq (h 0) ++ (wD γ ad δ ++ (wP γ ap π ++ (r)))))))) K (ct_X9_move hl (z := .inr 1) hc.symm) cs_L_35 ⟨rfl, rfl, rfl⟩ (dk_of tL_tryMean 17 rfl) rfl rfl rfl rfl rfl ⟨by decide, by decide⟩ ?_
          refine r_catch 29 K [] ⟨0, 32, 33, 22⟩ [⟨0, 32, 39, 26⟩] rfl (fun z hz => by cases hz) rfl (by decide) w778 (List.mem_of_getElem? (i := 2) rfl) (fun q9 => ?_)
          refine r_astore 33 4 [some (.ref as9), some (.int p2), some (.int p3), some (.int p4), some (.ref q9)] K (dk_of tL_tryMean 19 rfl) rfl rfl (by decide) ?_
          refine r_sipush 35 (-300) K (dk_of tL_tryMean 20 rfl) (by decide) ?_
          exact r_iret 38 K hQ (dk_of tL_tryMean 21 rfl) (Nat.le_refl _) (Nat.le_refl _) (lfi (s1 := (σ0, δ0)) (s2 := (σ, δ)) (fun u9 : St × St => wB γ h u9.1 ++ (wB γ g τ ++ (wS as9 (h 0) (g 0) an aq (ad 0) (ap 0) ++ (wN an (h 0) ν ++ (wR aq (h 0) ++ (wD γ ad u9.2 ++ (wP γ ap π ++ (r)))))))) hR)
        · refine r_case hR (fun e9 hR => ?_) (fun e9 hR => ?_)
          · subst e9
            refine r_xV (mc := 1) (ms := 6) 29 52 [.int p3, .int p4] [] 3 (wB γ h σ ++ (wB γ g τ ++ (wS as9 (h 0) (g 0) an aq (ad 0) (ap 0) ++ (wN an (h 0) ν ++ (wR aq (h 0) ++ (wD γ ad δ ++ (wP γ ap π ++ (r)))))))) K (ct_X9_move hl (z := .inr 3) hc.symm) cs_L_35 ⟨rfl, rfl, rfl⟩ (dk_of tL_tryMean 17 rfl) rfl rfl rfl rfl rfl ⟨by decide, by decide⟩ ?_
            refine r_catch 29 K [⟨0, 32, 33, 22⟩] ⟨0, 32, 39, 26⟩ [] rfl (fun z hz => by rw [List.mem_singleton.mp hz]; exact ⟨by decide, 1, w778, List.mem_of_getElem? (i := 1) rfl⟩) rfl (by decide) w780 (List.mem_of_getElem? (i := 4) rfl) (fun q9 => ?_)
            refine r_astore 39 4 [some (.ref as9), some (.int p2), some (.int p3), some (.int p4), some (.ref q9)] K (dk_of tL_tryMean 22 rfl) rfl rfl (by decide) ?_
            refine r_sipush 41 (-200) K (dk_of tL_tryMean 23 rfl) (by decide) ?_
            exact r_iret 44 K hQ (dk_of tL_tryMean 24 rfl) (Nat.le_refl _) (Nat.le_refl _) (lfi (s1 := (σ0, δ0)) (s2 := (σ, δ)) (fun u9 : St × St => wB γ h u9.1 ++ (wB γ g τ ++ (wS as9 (h 0) (g 0) an aq (ad 0) (ap 0) ++ (wN an (h 0) ν ++ (wR aq (h 0) ++ (wD γ ad u9.2 ++ (wP γ ap π ++ (r)))))))) hR)
          · exact nn_ hR

def sp_L_tryUse (p2 : Int32) (p3 : Int32) (σ : St) : Option (Int32 × St) := bc2 (sp_X9_use p2 p3 σ) (fun (x1 : Int32) (σ2 : St) => some (x1, σ2)) (fun k9 => if k9 = 1 then (some ((-300 : Int32), σ)) else (if k9 = 2 then (some ((-100 : Int32), σ)) else (if k9 = 3 then (some ((-200 : Int32), σ)) else (none))))
set_option maxHeartbeats 4000000 in
set_option maxRecDepth 100000 in
theorem ct_L_tryUse {l : Launch} (hl : l.stackTraces = false) {γ : Gd} {h : Nat → Nat} {g : Nat → Nat} {as9 : Nat} {an : Nat} {aq : Nat} {ad : Nat → Nat} {ap : Nat → Nat} {σ : St} {τ : St} {ν : (Nat → Int32)} {δ : St} {π : (St × Int64)} {r : va_W} {p2 : Int32} {p3 : Int32} {x0 : Int32} {σ0 : St} (hR : some (x0, σ0) = sp_L_tryUse p2 p3 σ) : Ct l γ yL_tryUse (Cond.codeWith yL_tryUse cL_tryUse 4 (some .int) [(0, 6, 7, 22), (0, 6, 12, 24), (0, 6, 16, 26)]) ({ frames := 8, cells := 1, slots := 6, locals := 126 } : Room) [.ref as9, .int p2, .int p3] (wB γ h σ ++ (wB γ g τ ++ (wS as9 (h 0) (g 0) an aq (ad 0) (ap 0) ++ (wN an (h 0) ν ++ (wR aq (h 0) ++ (wD γ ad δ ++ (wP γ ap π ++ (r)))))))) (Pr (some (.int x0)) (wB γ h σ0 ++ (wB γ g τ ++ (wS as9 (h 0) (g 0) an aq (ad 0) (ap 0) ++ (wN an (h 0) ν ++ (wR aq (h 0) ++ (wD γ ad δ ++ (wP γ ap π ++ (r))))))))) 1 6 := by
  refine Ct_ofH hl (by decide +kernel) rfl (Nat.le_of_ble_eq_true rfl) (L := [some (.ref as9), some (.int p2), some (.int p3), none]) rfl ?_
  intro X Q K hQ
  generalize ((wB γ h σ ++ (wB γ g τ ++ (wS as9 (h 0) (g 0) an aq (ad 0) (ap 0) ++ (wN an (h 0) ν ++ (wR aq (h 0) ++ (wD γ ad δ ++ (wP γ ap π ++ (r))))))), Q) : MX) = M at K hQ ⊢
  unfold sp_L_tryUse at hR
  refine r_aload_n 0 0 K (dk_of tL_tryUse 0 rfl) rfl rfl ?_
  refine r_iload_n 1 1 K (dk_of tL_tryUse 1 rfl) rfl rfl ?_
  refine r_iload_n 2 2 K (dk_of tL_tryUse 2 rfl) rfl rfl ?_
  rcases oc2 hR with ⟨x1, σ2, hc, hR⟩ | ⟨k9, hc, hR⟩
  · refine r_cVi 3 52 [.int p2, .int p3] [] x1 (wB γ h σ2 ++ (wB γ g τ ++ (wS as9 (h 0) (g 0) an aq (ad 0) (ap 0) ++ (wN an (h 0) ν ++ (wR aq (h 0) ++ (wD γ ad δ ++ (wP γ ap π ++ (r)))))))) K (ct_X9_use hl (z := .inl (x1, σ2)) hc.symm) cs_L_38 ⟨rfl, rfl, rfl⟩ (dk_of tL_tryUse 3 rfl) rfl rfl rfl rfl rfl rfl ?_
    exact r_iret 6 K hQ (dk_of tL_tryUse 4 rfl) (Nat.zero_le _) (Nat.zero_le _) (lfi (s1 := σ0) (s2 := σ2) (fun u9 : St => wB γ h u9 ++ (wB γ g τ ++ (wS as9 (h 0) (g 0) an aq (ad 0) (ap 0) ++ (wN an (h 0) ν ++ (wR aq (h 0) ++ (wD γ ad δ ++ (wP γ ap π ++ (r)))))))) hR)
  · refine r_case hR (fun e9 hR => ?_) (fun e9 hR => ?_)
    · subst e9
      refine r_xV (mc := 1) (ms := 6) 3 52 [.int p2, .int p3] [] 1 (wB γ h σ ++ (wB γ g τ ++ (wS as9 (h 0) (g 0) an aq (ad 0) (ap 0) ++ (wN an (h 0) ν ++ (wR aq (h 0) ++ (wD γ ad δ ++ (wP γ ap π ++ (r)))))))) K (ct_X9_use hl (z := .inr 1) hc.symm) cs_L_38 ⟨rfl, rfl, rfl⟩ (dk_of tL_tryUse 3 rfl) rfl rfl rfl rfl rfl ⟨by decide, by decide⟩ ?_
      refine r_catch 3 K [] ⟨0, 6, 7, 22⟩ [⟨0, 6, 12, 24⟩, ⟨0, 6, 16, 26⟩] rfl (fun z hz => by cases hz) rfl (by decide) w778 (List.mem_of_getElem? (i := 2) rfl) (fun q9 => ?_)
      refine r_astore_n 7 3 [some (.ref as9), some (.int p2), some (.int p3), some (.ref q9)] K (dk_of tL_tryUse 5 rfl) rfl rfl rfl (by decide) ?_
      refine r_sipush 8 (-300) K (dk_of tL_tryUse 6 rfl) (by decide) ?_
      exact r_iret 11 K hQ (dk_of tL_tryUse 7 rfl) (Nat.le_refl _) (Nat.le_refl _) (lfi (s1 := σ0) (s2 := σ) (fun u9 : St => wB γ h u9 ++ (wB γ g τ ++ (wS as9 (h 0) (g 0) an aq (ad 0) (ap 0) ++ (wN an (h 0) ν ++ (wR aq (h 0) ++ (wD γ ad δ ++ (wP γ ap π ++ (r)))))))) hR)
    · refine r_case hR (fun e9 hR => ?_) (fun e9 hR => ?_)
      · subst e9
        refine r_xV (mc := 1) (ms := 6) 3 52 [.int p2, .int p3] [] 2 (wB γ h σ ++ (wB γ g τ ++ (wS as9 (h 0) (g 0) an aq (ad 0) (ap 0) ++ (wN an (h 0) ν ++ (wR aq (h 0) ++ (wD γ ad δ ++ (wP γ ap π ++ (r)))))))) K (ct_X9_use hl (z := .inr 2) hc.symm) cs_L_38 ⟨rfl, rfl, rfl⟩ (dk_of tL_tryUse 3 rfl) rfl rfl rfl rfl rfl ⟨by decide, by decide⟩ ?_
        refine r_catch 3 K [⟨0, 6, 7, 22⟩] ⟨0, 6, 12, 24⟩ [⟨0, 6, 16, 26⟩] rfl (fun z hz => by rw [List.mem_singleton.mp hz]; exact ⟨by decide, 1, w778, List.mem_of_getElem? (i := 0) rfl⟩) rfl (by decide) w779 (List.mem_of_getElem? (i := 3) rfl) (fun q9 => ?_)
        refine r_astore_n 12 3 [some (.ref as9), some (.int p2), some (.int p3), some (.ref q9)] K (dk_of tL_tryUse 8 rfl) rfl rfl rfl (by decide) ?_
        refine r_bipush 13 (-100) K (dk_of tL_tryUse 9 rfl) (by decide) ?_
        exact r_iret 15 K hQ (dk_of tL_tryUse 10 rfl) (Nat.le_refl _) (Nat.le_refl _) (lfi (s1 := σ0) (s2 := σ) (fun u9 : St => wB γ h u9 ++ (wB γ g τ ++ (wS as9 (h 0) (g 0) an aq (ad 0) (ap 0) ++ (wN an (h 0) ν ++ (wR aq (h 0) ++ (wD γ ad δ ++ (wP γ ap π ++ (r)))))))) hR)
      · refine r_case hR (fun e9 hR => ?_) (fun e9 hR => ?_)
        · subst e9
          refine r_xV (mc := 1) (ms := 6) 3 52 [.int p2, .int p3] [] 3 (wB γ h σ ++ (wB γ g τ ++ (wS as9 (h 0) (g 0) an aq (ad 0) (ap 0) ++ (wN an (h 0) ν ++ (wR aq (h 0) ++ (wD γ ad δ ++ (wP γ ap π ++ (r)))))))) K (ct_X9_use hl (z := .inr 3) hc.symm) cs_L_38 ⟨rfl, rfl, rfl⟩ (dk_of tL_tryUse 3 rfl) rfl rfl rfl rfl rfl ⟨by decide, by decide⟩ ?_
          refine r_catch 3 K [⟨0, 6, 7, 22⟩, ⟨0, 6, 12, 24⟩] ⟨0, 6, 16, 26⟩ [] rfl (fun z hz => by rcases List.mem_cons.mp hz with hz | hz; (rw [hz]; exact ⟨by decide, 1, w778, List.mem_of_getElem? (i := 1) rfl⟩); (rw [List.mem_singleton.mp hz]; exact ⟨by decide, 2, w779, List.mem_of_getElem? (i := 2) rfl⟩)) rfl (by decide) w780 (List.mem_of_getElem? (i := 4) rfl) (fun q9 => ?_)
          refine r_astore_n 16 3 [some (.ref as9), some (.int p2), some (.int p3), some (.ref q9)] K (dk_of tL_tryUse 11 rfl) rfl rfl rfl (by decide) ?_
          refine r_sipush 17 (-200) K (dk_of tL_tryUse 12 rfl) (by decide) ?_
          exact r_iret 20 K hQ (dk_of tL_tryUse 13 rfl) (Nat.le_refl _) (Nat.le_refl _) (lfi (s1 := σ0) (s2 := σ) (fun u9 : St => wB γ h u9 ++ (wB γ g τ ++ (wS as9 (h 0) (g 0) an aq (ad 0) (ap 0) ++ (wN an (h 0) ν ++ (wR aq (h 0) ++ (wD γ ad δ ++ (wP γ ap π ++ (r)))))))) hR)
        · exact nn_ hR

def sp_L_tryWhy (p2 : Int32) (p3 : Int32) (p4 : Int32) (σ : St) : Option (Int32) := bc1 (sp_X9_why p2 p3 p4 σ) (fun (x1 : Int32) => some x1) (fun k9 => if k9 = 1 then (some (-300 : Int32)) else (if k9 = 2 then (some (-100 : Int32)) else (if k9 = 3 then (some (-200 : Int32)) else (none))))
set_option maxHeartbeats 4000000 in
set_option maxRecDepth 100000 in
theorem ct_L_tryWhy {l : Launch} (hl : l.stackTraces = false) {γ : Gd} {h : Nat → Nat} {g : Nat → Nat} {as9 : Nat} {an : Nat} {aq : Nat} {ad : Nat → Nat} {ap : Nat → Nat} {σ : St} {τ : St} {ν : (Nat → Int32)} {δ : St} {π : (St × Int64)} {r : va_W} {p2 : Int32} {p3 : Int32} {p4 : Int32} {x0 : Int32} (hR : some x0 = sp_L_tryWhy p2 p3 p4 σ) : Ct l γ yL_tryWhy (Cond.codeWith yL_tryWhy cL_tryWhy 5 (some .int) [(0, 7, 8, 22), (0, 7, 14, 24), (0, 7, 19, 26)]) ({ frames := 8, cells := 1, slots := 6, locals := 127 } : Room) [.ref as9, .int p2, .int p3, .int p4] (wB γ h σ ++ (wB γ g τ ++ (wS as9 (h 0) (g 0) an aq (ad 0) (ap 0) ++ (wN an (h 0) ν ++ (wR aq (h 0) ++ (wD γ ad δ ++ (wP γ ap π ++ (r)))))))) (Pr (some (.int x0)) (wB γ h σ ++ (wB γ g τ ++ (wS as9 (h 0) (g 0) an aq (ad 0) (ap 0) ++ (wN an (h 0) ν ++ (wR aq (h 0) ++ (wD γ ad δ ++ (wP γ ap π ++ (r))))))))) 1 6 := by
  refine Ct_ofH hl (by decide +kernel) rfl (Nat.le_of_ble_eq_true rfl) (L := [some (.ref as9), some (.int p2), some (.int p3), some (.int p4), none]) rfl ?_
  intro X Q K hQ
  generalize ((wB γ h σ ++ (wB γ g τ ++ (wS as9 (h 0) (g 0) an aq (ad 0) (ap 0) ++ (wN an (h 0) ν ++ (wR aq (h 0) ++ (wD γ ad δ ++ (wP γ ap π ++ (r))))))), Q) : MX) = M at K hQ ⊢
  unfold sp_L_tryWhy at hR
  refine r_aload_n 0 0 K (dk_of tL_tryWhy 0 rfl) rfl rfl ?_
  refine r_iload_n 1 1 K (dk_of tL_tryWhy 1 rfl) rfl rfl ?_
  refine r_iload_n 2 2 K (dk_of tL_tryWhy 2 rfl) rfl rfl ?_
  refine r_iload_n 3 3 K (dk_of tL_tryWhy 3 rfl) rfl rfl ?_
  rcases oc1 hR with ⟨x1, hc, hR⟩ | ⟨k9, hc, hR⟩
  · refine r_cVi 4 52 [.int p2, .int p3, .int p4] [] x1 (wB γ h σ ++ (wB γ g τ ++ (wS as9 (h 0) (g 0) an aq (ad 0) (ap 0) ++ (wN an (h 0) ν ++ (wR aq (h 0) ++ (wD γ ad δ ++ (wP γ ap π ++ (r)))))))) K (ct_X9_why hl (z := .inl x1) hc.symm) cs_L_41 ⟨rfl, rfl, rfl⟩ (dk_of tL_tryWhy 4 rfl) rfl rfl rfl rfl rfl rfl ?_
    exact r_iret 7 K hQ (dk_of tL_tryWhy 5 rfl) (Nat.zero_le _) (Nat.zero_le _) (lfi0 hR)
  · refine r_case hR (fun e9 hR => ?_) (fun e9 hR => ?_)
    · subst e9
      refine r_xV (mc := 1) (ms := 6) 4 52 [.int p2, .int p3, .int p4] [] 1 (wB γ h σ ++ (wB γ g τ ++ (wS as9 (h 0) (g 0) an aq (ad 0) (ap 0) ++ (wN an (h 0) ν ++ (wR aq (h 0) ++ (wD γ ad δ ++ (wP γ ap π ++ (r)))))))) K (ct_X9_why hl (z := .inr 1) hc.symm) cs_L_41 ⟨rfl, rfl, rfl⟩ (dk_of tL_tryWhy 4 rfl) rfl rfl rfl rfl rfl ⟨by decide, by decide⟩ ?_
      refine r_catch 4 K [] ⟨0, 7, 8, 22⟩ [⟨0, 7, 14, 24⟩, ⟨0, 7, 19, 26⟩] rfl (fun z hz => by cases hz) rfl (by decide) w778 (List.mem_of_getElem? (i := 2) rfl) (fun q9 => ?_)
      refine r_astore 8 4 [some (.ref as9), some (.int p2), some (.int p3), some (.int p4), some (.ref q9)] K (dk_of tL_tryWhy 6 rfl) rfl rfl (by decide) ?_
      refine r_sipush 10 (-300) K (dk_of tL_tryWhy 7 rfl) (by decide) ?_
      exact r_iret 13 K hQ (dk_of tL_tryWhy 8 rfl) (Nat.le_refl _) (Nat.le_refl _) (lfi0 hR)
    · refine r_case hR (fun e9 hR => ?_) (fun e9 hR => ?_)
      · subst e9
        refine r_xV (mc := 1) (ms := 6) 4 52 [.int p2, .int p3, .int p4] [] 2 (wB γ h σ ++ (wB γ g τ ++ (wS as9 (h 0) (g 0) an aq (ad 0) (ap 0) ++ (wN an (h 0) ν ++ (wR aq (h 0) ++ (wD γ ad δ ++ (wP γ ap π ++ (r)))))))) K (ct_X9_why hl (z := .inr 2) hc.symm) cs_L_41 ⟨rfl, rfl, rfl⟩ (dk_of tL_tryWhy 4 rfl) rfl rfl rfl rfl rfl ⟨by decide, by decide⟩ ?_
        refine r_catch 4 K [⟨0, 7, 8, 22⟩] ⟨0, 7, 14, 24⟩ [⟨0, 7, 19, 26⟩] rfl (fun z hz => by rw [List.mem_singleton.mp hz]; exact ⟨by decide, 1, w778, List.mem_of_getElem? (i := 0) rfl⟩) rfl (by decide) w779 (List.mem_of_getElem? (i := 3) rfl) (fun q9 => ?_)
        refine r_astore 14 4 [some (.ref as9), some (.int p2), some (.int p3), some (.int p4), some (.ref q9)] K (dk_of tL_tryWhy 9 rfl) rfl rfl (by decide) ?_
        refine r_bipush 16 (-100) K (dk_of tL_tryWhy 10 rfl) (by decide) ?_
        exact r_iret 18 K hQ (dk_of tL_tryWhy 11 rfl) (Nat.le_refl _) (Nat.le_refl _) (lfi0 hR)
      · refine r_case hR (fun e9 hR => ?_) (fun e9 hR => ?_)
        · subst e9
          refine r_xV (mc := 1) (ms := 6) 4 52 [.int p2, .int p3, .int p4] [] 3 (wB γ h σ ++ (wB γ g τ ++ (wS as9 (h 0) (g 0) an aq (ad 0) (ap 0) ++ (wN an (h 0) ν ++ (wR aq (h 0) ++ (wD γ ad δ ++ (wP γ ap π ++ (r)))))))) K (ct_X9_why hl (z := .inr 3) hc.symm) cs_L_41 ⟨rfl, rfl, rfl⟩ (dk_of tL_tryWhy 4 rfl) rfl rfl rfl rfl rfl ⟨by decide, by decide⟩ ?_
          refine r_catch 4 K [⟨0, 7, 8, 22⟩, ⟨0, 7, 14, 24⟩] ⟨0, 7, 19, 26⟩ [] rfl (fun z hz => by rcases List.mem_cons.mp hz with hz | hz; (rw [hz]; exact ⟨by decide, 1, w778, List.mem_of_getElem? (i := 1) rfl⟩); (rw [List.mem_singleton.mp hz]; exact ⟨by decide, 2, w779, List.mem_of_getElem? (i := 2) rfl⟩)) rfl (by decide) w780 (List.mem_of_getElem? (i := 4) rfl) (fun q9 => ?_)
          refine r_astore 19 4 [some (.ref as9), some (.int p2), some (.int p3), some (.int p4), some (.ref q9)] K (dk_of tL_tryWhy 12 rfl) rfl rfl (by decide) ?_
          refine r_sipush 21 (-200) K (dk_of tL_tryWhy 13 rfl) (by decide) ?_
          exact r_iret 24 K hQ (dk_of tL_tryWhy 14 rfl) (Nat.le_refl _) (Nat.le_refl _) (lfi0 hR)
        · exact nn_ hR

def sp_L_closes_168 (σ : St) (δ : St) (y14 : Int32) (y15 : Int32) (y16 : Int32) (y17 : Int32) (y18 : Int32) : Nat → Int32 → Int32 → Option (Int32)
  | 0, _, _ => none
  | n + 1, y19, y20 => if (12 : Int32) ≤ y20 then (if y17 = 0 then (some (0 : Int32)) else (bt1 (sp_X9_sum (3 : Int32) σ δ) (fun (x21 : Int32) => if y15 = x21 then (bt1 (sp_X9_sum (7 : Int32) σ δ) (fun (x22 : Int32) => if y16 = x22 then (bt1 (sp_X9_sum (2 : Int32) σ δ) (fun (x23 : Int32) => if y18 = x23 then (bt1 (sp_X9_sum (1 : Int32) σ δ) (fun (x24 : Int32) => if (y18 + x24) = y14 then (bt1 (sp_X9_sum (1 : Int32) σ δ) (fun (x25 : Int32) => if y19 = x25 then (some (1 : Int32)) else (some (0 : Int32)))) else (some (0 : Int32)))) else (some (0 : Int32)))) else (some (0 : Int32)))) else (some (0 : Int32))))) else (bt1 (sp_X9_sum y20 σ δ) (fun (x26 : Int32) => sl ((y19 + x26)) (fun x27 : Int32 => sp_L_closes_168 σ δ y14 y15 y16 y17 y18 n x27 (y20 + 1))))
def sp_L_closes_139 (σ : St) (δ : St) (y7 : Int32) (y8 : Int32) (y9 : Int32) (y10 : Int32) (y11 : Int32) : Nat → Int32 → Int32 → Option (Int32)
  | 0, _, _ => none
  | n + 1, y12, y13 => if y7 ≤ y13 then (sp_L_closes_168 σ δ y8 y9 y10 y11 y12 200 (0 : Int32) (3 : Int32)) else (bt1 (sp_X9_shipHas y13 σ) (fun (x28 : Int32) => sl ((y12 + x28)) (fun x29 : Int32 => sp_L_closes_139 σ δ y7 y8 y9 y10 y11 n x29 (y13 + 1))))
def sp_L_closes_11 (σ : St) (δ : St) (y1 : Int32) (y2 : Int32) : Nat → Int32 → Int32 → Int32 → Int32 → Option (Int32)
  | 0, _, _, _, _ => none
  | n + 1, y3, y4, y5, y6 => if (24 : Int32) ≤ y6 then (sp_L_closes_139 σ δ y1 y2 y3 y4 y5 200 (0 : Int32) (0 : Int32)) else (bt1 (sp_X9_at y6 (0 : Int32) σ) (fun (x30 : Int32) => bt1 (sp_X9_at y6 (1 : Int32) σ) (fun (x31 : Int32) => sl ((y3 + (x30 + x31))) (fun x32 : Int32 => bt1 (sp_X9_at y6 (2 : Int32) σ) (fun (x33 : Int32) => sl ((y4 + x33)) (fun x34 : Int32 => bt1 (sp_X9_at y6 (6 : Int32) σ) (fun (x35 : Int32) => bt1 (sp_X9_at y6 (5 : Int32) σ) (fun (x36 : Int32) => if x36 < x35 then (sl ((y5 &&& (0 : Int32))) (fun x37 : Int32 => sp_L_closes_11 σ δ y1 y2 n x32 x34 x37 (y6 + 1))) else (bt1 (sp_X9_at y6 (3 : Int32) σ) (fun (x38 : Int32) => if x38 = 0 then (bt1 (sp_X9_at y6 (2 : Int32) σ) (fun (x39 : Int32) => if x39 = 0 then (sl ((y5 &&& (1 : Int32))) (fun x40 : Int32 => sp_L_closes_11 σ δ y1 y2 n x32 x34 x40 (y6 + 1))) else (sl ((y5 &&& (0 : Int32))) (fun x41 : Int32 => sp_L_closes_11 σ δ y1 y2 n x32 x34 x41 (y6 + 1))))) else (bt1 (sp_X9_at y6 (0 : Int32) σ) (fun (x42 : Int32) => bt1 (sp_X9_at y6 (1 : Int32) σ) (fun (x43 : Int32) => if (x42 + x43) = 0 then (bt1 (sp_X9_at y6 (4 : Int32) σ) (fun (x44 : Int32) => if x44 = 0 then (sl ((y5 &&& (1 : Int32))) (fun x45 : Int32 => sp_L_closes_11 σ δ y1 y2 n x32 x34 x45 (y6 + 1))) else (sl ((y5 &&& (0 : Int32))) (fun x46 : Int32 => sp_L_closes_11 σ δ y1 y2 n x32 x34 x46 (y6 + 1))))) else (sl ((y5 &&& (0 : Int32))) (fun x47 : Int32 => sp_L_closes_11 σ δ y1 y2 n x32 x34 x47 (y6 + 1))))))))))))))))
def sp_L_closes (p2 : Int32) (p3 : Int32) (σ : St) (δ : St) : Option (Int32) := sp_L_closes_11 σ δ p2 p3 200 (0 : Int32) (0 : Int32) (1 : Int32) (0 : Int32)
set_option maxHeartbeats 4000000 in
set_option maxRecDepth 100000 in
theorem ct_L_closes {l : Launch} (hl : l.stackTraces = false) {γ : Gd} {h : Nat → Nat} {g : Nat → Nat} {as9 : Nat} {an : Nat} {aq : Nat} {ad : Nat → Nat} {ap : Nat → Nat} {σ : St} {τ : St} {ν : (Nat → Int32)} {δ : St} {π : (St × Int64)} {r : va_W} {p2 : Int32} {p3 : Int32} {x0 : Int32} (hR : some x0 = sp_L_closes p2 p3 σ δ) : Ct l γ yL_closes (Cond.code yL_closes cL_closes 9 (some .boolean)) ({ frames := 8, cells := 0, slots := 0, locals := 127 } : Room) [.ref as9, .int p2, .int p3] (wB γ h σ ++ (wB γ g τ ++ (wS as9 (h 0) (g 0) an aq (ad 0) (ap 0) ++ (wN an (h 0) ν ++ (wR aq (h 0) ++ (wD γ ad δ ++ (wP γ ap π ++ (r)))))))) (Pr (some (.int x0)) (wB γ h σ ++ (wB γ g τ ++ (wS as9 (h 0) (g 0) an aq (ad 0) (ap 0) ++ (wN an (h 0) ν ++ (wR aq (h 0) ++ (wD γ ad δ ++ (wP γ ap π ++ (r))))))))) 0 0 := by
  refine Ct_of hl (by decide +kernel) rfl (Nat.le_of_ble_eq_true rfl) (L := [some (.ref as9), some (.int p2), some (.int p3), none, none, none, none, none, none]) rfl ?_
  intro X Q K hQ
  generalize ((wB γ h σ ++ (wB γ g τ ++ (wS as9 (h 0) (g 0) an aq (ad 0) (ap 0) ++ (wN an (h 0) ν ++ (wR aq (h 0) ++ (wD γ ad δ ++ (wP γ ap π ++ (r))))))), Q) : MX) = M at K hQ ⊢
  unfold sp_L_closes at hR
  have b168 : ∀ (y14 : Int32) (y15 : Int32) (y16 : Int32) (y17 : Int32) (y18 : Int32) (n : Nat) (y19 : Int32) (y20 : Int32), some x0 = sp_L_closes_168 σ δ y14 y15 y16 y17 y18 n y19 y20 → V l γ X M (wB γ h σ ++ (wB γ g τ ++ (wS as9 (h 0) (g 0) an aq (ad 0) (ap 0) ++ (wN an (h 0) ν ++ (wR aq (h 0) ++ (wD γ ad δ ++ (wP γ ap π ++ (r)))))))) [some (.ref as9), none, some (.int y14), some (.int y15), some (.int y16), some (.int y17), some (.int y18), some (.int y19), some (.int y20)] 0 0 168 [] := by
    intro y14 y15 y16 y17 y18 n
    induction n with
    | zero => intro y19 y20 hR; exact nn_ hR
    | succ n ih168 =>
      intro y19 y20 hR
      rw [sp_L_closes_168] at hR
      refine r_iload 168 8 K (dk_of tL_closes_0 92 rfl) rfl ?_
      refine r_bipush 170 (12 : Int32) K (dk_of tL_closes_0 93 rfl) (by decide) ?_
      refine r_ic_ge 172 192 K (dk_of tL_closes_0 94 rfl) (by decide) hR (fun hR => ?_) (fun hR => ?_)
      · refine r_iload 192 5 K (dk_of tL_closes_1 3 rfl) rfl ?_
        refine r_if_eq 194 253 K (dk_of tL_closes_1 4 rfl) (by decide) hR (fun hR => ?_) (fun hR => ?_)
        · refine r_iconst 253 (0 : Int32) K (dk_of tL_closes_1 34 rfl) (by decide) ?_
          exact r_zret 254 K hQ (dk_of tL_closes_1 35 rfl) zb0 (Nat.zero_le _) (Nat.zero_le _) (lfi0 hR)
        · refine r_iload_n 197 3 K (dk_of tL_closes_1 5 rfl) rfl rfl ?_
          refine r_aload_n 198 0 K (dk_of tL_closes_1 6 rfl) rfl rfl ?_
          refine r_iconst 199 (3 : Int32) K (dk_of tL_closes_1 7 rfl) (by decide) ?_
          obtain ⟨x21, hc, hR⟩ := ot1 hR
          refine r_cVi 200 52 [.int (3 : Int32)] [.int y15] x21 (wB γ h σ ++ (wB γ g τ ++ (wS as9 (h 0) (g 0) an aq (ad 0) (ap 0) ++ (wN an (h 0) ν ++ (wR aq (h 0) ++ (wD γ ad δ ++ (wP γ ap π ++ (r)))))))) K (ct_X9_sum hl (z := .inl x21) hc.symm) cs_L_50 ⟨rfl, rfl, rfl⟩ (dk_of tL_closes_1 8 rfl) rfl rfl rfl rfl rfl rfl ?_
          refine r_ic_ne 203 253 K (dk_of tL_closes_1 9 rfl) (by decide) hR (fun hR => ?_) (fun hR => ?_)
          · refine r_iload 206 4 K (dk_of tL_closes_1 10 rfl) rfl ?_
            refine r_aload_n 208 0 K (dk_of tL_closes_1 11 rfl) rfl rfl ?_
            refine r_bipush 209 (7 : Int32) K (dk_of tL_closes_1 12 rfl) (by decide) ?_
            obtain ⟨x22, hc, hR⟩ := ot1 hR
            refine r_cVi 211 52 [.int (7 : Int32)] [.int y16] x22 (wB γ h σ ++ (wB γ g τ ++ (wS as9 (h 0) (g 0) an aq (ad 0) (ap 0) ++ (wN an (h 0) ν ++ (wR aq (h 0) ++ (wD γ ad δ ++ (wP γ ap π ++ (r)))))))) K (ct_X9_sum hl (z := .inl x22) hc.symm) cs_L_50 ⟨rfl, rfl, rfl⟩ (dk_of tL_closes_1 13 rfl) rfl rfl rfl rfl rfl rfl ?_
            refine r_ic_ne 214 253 K (dk_of tL_closes_1 14 rfl) (by decide) hR (fun hR => ?_) (fun hR => ?_)
            · refine r_iload 217 6 K (dk_of tL_closes_1 15 rfl) rfl ?_
              refine r_aload_n 219 0 K (dk_of tL_closes_1 16 rfl) rfl rfl ?_
              refine r_iconst 220 (2 : Int32) K (dk_of tL_closes_1 17 rfl) (by decide) ?_
              obtain ⟨x23, hc, hR⟩ := ot1 hR
              refine r_cVi 221 52 [.int (2 : Int32)] [.int y18] x23 (wB γ h σ ++ (wB γ g τ ++ (wS as9 (h 0) (g 0) an aq (ad 0) (ap 0) ++ (wN an (h 0) ν ++ (wR aq (h 0) ++ (wD γ ad δ ++ (wP γ ap π ++ (r)))))))) K (ct_X9_sum hl (z := .inl x23) hc.symm) cs_L_50 ⟨rfl, rfl, rfl⟩ (dk_of tL_closes_1 18 rfl) rfl rfl rfl rfl rfl rfl ?_
              refine r_ic_ne 224 253 K (dk_of tL_closes_1 19 rfl) (by decide) hR (fun hR => ?_) (fun hR => ?_)
              · refine r_iload 227 6 K (dk_of tL_closes_1 20 rfl) rfl ?_
                refine r_aload_n 229 0 K (dk_of tL_closes_1 21 rfl) rfl rfl ?_
                refine r_iconst 230 (1 : Int32) K (dk_of tL_closes_1 22 rfl) (by decide) ?_
                obtain ⟨x24, hc, hR⟩ := ot1 hR
                refine r_cVi 231 52 [.int (1 : Int32)] [.int y18] x24 (wB γ h σ ++ (wB γ g τ ++ (wS as9 (h 0) (g 0) an aq (ad 0) (ap 0) ++ (wN an (h 0) ν ++ (wR aq (h 0) ++ (wD γ ad δ ++ (wP γ ap π ++ (r)))))))) K (ct_X9_sum hl (z := .inl x24) hc.symm) cs_L_50 ⟨rfl, rfl, rfl⟩ (dk_of tL_closes_1 23 rfl) rfl rfl rfl rfl rfl rfl ?_
                refine r_iadd 234 K (dk_of tL_closes_1 24 rfl) ?_
                refine r_iload_n 235 2 K (dk_of tL_closes_1 25 rfl) rfl rfl ?_
                refine r_ic_ne 236 253 K (dk_of tL_closes_1 26 rfl) (by decide) hR (fun hR => ?_) (fun hR => ?_)
                · refine r_iload 239 7 K (dk_of tL_closes_1 27 rfl) rfl ?_
                  refine r_aload_n 241 0 K (dk_of tL_closes_1 28 rfl) rfl rfl ?_
                  refine r_iconst 242 (1 : Int32) K (dk_of tL_closes_1 29 rfl) (by decide) ?_
                  obtain ⟨x25, hc, hR⟩ := ot1 hR
                  refine r_cVi 243 52 [.int (1 : Int32)] [.int y19] x25 (wB γ h σ ++ (wB γ g τ ++ (wS as9 (h 0) (g 0) an aq (ad 0) (ap 0) ++ (wN an (h 0) ν ++ (wR aq (h 0) ++ (wD γ ad δ ++ (wP γ ap π ++ (r)))))))) K (ct_X9_sum hl (z := .inl x25) hc.symm) cs_L_50 ⟨rfl, rfl, rfl⟩ (dk_of tL_closes_1 30 rfl) rfl rfl rfl rfl rfl rfl ?_
                  refine r_ic_ne 246 253 K (dk_of tL_closes_1 31 rfl) (by decide) hR (fun hR => ?_) (fun hR => ?_)
                  · refine r_iconst 249 (1 : Int32) K (dk_of tL_closes_1 32 rfl) (by decide) ?_
                    refine r_goto 250 254 K (dk_of tL_closes_1 33 rfl) (by decide) ?_
                    exact r_zret 254 K hQ (dk_of tL_closes_1 35 rfl) zb1 (Nat.zero_le _) (Nat.zero_le _) (lfi0 hR)
                  · refine r_iconst 253 (0 : Int32) K (dk_of tL_closes_1 34 rfl) (by decide) ?_
                    exact r_zret 254 K hQ (dk_of tL_closes_1 35 rfl) zb0 (Nat.zero_le _) (Nat.zero_le _) (lfi0 hR)
                · refine r_iconst 253 (0 : Int32) K (dk_of tL_closes_1 34 rfl) (by decide) ?_
                  exact r_zret 254 K hQ (dk_of tL_closes_1 35 rfl) zb0 (Nat.zero_le _) (Nat.zero_le _) (lfi0 hR)
              · refine r_iconst 253 (0 : Int32) K (dk_of tL_closes_1 34 rfl) (by decide) ?_
                exact r_zret 254 K hQ (dk_of tL_closes_1 35 rfl) zb0 (Nat.zero_le _) (Nat.zero_le _) (lfi0 hR)
            · refine r_iconst 253 (0 : Int32) K (dk_of tL_closes_1 34 rfl) (by decide) ?_
              exact r_zret 254 K hQ (dk_of tL_closes_1 35 rfl) zb0 (Nat.zero_le _) (Nat.zero_le _) (lfi0 hR)
          · refine r_iconst 253 (0 : Int32) K (dk_of tL_closes_1 34 rfl) (by decide) ?_
            exact r_zret 254 K hQ (dk_of tL_closes_1 35 rfl) zb0 (Nat.zero_le _) (Nat.zero_le _) (lfi0 hR)
      · refine r_iload 175 7 K (dk_of tL_closes_0 95 rfl) rfl ?_
        refine r_aload_n 177 0 K (dk_of tL_closes_0 96 rfl) rfl rfl ?_
        refine r_iload 178 8 K (dk_of tL_closes_0 97 rfl) rfl ?_
        obtain ⟨x26, hc, hR⟩ := ot1 hR
        refine r_cVi 180 52 [.int y20] [.int y19] x26 (wB γ h σ ++ (wB γ g τ ++ (wS as9 (h 0) (g 0) an aq (ad 0) (ap 0) ++ (wN an (h 0) ν ++ (wR aq (h 0) ++ (wD γ ad δ ++ (wP γ ap π ++ (r)))))))) K (ct_X9_sum hl (z := .inl x26) hc.symm) cs_L_50 ⟨rfl, rfl, rfl⟩ (dk_of tL_closes_0 98 rfl) rfl rfl rfl rfl rfl rfl ?_
        refine r_iadd 183 K (dk_of tL_closes_0 99 rfl) ?_
        refine r_nmI hR (fun x27 hR => ?_)
        refine r_istore 184 7 [some (.ref as9), none, some (.int y14), some (.int y15), some (.int y16), some (.int y17), some (.int y18), some (.int x27), some (.int y20)] K (dk_of tL_closes_1 0 rfl) rfl rfl (by decide) ?_
        refine r_iinc 186 8 (y20 + 1) [some (.ref as9), none, some (.int y14), some (.int y15), some (.int y16), some (.int y17), some (.int y18), some (.int x27), some (.int (y20 + 1))] K (dk_of tL_closes_1 1 rfl) rfl rfl rfl rfl (by decide) ?_
        refine r_goto 189 168 K (dk_of tL_closes_1 2 rfl) (by decide) ?_
        exact ih168 x27 (y20 + 1) hR
  have b139 : ∀ (y7 : Int32) (y8 : Int32) (y9 : Int32) (y10 : Int32) (y11 : Int32) (n : Nat) (y12 : Int32) (y13 : Int32), some x0 = sp_L_closes_139 σ δ y7 y8 y9 y10 y11 n y12 y13 → V l γ X M (wB γ h σ ++ (wB γ g τ ++ (wS as9 (h 0) (g 0) an aq (ad 0) (ap 0) ++ (wN an (h 0) ν ++ (wR aq (h 0) ++ (wD γ ad δ ++ (wP γ ap π ++ (r)))))))) [some (.ref as9), some (.int y7), some (.int y8), some (.int y9), some (.int y10), some (.int y11), some (.int y12), some (.int y13), none] 0 0 139 [] := by
    intro y7 y8 y9 y10 y11 n
    induction n with
    | zero => intro y12 y13 hR; exact nn_ hR
    | succ n ih139 =>
      intro y12 y13 hR
      rw [sp_L_closes_139] at hR
      refine r_iload 139 7 K (dk_of tL_closes_0 77 rfl) rfl ?_
      refine r_iload_n 141 1 K (dk_of tL_closes_0 78 rfl) rfl rfl ?_
      refine r_ic_ge 142 162 K (dk_of tL_closes_0 79 rfl) (by decide) hR (fun hR => ?_) (fun hR => ?_)
      · refine r_iconst 162 (0 : Int32) K (dk_of tL_closes_0 88 rfl) (by decide) ?_
        refine r_istore 163 7 [some (.ref as9), some (.int y7), some (.int y8), some (.int y9), some (.int y10), some (.int y11), some (.int y12), some (.int (0 : Int32)), none] K (dk_of tL_closes_0 89 rfl) rfl rfl (by decide) ?_
        refine r_iconst 165 (3 : Int32) K (dk_of tL_closes_0 90 rfl) (by decide) ?_
        refine r_istore 166 8 [some (.ref as9), some (.int y7), some (.int y8), some (.int y9), some (.int y10), some (.int y11), some (.int y12), some (.int (0 : Int32)), some (.int (3 : Int32))] K (dk_of tL_closes_0 91 rfl) rfl rfl (by decide) ?_
        exact r_msk [true, false, true, true, true, true, true, true, true] [some (.ref as9), none, some (.int y8), some (.int y9), some (.int y10), some (.int y11), some (.int y12), some (.int (0 : Int32)), some (.int (3 : Int32))] rfl (b168 y8 y9 y10 y11 y12 200 (0 : Int32) (3 : Int32) hR)
      · refine r_iload 145 6 K (dk_of tL_closes_0 80 rfl) rfl ?_
        refine r_aload_n 147 0 K (dk_of tL_closes_0 81 rfl) rfl rfl ?_
        refine r_iload 148 7 K (dk_of tL_closes_0 82 rfl) rfl ?_
        obtain ⟨x28, hc, hR⟩ := ot1 hR
        refine r_cVi 150 52 [.int y13] [.int y12] x28 (wB γ h σ ++ (wB γ g τ ++ (wS as9 (h 0) (g 0) an aq (ad 0) (ap 0) ++ (wN an (h 0) ν ++ (wR aq (h 0) ++ (wD γ ad δ ++ (wP γ ap π ++ (r)))))))) K (ct_X9_shipHas hl (z := .inl x28) hc.symm) cs_L_47 ⟨rfl, rfl, rfl⟩ (dk_of tL_closes_0 83 rfl) rfl rfl rfl rfl rfl rfl ?_
        refine r_iadd 153 K (dk_of tL_closes_0 84 rfl) ?_
        refine r_nmI hR (fun x29 hR => ?_)
        refine r_istore 154 6 [some (.ref as9), some (.int y7), some (.int y8), some (.int y9), some (.int y10), some (.int y11), some (.int x29), some (.int y13), none] K (dk_of tL_closes_0 85 rfl) rfl rfl (by decide) ?_
        refine r_iinc 156 7 (y13 + 1) [some (.ref as9), some (.int y7), some (.int y8), some (.int y9), some (.int y10), some (.int y11), some (.int x29), some (.int (y13 + 1)), none] K (dk_of tL_closes_0 86 rfl) rfl rfl rfl rfl (by decide) ?_
        refine r_goto 159 139 K (dk_of tL_closes_0 87 rfl) (by decide) ?_
        exact ih139 x29 (y13 + 1) hR
  have b11 : ∀ (y1 : Int32) (y2 : Int32) (n : Nat) (y3 : Int32) (y4 : Int32) (y5 : Int32) (y6 : Int32), some x0 = sp_L_closes_11 σ δ y1 y2 n y3 y4 y5 y6 → V l γ X M (wB γ h σ ++ (wB γ g τ ++ (wS as9 (h 0) (g 0) an aq (ad 0) (ap 0) ++ (wN an (h 0) ν ++ (wR aq (h 0) ++ (wD γ ad δ ++ (wP γ ap π ++ (r)))))))) [some (.ref as9), some (.int y1), some (.int y2), some (.int y3), some (.int y4), some (.int y5), some (.int y6), none, none] 0 0 11 [] := by
    intro y1 y2 n
    induction n with
    | zero => intro y3 y4 y5 y6 hR; exact nn_ hR
    | succ n ih11 =>
      intro y3 y4 y5 y6 hR
      rw [sp_L_closes_11] at hR
      refine r_iload 11 6 K (dk_of tL_closes_0 8 rfl) rfl ?_
      refine r_bipush 13 (24 : Int32) K (dk_of tL_closes_0 9 rfl) (by decide) ?_
      refine r_ic_ge 15 133 K (dk_of tL_closes_0 10 rfl) (by decide) hR (fun hR => ?_) (fun hR => ?_)
      · refine r_iconst 133 (0 : Int32) K (dk_of tL_closes_0 73 rfl) (by decide) ?_
        refine r_istore 134 6 [some (.ref as9), some (.int y1), some (.int y2), some (.int y3), some (.int y4), some (.int y5), some (.int (0 : Int32)), none, none] K (dk_of tL_closes_0 74 rfl) rfl rfl (by decide) ?_
        refine r_iconst 136 (0 : Int32) K (dk_of tL_closes_0 75 rfl) (by decide) ?_
        refine r_istore 137 7 [some (.ref as9), some (.int y1), some (.int y2), some (.int y3), some (.int y4), some (.int y5), some (.int (0 : Int32)), some (.int (0 : Int32)), none] K (dk_of tL_closes_0 76 rfl) rfl rfl (by decide) ?_
        exact b139 y1 y2 y3 y4 y5 200 (0 : Int32) (0 : Int32) hR
      · refine r_iload_n 18 3 K (dk_of tL_closes_0 11 rfl) rfl rfl ?_
        refine r_aload_n 19 0 K (dk_of tL_closes_0 12 rfl) rfl rfl ?_
        refine r_iload 20 6 K (dk_of tL_closes_0 13 rfl) rfl ?_
        refine r_iconst 22 (0 : Int32) K (dk_of tL_closes_0 14 rfl) (by decide) ?_
        obtain ⟨x30, hc, hR⟩ := ot1 hR
        refine r_cVi 23 52 [.int y6, .int (0 : Int32)] [.int y3] x30 (wB γ h σ ++ (wB γ g τ ++ (wS as9 (h 0) (g 0) an aq (ad 0) (ap 0) ++ (wN an (h 0) ν ++ (wR aq (h 0) ++ (wD γ ad δ ++ (wP γ ap π ++ (r)))))))) K (ct_X9_at hl (z := .inl x30) hc.symm) cs_L_44 ⟨rfl, rfl, rfl⟩ (dk_of tL_closes_0 15 rfl) rfl rfl rfl rfl rfl rfl ?_
        refine r_aload_n 26 0 K (dk_of tL_closes_0 16 rfl) rfl rfl ?_
        refine r_iload 27 6 K (dk_of tL_closes_0 17 rfl) rfl ?_
        refine r_iconst 29 (1 : Int32) K (dk_of tL_closes_0 18 rfl) (by decide) ?_
        obtain ⟨x31, hc, hR⟩ := ot1 hR
        refine r_cVi 30 52 [.int y6, .int (1 : Int32)] [.int x30, .int y3] x31 (wB γ h σ ++ (wB γ g τ ++ (wS as9 (h 0) (g 0) an aq (ad 0) (ap 0) ++ (wN an (h 0) ν ++ (wR aq (h 0) ++ (wD γ ad δ ++ (wP γ ap π ++ (r)))))))) K (ct_X9_at hl (z := .inl x31) hc.symm) cs_L_44 ⟨rfl, rfl, rfl⟩ (dk_of tL_closes_0 19 rfl) rfl rfl rfl rfl rfl rfl ?_
        refine r_iadd 33 K (dk_of tL_closes_0 20 rfl) ?_
        refine r_iadd 34 K (dk_of tL_closes_0 21 rfl) ?_
        refine r_nmI hR (fun x32 hR => ?_)
        refine r_istore_n 35 3 [some (.ref as9), some (.int y1), some (.int y2), some (.int x32), some (.int y4), some (.int y5), some (.int y6), none, none] K (dk_of tL_closes_0 22 rfl) rfl rfl rfl (by decide) ?_
        refine r_iload 36 4 K (dk_of tL_closes_0 23 rfl) rfl ?_
        refine r_aload_n 38 0 K (dk_of tL_closes_0 24 rfl) rfl rfl ?_
        refine r_iload 39 6 K (dk_of tL_closes_0 25 rfl) rfl ?_
        refine r_iconst 41 (2 : Int32) K (dk_of tL_closes_0 26 rfl) (by decide) ?_
        obtain ⟨x33, hc, hR⟩ := ot1 hR
        refine r_cVi 42 52 [.int y6, .int (2 : Int32)] [.int y4] x33 (wB γ h σ ++ (wB γ g τ ++ (wS as9 (h 0) (g 0) an aq (ad 0) (ap 0) ++ (wN an (h 0) ν ++ (wR aq (h 0) ++ (wD γ ad δ ++ (wP γ ap π ++ (r)))))))) K (ct_X9_at hl (z := .inl x33) hc.symm) cs_L_44 ⟨rfl, rfl, rfl⟩ (dk_of tL_closes_0 27 rfl) rfl rfl rfl rfl rfl rfl ?_
        refine r_iadd 45 K (dk_of tL_closes_0 28 rfl) ?_
        refine r_nmI hR (fun x34 hR => ?_)
        refine r_istore 46 4 [some (.ref as9), some (.int y1), some (.int y2), some (.int x32), some (.int x34), some (.int y5), some (.int y6), none, none] K (dk_of tL_closes_0 29 rfl) rfl rfl (by decide) ?_
        refine r_iload 48 5 K (dk_of tL_closes_0 30 rfl) rfl ?_
        refine r_aload_n 50 0 K (dk_of tL_closes_0 31 rfl) rfl rfl ?_
        refine r_iload 51 6 K (dk_of tL_closes_0 32 rfl) rfl ?_
        refine r_bipush 53 (6 : Int32) K (dk_of tL_closes_0 33 rfl) (by decide) ?_
        obtain ⟨x35, hc, hR⟩ := ot1 hR
        refine r_cVi 55 52 [.int y6, .int (6 : Int32)] [.int y5] x35 (wB γ h σ ++ (wB γ g τ ++ (wS as9 (h 0) (g 0) an aq (ad 0) (ap 0) ++ (wN an (h 0) ν ++ (wR aq (h 0) ++ (wD γ ad δ ++ (wP γ ap π ++ (r)))))))) K (ct_X9_at hl (z := .inl x35) hc.symm) cs_L_44 ⟨rfl, rfl, rfl⟩ (dk_of tL_closes_0 34 rfl) rfl rfl rfl rfl rfl rfl ?_
        refine r_aload_n 58 0 K (dk_of tL_closes_0 35 rfl) rfl rfl ?_
        refine r_iload 59 6 K (dk_of tL_closes_0 36 rfl) rfl ?_
        refine r_iconst 61 (5 : Int32) K (dk_of tL_closes_0 37 rfl) (by decide) ?_
        obtain ⟨x36, hc, hR⟩ := ot1 hR
        refine r_cVi 62 52 [.int y6, .int (5 : Int32)] [.int x35, .int y5] x36 (wB γ h σ ++ (wB γ g τ ++ (wS as9 (h 0) (g 0) an aq (ad 0) (ap 0) ++ (wN an (h 0) ν ++ (wR aq (h 0) ++ (wD γ ad δ ++ (wP γ ap π ++ (r)))))))) K (ct_X9_at hl (z := .inl x36) hc.symm) cs_L_44 ⟨rfl, rfl, rfl⟩ (dk_of tL_closes_0 38 rfl) rfl rfl rfl rfl rfl rfl ?_
        refine r_ic_gt 65 123 K (dk_of tL_closes_0 39 rfl) (by decide) hR (fun hR => ?_) (fun hR => ?_)
        · refine r_iconst 123 (0 : Int32) K (dk_of tL_closes_0 68 rfl) (by decide) ?_
          refine r_iand 124 K (dk_of tL_closes_0 69 rfl) ?_
          refine r_nmI hR (fun x37 hR => ?_)
          refine r_istore 125 5 [some (.ref as9), some (.int y1), some (.int y2), some (.int x32), some (.int x34), some (.int x37), some (.int y6), none, none] K (dk_of tL_closes_0 70 rfl) rfl rfl (by decide) ?_
          refine r_iinc 127 6 (y6 + 1) [some (.ref as9), some (.int y1), some (.int y2), some (.int x32), some (.int x34), some (.int x37), some (.int (y6 + 1)), none, none] K (dk_of tL_closes_0 71 rfl) rfl rfl rfl rfl (by decide) ?_
          refine r_goto 130 11 K (dk_of tL_closes_0 72 rfl) (by decide) ?_
          exact ih11 x32 x34 x37 (y6 + 1) hR
        · refine r_aload_n 68 0 K (dk_of tL_closes_0 40 rfl) rfl rfl ?_
          refine r_iload 69 6 K (dk_of tL_closes_0 41 rfl) rfl ?_
          refine r_iconst 71 (3 : Int32) K (dk_of tL_closes_0 42 rfl) (by decide) ?_
          obtain ⟨x38, hc, hR⟩ := ot1 hR
          refine r_cVi 72 52 [.int y6, .int (3 : Int32)] [.int y5] x38 (wB γ h σ ++ (wB γ g τ ++ (wS as9 (h 0) (g 0) an aq (ad 0) (ap 0) ++ (wN an (h 0) ν ++ (wR aq (h 0) ++ (wD γ ad δ ++ (wP γ ap π ++ (r)))))))) K (ct_X9_at hl (z := .inl x38) hc.symm) cs_L_44 ⟨rfl, rfl, rfl⟩ (dk_of tL_closes_0 43 rfl) rfl rfl rfl rfl rfl rfl ?_
          refine r_if_ne 75 91 K (dk_of tL_closes_0 44 rfl) (by decide) hR (fun hR => ?_) (fun hR => ?_)
          · refine r_aload_n 78 0 K (dk_of tL_closes_0 45 rfl) rfl rfl ?_
            refine r_iload 79 6 K (dk_of tL_closes_0 46 rfl) rfl ?_
            refine r_iconst 81 (2 : Int32) K (dk_of tL_closes_0 47 rfl) (by decide) ?_
            obtain ⟨x39, hc, hR⟩ := ot1 hR
            refine r_cVi 82 52 [.int y6, .int (2 : Int32)] [.int y5] x39 (wB γ h σ ++ (wB γ g τ ++ (wS as9 (h 0) (g 0) an aq (ad 0) (ap 0) ++ (wN an (h 0) ν ++ (wR aq (h 0) ++ (wD γ ad δ ++ (wP γ ap π ++ (r)))))))) K (ct_X9_at hl (z := .inl x39) hc.symm) cs_L_44 ⟨rfl, rfl, rfl⟩ (dk_of tL_closes_0 48 rfl) rfl rfl rfl rfl rfl rfl ?_
            refine r_if_ne 85 123 K (dk_of tL_closes_0 49 rfl) (by decide) hR (fun hR => ?_) (fun hR => ?_)
            · refine r_goto 88 119 K (dk_of tL_closes_0 50 rfl) (by decide) ?_
              refine r_iconst 119 (1 : Int32) K (dk_of tL_closes_0 66 rfl) (by decide) ?_
              refine r_goto 120 124 K (dk_of tL_closes_0 67 rfl) (by decide) ?_
              refine r_iand 124 K (dk_of tL_closes_0 69 rfl) ?_
              refine r_nmI hR (fun x40 hR => ?_)
              refine r_istore 125 5 [some (.ref as9), some (.int y1), some (.int y2), some (.int x32), some (.int x34), some (.int x40), some (.int y6), none, none] K (dk_of tL_closes_0 70 rfl) rfl rfl (by decide) ?_
              refine r_iinc 127 6 (y6 + 1) [some (.ref as9), some (.int y1), some (.int y2), some (.int x32), some (.int x34), some (.int x40), some (.int (y6 + 1)), none, none] K (dk_of tL_closes_0 71 rfl) rfl rfl rfl rfl (by decide) ?_
              refine r_goto 130 11 K (dk_of tL_closes_0 72 rfl) (by decide) ?_
              exact ih11 x32 x34 x40 (y6 + 1) hR
            · refine r_iconst 123 (0 : Int32) K (dk_of tL_closes_0 68 rfl) (by decide) ?_
              refine r_iand 124 K (dk_of tL_closes_0 69 rfl) ?_
              refine r_nmI hR (fun x41 hR => ?_)
              refine r_istore 125 5 [some (.ref as9), some (.int y1), some (.int y2), some (.int x32), some (.int x34), some (.int x41), some (.int y6), none, none] K (dk_of tL_closes_0 70 rfl) rfl rfl (by decide) ?_
              refine r_iinc 127 6 (y6 + 1) [some (.ref as9), some (.int y1), some (.int y2), some (.int x32), some (.int x34), some (.int x41), some (.int (y6 + 1)), none, none] K (dk_of tL_closes_0 71 rfl) rfl rfl rfl rfl (by decide) ?_
              refine r_goto 130 11 K (dk_of tL_closes_0 72 rfl) (by decide) ?_
              exact ih11 x32 x34 x41 (y6 + 1) hR
          · refine r_aload_n 91 0 K (dk_of tL_closes_0 51 rfl) rfl rfl ?_
            refine r_iload 92 6 K (dk_of tL_closes_0 52 rfl) rfl ?_
            refine r_iconst 94 (0 : Int32) K (dk_of tL_closes_0 53 rfl) (by decide) ?_
            obtain ⟨x42, hc, hR⟩ := ot1 hR
            refine r_cVi 95 52 [.int y6, .int (0 : Int32)] [.int y5] x42 (wB γ h σ ++ (wB γ g τ ++ (wS as9 (h 0) (g 0) an aq (ad 0) (ap 0) ++ (wN an (h 0) ν ++ (wR aq (h 0) ++ (wD γ ad δ ++ (wP γ ap π ++ (r)))))))) K (ct_X9_at hl (z := .inl x42) hc.symm) cs_L_44 ⟨rfl, rfl, rfl⟩ (dk_of tL_closes_0 54 rfl) rfl rfl rfl rfl rfl rfl ?_
            refine r_aload_n 98 0 K (dk_of tL_closes_0 55 rfl) rfl rfl ?_
            refine r_iload 99 6 K (dk_of tL_closes_0 56 rfl) rfl ?_
            refine r_iconst 101 (1 : Int32) K (dk_of tL_closes_0 57 rfl) (by decide) ?_
            obtain ⟨x43, hc, hR⟩ := ot1 hR
            refine r_cVi 102 52 [.int y6, .int (1 : Int32)] [.int x42, .int y5] x43 (wB γ h σ ++ (wB γ g τ ++ (wS as9 (h 0) (g 0) an aq (ad 0) (ap 0) ++ (wN an (h 0) ν ++ (wR aq (h 0) ++ (wD γ ad δ ++ (wP γ ap π ++ (r)))))))) K (ct_X9_at hl (z := .inl x43) hc.symm) cs_L_44 ⟨rfl, rfl, rfl⟩ (dk_of tL_closes_0 58 rfl) rfl rfl rfl rfl rfl rfl ?_
            refine r_iadd 105 K (dk_of tL_closes_0 59 rfl) ?_
            refine r_if_ne 106 123 K (dk_of tL_closes_0 60 rfl) (by decide) hR (fun hR => ?_) (fun hR => ?_)
            · refine r_aload_n 109 0 K (dk_of tL_closes_0 61 rfl) rfl rfl ?_
              refine r_iload 110 6 K (dk_of tL_closes_0 62 rfl) rfl ?_
              refine r_iconst 112 (4 : Int32) K (dk_of tL_closes_0 63 rfl) (by decide) ?_
              obtain ⟨x44, hc, hR⟩ := ot1 hR
              refine r_cVi 113 52 [.int y6, .int (4 : Int32)] [.int y5] x44 (wB γ h σ ++ (wB γ g τ ++ (wS as9 (h 0) (g 0) an aq (ad 0) (ap 0) ++ (wN an (h 0) ν ++ (wR aq (h 0) ++ (wD γ ad δ ++ (wP γ ap π ++ (r)))))))) K (ct_X9_at hl (z := .inl x44) hc.symm) cs_L_44 ⟨rfl, rfl, rfl⟩ (dk_of tL_closes_0 64 rfl) rfl rfl rfl rfl rfl rfl ?_
              refine r_if_ne 116 123 K (dk_of tL_closes_0 65 rfl) (by decide) hR (fun hR => ?_) (fun hR => ?_)
              · refine r_iconst 119 (1 : Int32) K (dk_of tL_closes_0 66 rfl) (by decide) ?_
                refine r_goto 120 124 K (dk_of tL_closes_0 67 rfl) (by decide) ?_
                refine r_iand 124 K (dk_of tL_closes_0 69 rfl) ?_
                refine r_nmI hR (fun x45 hR => ?_)
                refine r_istore 125 5 [some (.ref as9), some (.int y1), some (.int y2), some (.int x32), some (.int x34), some (.int x45), some (.int y6), none, none] K (dk_of tL_closes_0 70 rfl) rfl rfl (by decide) ?_
                refine r_iinc 127 6 (y6 + 1) [some (.ref as9), some (.int y1), some (.int y2), some (.int x32), some (.int x34), some (.int x45), some (.int (y6 + 1)), none, none] K (dk_of tL_closes_0 71 rfl) rfl rfl rfl rfl (by decide) ?_
                refine r_goto 130 11 K (dk_of tL_closes_0 72 rfl) (by decide) ?_
                exact ih11 x32 x34 x45 (y6 + 1) hR
              · refine r_iconst 123 (0 : Int32) K (dk_of tL_closes_0 68 rfl) (by decide) ?_
                refine r_iand 124 K (dk_of tL_closes_0 69 rfl) ?_
                refine r_nmI hR (fun x46 hR => ?_)
                refine r_istore 125 5 [some (.ref as9), some (.int y1), some (.int y2), some (.int x32), some (.int x34), some (.int x46), some (.int y6), none, none] K (dk_of tL_closes_0 70 rfl) rfl rfl (by decide) ?_
                refine r_iinc 127 6 (y6 + 1) [some (.ref as9), some (.int y1), some (.int y2), some (.int x32), some (.int x34), some (.int x46), some (.int (y6 + 1)), none, none] K (dk_of tL_closes_0 71 rfl) rfl rfl rfl rfl (by decide) ?_
                refine r_goto 130 11 K (dk_of tL_closes_0 72 rfl) (by decide) ?_
                exact ih11 x32 x34 x46 (y6 + 1) hR
            · refine r_iconst 123 (0 : Int32) K (dk_of tL_closes_0 68 rfl) (by decide) ?_
              refine r_iand 124 K (dk_of tL_closes_0 69 rfl) ?_
              refine r_nmI hR (fun x47 hR => ?_)
              refine r_istore 125 5 [some (.ref as9), some (.int y1), some (.int y2), some (.int x32), some (.int x34), some (.int x47), some (.int y6), none, none] K (dk_of tL_closes_0 70 rfl) rfl rfl (by decide) ?_
              refine r_iinc 127 6 (y6 + 1) [some (.ref as9), some (.int y1), some (.int y2), some (.int x32), some (.int x34), some (.int x47), some (.int (y6 + 1)), none, none] K (dk_of tL_closes_0 71 rfl) rfl rfl rfl rfl (by decide) ?_
              refine r_goto 130 11 K (dk_of tL_closes_0 72 rfl) (by decide) ?_
              exact ih11 x32 x34 x47 (y6 + 1) hR
  refine r_iconst 0 (0 : Int32) K (dk_of tL_closes_0 0 rfl) (by decide) ?_
  refine r_istore_n 1 3 [some (.ref as9), some (.int p2), some (.int p3), some (.int (0 : Int32)), none, none, none, none, none] K (dk_of tL_closes_0 1 rfl) rfl rfl rfl (by decide) ?_
  refine r_iconst 2 (0 : Int32) K (dk_of tL_closes_0 2 rfl) (by decide) ?_
  refine r_istore 3 4 [some (.ref as9), some (.int p2), some (.int p3), some (.int (0 : Int32)), some (.int (0 : Int32)), none, none, none, none] K (dk_of tL_closes_0 3 rfl) rfl rfl (by decide) ?_
  refine r_iconst 5 (1 : Int32) K (dk_of tL_closes_0 4 rfl) (by decide) ?_
  refine r_istore 6 5 [some (.ref as9), some (.int p2), some (.int p3), some (.int (0 : Int32)), some (.int (0 : Int32)), some (.int (1 : Int32)), none, none, none] K (dk_of tL_closes_0 5 rfl) rfl rfl (by decide) ?_
  refine r_iconst 8 (0 : Int32) K (dk_of tL_closes_0 6 rfl) (by decide) ?_
  refine r_istore 9 6 [some (.ref as9), some (.int p2), some (.int p3), some (.int (0 : Int32)), some (.int (0 : Int32)), some (.int (1 : Int32)), some (.int (0 : Int32)), none, none] K (dk_of tL_closes_0 7 rfl) rfl rfl (by decide) ?_
  exact b11 p2 p3 200 (0 : Int32) (0 : Int32) (1 : Int32) (0 : Int32) hR
