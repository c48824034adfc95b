/-! the law -/
abbrev S7 : Type := St × St × (Nat → Int32) × St × (St × Int64) × (Nat → Int64) × St
abbrev rmL : Room := { frames := 11, cells := 1124, slots := 9915, locals := 418 }
theorem r_sldN {l : Launch} {γ : Gd} {X : CX} {M : MX} {w : va_W} {L : List (Option Value)} {cs ss : Nat} {st : List Value} {y : MethodName} {cc : ByteArray} {own : String} {nL : Nat} {rm : Room} {ret : Option FieldType} {tb : List ExceptionTableEntry} (pc : Nat) (K : KX l γ X M y cc own nL rm ret tb) {b n : Nat} {xs : Nat → Int32} {i p : Int32} (hX : va_X b n xs (ks X) (ks X).heap) (hbl : b < (ks X).heap.size) (hbA : ¬ Ax X M b) (hi : ¬ (i < 0 ∨ n ≤ i.toNatClampNeg)) (e : xs i.toNatClampNeg = p) (d : decode cc pc = .ok (.iaload, 1)) (k : V l γ X M w L cs ss (pc + 1) (.int p :: st)) : V l γ X M w L cs ss pc (.int i :: .ref b :: st) := by
  subst e
  exact fun H locs ls hP hD hS hl => va_sld K.1 K.2.1 hX hbl hbA hS hi d (k H locs ls hP hD hS hl)
def b4 {α β δ ε κ : Type} (x : Option (α × β × δ × ε)) (f : α → β → δ → ε → Option κ) : Option κ := match x with
  | some (a, b, d, e) => f a b d e
  | none => none
theorem o4 {α β δ ε κ : Type} {x : Option (α × β × δ × ε)} {f : α → β → δ → ε → Option κ} {z : κ} (h : some z = b4 x f) : ∃ a b d e, x = some (a, b, d, e) ∧ some z = f a b d e := by
  cases x with
  | none => cases h
  | some a => obtain ⟨a, b, d, e⟩ := a; exact ⟨a, b, d, e, rfl, h⟩

theorem cwx_shore : Cond.codeWith yL_shore cL_shore 5 (some .int) [(0, 10, 13, 13), (0, 10, 17, 15), (0, 10, 21, 17)] ∈ Gw := gwc in_1_2 (i := 23) rfl rfl
theorem cwx_depth : Cond.codeWith yL_depth cL_depth 5 (some .int) [(0, 10, 13, 13), (0, 10, 17, 15), (0, 10, 21, 17)] ∈ Gw := gwc in_1_5 (i := 36) rfl rfl
theorem cwx_wind : Cond.codeWith yL_wind cL_wind 5 (some .int) [(0, 10, 13, 15)] ∈ Gw := gwc in_2_0 (i := 12) rfl rfl
theorem cwx_ship : Cond.codeWith yL_ship cL_ship 5 (some .int) [(0, 10, 13, 13), (0, 10, 17, 15), (0, 10, 21, 17)] ∈ Gw := gwc in_2_0 (i := 19) rfl rfl
theorem cwx_hole : Cond.codeWith yL_hole cL_hole 5 (some .int) [(0, 10, 13, 13), (0, 10, 17, 15)] ∈ Gw := gwc in_2_0 (i := 32) rfl rfl
theorem cwx_pump : Cond.codeWith yL_pump cL_pump 6 (some .int) [(0, 12, 15, 13), (0, 12, 19, 15), (0, 12, 23, 17)] ∈ Gw := gwc in_2_0 (i := 39) rfl rfl
theorem cwx_shipHas : Cond.codeWith yL_shipHas cL_shipHas 4 (some .int) [(0, 9, 12, 13)] ∈ Gw := gwc in_2_1 (i := 8) rfl rfl
theorem cwx_pass : Cond.codeWith yL_pass cL_pass 4 (some .int) [(0, 9, 12, 15), (0, 9, 15, 17)] ∈ Gw := gwc in_2_1 (i := 15) rfl rfl
theorem cwx_at : Cond.codeWith yL_at cL_at 5 (some .int) [(0, 10, 13, 13), (0, 10, 17, 15)] ∈ Gw := gwc in_2_4 (i := 11) rfl rfl
theorem cwx_boom : Cond.codeWith yL_boom cL_boom 6 (some .int) [(0, 12, 15, 13), (0, 12, 19, 15), (0, 12, 23, 17)] ∈ Gw := gwc in_2_4 (i := 28) rfl rfl
theorem cwx_skimmer : Cond.codeWith yL_skimmer cL_skimmer 6 (some .int) [(0, 12, 15, 13), (0, 12, 19, 15), (0, 12, 23, 17)] ∈ Gw := gwc in_2_5 (i := 6) rfl rfl
theorem cwx_team : Cond.codeWith yL_team cL_team 5 (some .int) [(0, 10, 13, 15), (0, 10, 17, 17)] ∈ Gw := gwc in_2_5 (i := 13) rfl rfl
theorem cwx_move : Cond.codeWith yL_move cL_move 5 (some .int) [(0, 10, 13, 13), (0, 10, 17, 17)] ∈ Gw := gwc in_2_5 (i := 20) rfl rfl
theorem cwx_carry : Cond.codeWith yL_carry cL_carry 4 (some .int) [(0, 9, 12, 13), (0, 9, 15, 17)] ∈ Gw := gwc in_2_5 (i := 32) rfl rfl
theorem cwx_teach : Cond.codeWith yL_teach cL_teach 4 (some .int) [(0, 16, 19, 13), (0, 16, 22, 17)] ∈ Gw := gwc in_2_5 (i := 39) rfl rfl
theorem cwx_clean : Cond.codeWith yL_clean cL_clean 5 (some .int) [(0, 10, 13, 13), (0, 10, 17, 17)] ∈ Gw := gwc in_3_0 (i := 6) rfl rfl
theorem cwx_meanIs : Cond.codeWith yL_meanIs cL_meanIs 5 (some .int) [(0, 10, 13, 13), (0, 10, 17, 15)] ∈ Gw := gwc in_3_0 (i := 32) rfl rfl
theorem cwx_use : Cond.codeWith yL_use cL_use 5 (some .int) [(0, 10, 13, 13), (0, 10, 17, 15), (0, 10, 21, 17)] ∈ Gw := gwc in_3_0 (i := 39) rfl rfl
theorem cwx_why : Cond.codeWith yL_why cL_why 6 (some .int) [(0, 12, 15, 13), (0, 12, 19, 15), (0, 12, 23, 17)] ∈ Gw := gwc in_3_1 (i := 31) rfl rfl
theorem cwx_birds : Cond.codeWith yL_birds cL_birds 5 (some .int) [(0, 10, 13, 13), (0, 10, 17, 15), (0, 10, 21, 17)] ∈ Gw := gwc in_3_2 (i := 6) rfl rfl
theorem cwx_wash : Cond.codeWith yL_wash cL_wash 5 (some .int) [(0, 10, 13, 13), (0, 10, 17, 15), (0, 10, 21, 17)] ∈ Gw := gwc in_3_2 (i := 14) rfl rfl
theorem cwx_sign : Cond.codeWith yL_sign cL_sign 5 (some .int) [(0, 17, 20, 13), (0, 17, 24, 15), (0, 17, 28, 17)] ∈ Gw := gwc in_3_2 (i := 21) rfl rfl
theorem cwx_site : Cond.codeWith yL_site cL_site 5 (some .int) [(0, 10, 13, 15), (0, 10, 17, 17)] ∈ Gw := gwc in_3_2 (i := 31) rfl rfl
theorem cwx_deliver : Cond.codeWith yL_deliver cL_deliver 6 (some .int) [(0, 12, 15, 13), (0, 12, 19, 15), (0, 12, 23, 17)] ∈ Gw := gwc in_3_3 (i := 3) rfl rfl
theorem cwx_waste : Cond.codeWith yL_waste cL_waste 4 (some .int) [(0, 9, 12, 15)] ∈ Gw := gwc in_3_3 (i := 19) rfl rfl
theorem cwx_claim : Cond.codeWith yL_claim cL_claim 4 (some .int) [(0, 9, 12, 15), (0, 9, 15, 17)] ∈ Gw := gwc in_3_3 (i := 26) rfl rfl
theorem cwx_layers : Cond.codeWith yL_layers cL_layers 5 (some .int) [(0, 10, 13, 15)] ∈ Gw := gwc in_3_3 (i := 39) rfl rfl
theorem cwx_due : Cond.codeWith yL_due cL_due 5 (some .int) [(0, 10, 13, 13), (0, 10, 17, 15)] ∈ Gw := gwc in_3_4 (i := 7) rfl rfl
theorem cwx_ahead : Cond.codeWith yL_ahead cL_ahead 5 (some .int) [(0, 10, 13, 13), (0, 10, 17, 15)] ∈ Gw := gwc in_3_4 (i := 29) rfl rfl
theorem cwx_nextAnew : Cond.codeWith yL_nextAnew cL_nextAnew 4 (some .int) [(0, 9, 12, 13)] ∈ Gw := gwc in_3_5 (i := 21) rfl rfl
theorem cwx_sum : Cond.codeWith yL_sum cL_sum 4 (some .int) [(0, 9, 12, 15)] ∈ Gw := gwc in_4_0 (i := 37) rfl rfl

theorem permF (wb wt ws wn wq wd wp wu wm r : va_W) : (wb ++ (wt ++ (ws ++ (wn ++ (wq ++ (wd ++ (wp ++ (wu ++ (wm ++ (r)))))))))).Perm (wm ++ (wb ++ (wt ++ (ws ++ (wn ++ (wq ++ (wd ++ (wp ++ (wu ++ (r)))))))))) := List.Perm.trans (List.Perm.trans (List.Perm.trans (List.Perm.trans (List.Perm.trans (List.Perm.trans (List.Perm.trans (List.Perm.append_left _ (List.Perm.append_left _ (List.Perm.append_left _ (List.Perm.append_left _ (List.Perm.append_left _ (List.Perm.append_left _ (List.Perm.append_left _ (List.perm_append_comm_assoc _ _ _)))))))) (List.Perm.append_left _ (List.Perm.append_left _ (List.Perm.append_left _ (List.Perm.append_left _ (List.Perm.append_left _ (List.Perm.append_left _ (List.perm_append_comm_assoc _ _ _)))))))) (List.Perm.append_left _ (List.Perm.append_left _ (List.Perm.append_left _ (List.Perm.append_left _ (List.Perm.append_left _ (List.perm_append_comm_assoc _ _ _))))))) (List.Perm.append_left _ (List.Perm.append_left _ (List.Perm.append_left _ (List.Perm.append_left _ (List.perm_append_comm_assoc _ _ _)))))) (List.Perm.append_left _ (List.Perm.append_left _ (List.Perm.append_left _ (List.perm_append_comm_assoc _ _ _))))) (List.Perm.append_left _ (List.Perm.append_left _ (List.perm_append_comm_assoc _ _ _)))) (List.Perm.append_left _ (List.perm_append_comm_assoc _ _ _))) (List.perm_append_comm_assoc _ _ _)
theorem permB (wb wt ws wn wq wd wp wu wm r : va_W) : (wm ++ (wb ++ (wt ++ (ws ++ (wn ++ (wq ++ (wd ++ (wp ++ (wu ++ (r)))))))))).Perm (wb ++ (wt ++ (ws ++ (wn ++ (wq ++ (wd ++ (wp ++ (wu ++ (wm ++ (r)))))))))) := List.Perm.trans (List.Perm.trans (List.Perm.trans (List.Perm.trans (List.Perm.trans (List.Perm.trans (List.Perm.trans (List.perm_append_comm_assoc _ _ _) (List.Perm.append_left _ (List.perm_append_comm_assoc _ _ _))) (List.Perm.append_left _ (List.Perm.append_left _ (List.perm_append_comm_assoc _ _ _)))) (List.Perm.append_left _ (List.Perm.append_left _ (List.Perm.append_left _ (List.perm_append_comm_assoc _ _ _))))) (List.Perm.append_left _ (List.Perm.append_left _ (List.Perm.append_left _ (List.Perm.append_left _ (List.perm_append_comm_assoc _ _ _)))))) (List.Perm.append_left _ (List.Perm.append_left _ (List.Perm.append_left _ (List.Perm.append_left _ (List.Perm.append_left _ (List.perm_append_comm_assoc _ _ _))))))) (List.Perm.append_left _ (List.Perm.append_left _ (List.Perm.append_left _ (List.Perm.append_left _ (List.Perm.append_left _ (List.Perm.append_left _ (List.perm_append_comm_assoc _ _ _)))))))) (List.Perm.append_left _ (List.Perm.append_left _ (List.Perm.append_left _ (List.Perm.append_left _ (List.Perm.append_left _ (List.Perm.append_left _ (List.Perm.append_left _ (List.perm_append_comm_assoc _ _ _))))))))

def st_0 (p1 : Int32) (p2 : Int32) (σ : St) (τ : St) (ν : (Nat → Int32)) (δ : St) (π : (St × Int64)) (ω : (Nat → Int64)) (μ : St) : Option S7 := b3 (sp_L_shore p1 p2 σ ω) (fun (x1 : Int32) (σ2 : St) (ω3 : (Nat → Int64)) => b2 (sp_X10_shore p1 p2 μ) (fun (x4 : Int32) (μ5 : St) => b1 (sp_X10_thrown μ5) (fun (x6 : Int32) => if x6 = x1 then (if x1 = 0 then (if (lg_cmp (ω3 (0 : Int32).toNatClampNeg) x4.toInt64) = 0 then (some (σ2, τ, ν, δ, π, ω3, μ5)) else (none)) else (some (σ2, τ, ν, δ, π, ω3, μ5))) else (none))))
set_option maxHeartbeats 4000000 in
set_option maxRecDepth 100000 in
theorem law_0 {l : Launch} (hl : l.stackTraces = false) {γ : Gd} {h g : Nat → Nat} {as9 an aq : Nat} {ad ap : Nat → Nat} {au : Nat} {am : Nat → Nat} {r : va_W} {σ : St} {τ : St} {ν : (Nat → Int32)} {δ : St} {π : (St × Int64)} {ω : (Nat → Int64)} {μ : St} {X : CX} {M : MX} {y : MethodName} {tb : List ExceptionTableEntry} {b n : Nat} {xs : Nat → Int32} {i p1 p2 : Int32} {cs ss : Nat} (K : KX l γ X M y cL_law RL 7 rmL (some .boolean) tb) (hX : va_X b n xs (ks X) (ks X).heap) (hbl : b < (ks X).heap.size) (hbA : ¬ Ax X M b) (h1 : ¬ (i + (1 : Int32) < 0 ∨ n ≤ (i + (1 : Int32)).toNatClampNeg)) (e1 : xs (i + (1 : Int32)).toNatClampNeg = p1) (h2 : ¬ (i + (2 : Int32) < 0 ∨ n ≤ (i + (2 : Int32)).toNatClampNeg)) (e2 : xs (i + (2 : Int32)).toNatClampNeg = p2) (hcs : cs + 1 ≤ 1124) (hss : ss + 6 ≤ 9915) {z9 : S7} (hR : some z9 = st_0 p1 p2 σ τ ν δ π ω μ)
    (kk : V l γ X M (wB γ h z9.1 ++ (wB γ g z9.2.1 ++ (wS as9 (h 0) (g 0) an aq (ad 0) (ap 0) ++ (wN an (h 0) z9.2.2.1 ++ (wR aq (h 0) ++ (wD γ ad z9.2.2.2.1 ++ (wP γ ap z9.2.2.2.2.1 ++ (wO γ au z9.2.2.2.2.2.1 ++ (wM γ am z9.2.2.2.2.2.2 ++ (r)))))))))) [some (.ref b), some (.ref as9), some (.ref (am 0)), some (.ref au), some (.int i), none, none] (cs + 1) (ss + 6) 2278 []) : V l γ X M (wB γ h σ ++ (wB γ g τ ++ (wS as9 (h 0) (g 0) an aq (ad 0) (ap 0) ++ (wN an (h 0) ν ++ (wR aq (h 0) ++ (wD γ ad δ ++ (wP γ ap π ++ (wO γ au ω ++ (wM γ am μ ++ (r)))))))))) [some (.ref b), some (.ref as9), some (.ref (am 0)), some (.ref au), some (.int i), none, none] cs ss 176 [] := by
  unfold st_0 at hR
  refine r_aload_n 176 1 K (dk_of tL_law_0 25 rfl) rfl rfl ?_
  refine r_aload_n 177 0 K (dk_of tL_law_0 26 rfl) rfl rfl ?_
  refine r_iload 178 4 K (dk_of tL_law_0 27 rfl) rfl ?_
  refine r_iconst 180 (1 : Int32) K (dk_of tL_law_0 28 rfl) (by decide) ?_
  refine r_iadd 181 K (dk_of tL_law_0 29 rfl) ?_
  refine r_sldN 182 K hX hbl hbA h1 e1 (dk_of tL_law_0 30 rfl) ?_
  refine r_aload_n 183 0 K (dk_of tL_law_0 31 rfl) rfl rfl ?_
  refine r_iload 184 4 K (dk_of tL_law_0 32 rfl) rfl ?_
  refine r_iconst 186 (2 : Int32) K (dk_of tL_law_0 33 rfl) (by decide) ?_
  refine r_iadd 187 K (dk_of tL_law_0 34 rfl) ?_
  refine r_sldN 188 K hX hbl hbA h2 e2 (dk_of tL_law_0 35 rfl) ?_
  refine r_aload_n 189 3 K (dk_of tL_law_0 36 rfl) rfl rfl ?_
  obtain ⟨x1, σ2, ω3, hc, hR⟩ := o3 hR
  refine r_cSh (mc := 1) (ms := 6) (n := 4) 190 [.ref as9, .int p1, .int p2, .ref au] [] x1 (wB γ h σ2 ++ (wB γ g τ ++ (wS as9 (h 0) (g 0) an aq (ad 0) (ap 0) ++ (wN an (h 0) ν ++ (wR aq (h 0) ++ (wD γ ad δ ++ (wP γ ap π ++ (wO γ au ω3 ++ (wM γ am μ ++ (r)))))))))) K (ct_L_shore hl hc.symm) w341 w342 w0 cwx_shore (by decide +kernel) ⟨rfl, rfl, rfl⟩ (dk_of tL_law_0 37 rfl) rfl rfl rfl ⟨hcs, hss⟩ ?_
  refine r_istore 193 5 [some (.ref b), some (.ref as9), some (.ref (am 0)), some (.ref au), some (.int i), some (.int x1), none] K (dk_of tL_law_0 38 rfl) rfl rfl (by decide) ?_
  refine r_aload_n 195 2 K (dk_of tL_law_0 39 rfl) rfl rfl ?_
  refine r_aload_n 196 0 K (dk_of tL_law_0 40 rfl) rfl rfl ?_
  refine r_iload 197 4 K (dk_of tL_law_0 41 rfl) rfl ?_
  refine r_iconst 199 (1 : Int32) K (dk_of tL_law_0 42 rfl) (by decide) ?_
  refine r_iadd 200 K (dk_of tL_law_0 43 rfl) ?_
  refine r_sldN 201 K hX hbl hbA h1 e1 (dk_of tL_law_0 44 rfl) ?_
  refine r_aload_n 202 0 K (dk_of tL_law_0 45 rfl) rfl rfl ?_
  refine r_iload 203 4 K (dk_of tL_law_0 46 rfl) rfl ?_
  refine r_iconst 205 (2 : Int32) K (dk_of tL_law_0 47 rfl) (by decide) ?_
  refine r_iadd 206 K (dk_of tL_law_0 48 rfl) ?_
  refine r_sldN 207 K hX hbl hbA h2 e2 (dk_of tL_law_0 49 rfl) ?_
  obtain ⟨x4, μ5, hc, hR⟩ := o2 hR
  refine r_perm (wM γ am μ ++ (wB γ h σ2 ++ (wB γ g τ ++ (wS as9 (h 0) (g 0) an aq (ad 0) (ap 0) ++ (wN an (h 0) ν ++ (wR aq (h 0) ++ (wD γ ad δ ++ (wP γ ap π ++ (wO γ au ω3 ++ (r)))))))))) (permF _ _ _ _ _ _ _ _ _ _) 208 ?_
  refine r_cVi 208 0 [.int p1, .int p2] [] x4 (wM γ am μ5 ++ (wB γ h σ2 ++ (wB γ g τ ++ (wS as9 (h 0) (g 0) an aq (ad 0) (ap 0) ++ (wN an (h 0) ν ++ (wR aq (h 0) ++ (wD γ ad δ ++ (wP γ ap π ++ (wO γ au ω3 ++ (r)))))))))) K (ct_X10_shore hl hc.symm) cs_L_123 ⟨rfl, rfl, rfl⟩ (dk_of tL_law_0 50 rfl) rfl rfl rfl rfl rfl (bb_ hcs hss) ?_
  refine r_perm (wB γ h σ2 ++ (wB γ g τ ++ (wS as9 (h 0) (g 0) an aq (ad 0) (ap 0) ++ (wN an (h 0) ν ++ (wR aq (h 0) ++ (wD γ ad δ ++ (wP γ ap π ++ (wO γ au ω3 ++ (wM γ am μ5 ++ (r)))))))))) (permB _ _ _ _ _ _ _ _ _ _) 211 ?_
  refine r_istore 211 6 [some (.ref b), some (.ref as9), some (.ref (am 0)), some (.ref au), some (.int i), some (.int x1), some (.int x4)] K (dk_of tL_law_0 51 rfl) rfl rfl (by decide) ?_
  refine r_aload_n 213 2 K (dk_of tL_law_0 52 rfl) rfl rfl ?_
  obtain ⟨x6, hc, hR⟩ := o1 hR
  refine r_perm (wM γ am μ5 ++ (wB γ h σ2 ++ (wB γ g τ ++ (wS as9 (h 0) (g 0) an aq (ad 0) (ap 0) ++ (wN an (h 0) ν ++ (wR aq (h 0) ++ (wD γ ad δ ++ (wP γ ap π ++ (wO γ au ω3 ++ (r)))))))))) (permF _ _ _ _ _ _ _ _ _ _) 214 ?_
  refine r_cVi 214 0 [] [] x6 (wM γ am μ5 ++ (wB γ h σ2 ++ (wB γ g τ ++ (wS as9 (h 0) (g 0) an aq (ad 0) (ap 0) ++ (wN an (h 0) ν ++ (wR aq (h 0) ++ (wD γ ad δ ++ (wP γ ap π ++ (wO γ au ω3 ++ (r)))))))))) K (ct_X10_thrown hl hc.symm) cs_L_124 ⟨rfl, rfl, rfl⟩ (dk_of tL_law_0 53 rfl) rfl rfl rfl rfl rfl (bb_ hcs hss) ?_
  refine r_perm (wB γ h σ2 ++ (wB γ g τ ++ (wS as9 (h 0) (g 0) an aq (ad 0) (ap 0) ++ (wN an (h 0) ν ++ (wR aq (h 0) ++ (wD γ ad δ ++ (wP γ ap π ++ (wO γ au ω3 ++ (wM γ am μ5 ++ (r)))))))))) (permB _ _ _ _ _ _ _ _ _ _) 217 ?_
  refine r_iload 217 5 K (dk_of tL_law_0 54 rfl) rfl ?_
  refine r_ic_eq 219 224 K (dk_of tL_law_0 55 rfl) (by decide) hR (fun hR => ?_) (fun hR => ?_)
  · refine r_iload 224 5 K (dk_of tL_law_0 58 rfl) rfl ?_
    refine r_if_ne 226 241 K (dk_of tL_law_0 59 rfl) (by decide) hR (fun hR => ?_) (fun hR => ?_)
    · refine r_aload_n 229 3 K (dk_of tL_law_0 60 rfl) rfl rfl ?_
      refine r_iconst 230 (0 : Int32) K (dk_of tL_law_0 61 rfl) (by decide) ?_
      refine r_lald 231 60 K (dk_of tL_law_0 62 rfl) rfl (vpd (by decide)) ?_
      refine r_iload 232 6 K (dk_of tL_law_0 63 rfl) rfl ?_
      refine r_i2l 234 K (dk_of tL_law_0 64 rfl) ?_
      refine r_lcmp 235 K (dk_of tL_law_0 65 rfl) ?_
      refine r_if_eq 236 241 K (dk_of tL_law_0 66 rfl) (by decide) hR (fun hR => ?_) (fun hR => ?_)
      · refine r_goto 241 2278 K (dk_of tL_law_0 69 rfl) (by decide) ?_
        cases hR
        exact r_msk [true, true, true, true, true, false, false] [some (.ref b), some (.ref as9), some (.ref (am 0)), some (.ref au), some (.int i), none, none] rfl kk
      · exact nn_ hR
    · refine r_goto 241 2278 K (dk_of tL_law_0 69 rfl) (by decide) ?_
      cases hR
      exact r_msk [true, true, true, true, true, false, false] [some (.ref b), some (.ref as9), some (.ref (am 0)), some (.ref au), some (.int i), none, none] rfl kk
  · exact nn_ hR

def st_1 (p1 : Int32) (p2 : Int32) (σ : St) (τ : St) (ν : (Nat → Int32)) (δ : St) (π : (St × Int64)) (ω : (Nat → Int64)) (μ : St) : Option S7 := b3 (sp_L_depth p1 p2 σ ω) (fun (x1 : Int32) (σ2 : St) (ω3 : (Nat → Int64)) => b2 (sp_X10_depth p1 p2 μ) (fun (x4 : Int32) (μ5 : St) => b1 (sp_X10_thrown μ5) (fun (x6 : Int32) => if x6 = x1 then (if x1 = 0 then (if (lg_cmp (ω3 (0 : Int32).toNatClampNeg) x4.toInt64) = 0 then (some (σ2, τ, ν, δ, π, ω3, μ5)) else (none)) else (some (σ2, τ, ν, δ, π, ω3, μ5))) else (none))))
set_option maxHeartbeats 4000000 in
set_option maxRecDepth 100000 in
theorem law_1 {l : Launch} (hl : l.stackTraces = false) {γ : Gd} {h g : Nat → Nat} {as9 an aq : Nat} {ad ap : Nat → Nat} {au : Nat} {am : Nat → Nat} {r : va_W} {σ : St} {τ : St} {ν : (Nat → Int32)} {δ : St} {π : (St × Int64)} {ω : (Nat → Int64)} {μ : St} {X : CX} {M : MX} {y : MethodName} {tb : List ExceptionTableEntry} {b n : Nat} {xs : Nat → Int32} {i p1 p2 : Int32} {cs ss : Nat} (K : KX l γ X M y cL_law RL 7 rmL (some .boolean) tb) (hX : va_X b n xs (ks X) (ks X).heap) (hbl : b < (ks X).heap.size) (hbA : ¬ Ax X M b) (h1 : ¬ (i + (1 : Int32) < 0 ∨ n ≤ (i + (1 : Int32)).toNatClampNeg)) (e1 : xs (i + (1 : Int32)).toNatClampNeg = p1) (h2 : ¬ (i + (2 : Int32) < 0 ∨ n ≤ (i + (2 : Int32)).toNatClampNeg)) (e2 : xs (i + (2 : Int32)).toNatClampNeg = p2) (hcs : cs + 1 ≤ 1124) (hss : ss + 6 ≤ 9915) {z9 : S7} (hR : some z9 = st_1 p1 p2 σ τ ν δ π ω μ)
    (kk : V l γ X M (wB γ h z9.1 ++ (wB γ g z9.2.1 ++ (wS as9 (h 0) (g 0) an aq (ad 0) (ap 0) ++ (wN an (h 0) z9.2.2.1 ++ (wR aq (h 0) ++ (wD γ ad z9.2.2.2.1 ++ (wP γ ap z9.2.2.2.2.1 ++ (wO γ au z9.2.2.2.2.2.1 ++ (wM γ am z9.2.2.2.2.2.2 ++ (r)))))))))) [some (.ref b), some (.ref as9), some (.ref (am 0)), some (.ref au), some (.int i), none, none] (cs + 1) (ss + 6) 2278 []) : V l γ X M (wB γ h σ ++ (wB γ g τ ++ (wS as9 (h 0) (g 0) an aq (ad 0) (ap 0) ++ (wN an (h 0) ν ++ (wR aq (h 0) ++ (wD γ ad δ ++ (wP γ ap π ++ (wO γ au ω ++ (wM γ am μ ++ (r)))))))))) [some (.ref b), some (.ref as9), some (.ref (am 0)), some (.ref au), some (.int i), none, none] cs ss 244 [] := by
  unfold st_1 at hR
  refine r_aload_n 244 1 K (dk_of tL_law_0 70 rfl) rfl rfl ?_
  refine r_aload_n 245 0 K (dk_of tL_law_0 71 rfl) rfl rfl ?_
  refine r_iload 246 4 K (dk_of tL_law_0 72 rfl) rfl ?_
  refine r_iconst 248 (1 : Int32) K (dk_of tL_law_0 73 rfl) (by decide) ?_
  refine r_iadd 249 K (dk_of tL_law_0 74 rfl) ?_
  refine r_sldN 250 K hX hbl hbA h1 e1 (dk_of tL_law_0 75 rfl) ?_
  refine r_aload_n 251 0 K (dk_of tL_law_0 76 rfl) rfl rfl ?_
  refine r_iload 252 4 K (dk_of tL_law_0 77 rfl) rfl ?_
  refine r_iconst 254 (2 : Int32) K (dk_of tL_law_0 78 rfl) (by decide) ?_
  refine r_iadd 255 K (dk_of tL_law_0 79 rfl) ?_
  refine r_sldN 256 K hX hbl hbA h2 e2 (dk_of tL_law_0 80 rfl) ?_
  refine r_aload_n 257 3 K (dk_of tL_law_0 81 rfl) rfl rfl ?_
  obtain ⟨x1, σ2, ω3, hc, hR⟩ := o3 hR
  refine r_cSh (mc := 1) (ms := 6) (n := 4) 258 [.ref as9, .int p1, .int p2, .ref au] [] x1 (wB γ h σ2 ++ (wB γ g τ ++ (wS as9 (h 0) (g 0) an aq (ad 0) (ap 0) ++ (wN an (h 0) ν ++ (wR aq (h 0) ++ (wD γ ad δ ++ (wP γ ap π ++ (wO γ au ω3 ++ (wM γ am μ ++ (r)))))))))) K (ct_L_depth hl hc.symm) w474 w475 w0 cwx_depth (by decide +kernel) ⟨rfl, rfl, rfl⟩ (dk_of tL_law_0 82 rfl) rfl rfl rfl ⟨hcs, hss⟩ ?_
  refine r_istore 261 5 [some (.ref b), some (.ref as9), some (.ref (am 0)), some (.ref au), some (.int i), some (.int x1), none] K (dk_of tL_law_0 83 rfl) rfl rfl (by decide) ?_
  refine r_aload_n 263 2 K (dk_of tL_law_0 84 rfl) rfl rfl ?_
  refine r_aload_n 264 0 K (dk_of tL_law_0 85 rfl) rfl rfl ?_
  refine r_iload 265 4 K (dk_of tL_law_0 86 rfl) rfl ?_
  refine r_iconst 267 (1 : Int32) K (dk_of tL_law_0 87 rfl) (by decide) ?_
  refine r_iadd 268 K (dk_of tL_law_0 88 rfl) ?_
  refine r_sldN 269 K hX hbl hbA h1 e1 (dk_of tL_law_0 89 rfl) ?_
  refine r_aload_n 270 0 K (dk_of tL_law_0 90 rfl) rfl rfl ?_
  refine r_iload 271 4 K (dk_of tL_law_0 91 rfl) rfl ?_
  refine r_iconst 273 (2 : Int32) K (dk_of tL_law_0 92 rfl) (by decide) ?_
  refine r_iadd 274 K (dk_of tL_law_0 93 rfl) ?_
  refine r_sldN 275 K hX hbl hbA h2 e2 (dk_of tL_law_0 94 rfl) ?_
  obtain ⟨x4, μ5, hc, hR⟩ := o2 hR
  refine r_perm (wM γ am μ ++ (wB γ h σ2 ++ (wB γ g τ ++ (wS as9 (h 0) (g 0) an aq (ad 0) (ap 0) ++ (wN an (h 0) ν ++ (wR aq (h 0) ++ (wD γ ad δ ++ (wP γ ap π ++ (wO γ au ω3 ++ (r)))))))))) (permF _ _ _ _ _ _ _ _ _ _) 276 ?_
  refine r_cVi 276 0 [.int p1, .int p2] [] x4 (wM γ am μ5 ++ (wB γ h σ2 ++ (wB γ g τ ++ (wS as9 (h 0) (g 0) an aq (ad 0) (ap 0) ++ (wN an (h 0) ν ++ (wR aq (h 0) ++ (wD γ ad δ ++ (wP γ ap π ++ (wO γ au ω3 ++ (r)))))))))) K (ct_X10_depth hl hc.symm) cs_L_130 ⟨rfl, rfl, rfl⟩ (dk_of tL_law_0 95 rfl) rfl rfl rfl rfl rfl (bb_ hcs hss) ?_
  refine r_perm (wB γ h σ2 ++ (wB γ g τ ++ (wS as9 (h 0) (g 0) an aq (ad 0) (ap 0) ++ (wN an (h 0) ν ++ (wR aq (h 0) ++ (wD γ ad δ ++ (wP γ ap π ++ (wO γ au ω3 ++ (wM γ am μ5 ++ (r)))))))))) (permB _ _ _ _ _ _ _ _ _ _) 279 ?_
  refine r_istore 279 6 [some (.ref b), some (.ref as9), some (.ref (am 0)), some (.ref au), some (.int i), some (.int x1), some (.int x4)] K (dk_of tL_law_0 96 rfl) rfl rfl (by decide) ?_
  refine r_aload_n 281 2 K (dk_of tL_law_0 97 rfl) rfl rfl ?_
  obtain ⟨x6, hc, hR⟩ := o1 hR
  refine r_perm (wM γ am μ5 ++ (wB γ h σ2 ++ (wB γ g τ ++ (wS as9 (h 0) (g 0) an aq (ad 0) (ap 0) ++ (wN an (h 0) ν ++ (wR aq (h 0) ++ (wD γ ad δ ++ (wP γ ap π ++ (wO γ au ω3 ++ (r)))))))))) (permF _ _ _ _ _ _ _ _ _ _) 282 ?_
  refine r_cVi 282 0 [] [] x6 (wM γ am μ5 ++ (wB γ h σ2 ++ (wB γ g τ ++ (wS as9 (h 0) (g 0) an aq (ad 0) (ap 0) ++ (wN an (h 0) ν ++ (wR aq (h 0) ++ (wD γ ad δ ++ (wP γ ap π ++ (wO γ au ω3 ++ (r)))))))))) K (ct_X10_thrown hl hc.symm) cs_L_124 ⟨rfl, rfl, rfl⟩ (dk_of tL_law_0 98 rfl) rfl rfl rfl rfl rfl (bb_ hcs hss) ?_
  refine r_perm (wB γ h σ2 ++ (wB γ g τ ++ (wS as9 (h 0) (g 0) an aq (ad 0) (ap 0) ++ (wN an (h 0) ν ++ (wR aq (h 0) ++ (wD γ ad δ ++ (wP γ ap π ++ (wO γ au ω3 ++ (wM γ am μ5 ++ (r)))))))))) (permB _ _ _ _ _ _ _ _ _ _) 285 ?_
  refine r_iload 285 5 K (dk_of tL_law_0 99 rfl) rfl ?_
  refine r_ic_eq 287 292 K (dk_of tL_law_1 0 rfl) (by decide) hR (fun hR => ?_) (fun hR => ?_)
  · refine r_iload 292 5 K (dk_of tL_law_1 3 rfl) rfl ?_
    refine r_if_ne 294 309 K (dk_of tL_law_1 4 rfl) (by decide) hR (fun hR => ?_) (fun hR => ?_)
    · refine r_aload_n 297 3 K (dk_of tL_law_1 5 rfl) rfl rfl ?_
      refine r_iconst 298 (0 : Int32) K (dk_of tL_law_1 6 rfl) (by decide) ?_
      refine r_lald 299 60 K (dk_of tL_law_1 7 rfl) rfl (vpd (by decide)) ?_
      refine r_iload 300 6 K (dk_of tL_law_1 8 rfl) rfl ?_
      refine r_i2l 302 K (dk_of tL_law_1 9 rfl) ?_
      refine r_lcmp 303 K (dk_of tL_law_1 10 rfl) ?_
      refine r_if_eq 304 309 K (dk_of tL_law_1 11 rfl) (by decide) hR (fun hR => ?_) (fun hR => ?_)
      · refine r_goto 309 2278 K (dk_of tL_law_1 14 rfl) (by decide) ?_
        cases hR
        exact r_msk [true, true, true, true, true, false, false] [some (.ref b), some (.ref as9), some (.ref (am 0)), some (.ref au), some (.int i), none, none] rfl kk
      · exact nn_ hR
    · refine r_goto 309 2278 K (dk_of tL_law_1 14 rfl) (by decide) ?_
      cases hR
      exact r_msk [true, true, true, true, true, false, false] [some (.ref b), some (.ref as9), some (.ref (am 0)), some (.ref au), some (.int i), none, none] rfl kk
  · exact nn_ hR

def st_2 (p1 : Int32) (p2 : Int32) (σ : St) (τ : St) (ν : (Nat → Int32)) (δ : St) (π : (St × Int64)) (ω : (Nat → Int64)) (μ : St) : Option S7 := b3 (sp_L_wind p1 p2 σ ω) (fun (x1 : Int32) (σ2 : St) (ω3 : (Nat → Int64)) => b2 (sp_X10_wind p1 p2 μ) (fun (x4 : Int32) (μ5 : St) => b1 (sp_X10_thrown μ5) (fun (x6 : Int32) => if x6 = x1 then (if x1 = 0 then (if (lg_cmp (ω3 (0 : Int32).toNatClampNeg) x4.toInt64) = 0 then (some (σ2, τ, ν, δ, π, ω3, μ5)) else (none)) else (some (σ2, τ, ν, δ, π, ω3, μ5))) else (none))))
set_option maxHeartbeats 4000000 in
set_option maxRecDepth 100000 in
theorem law_2 {l : Launch} (hl : l.stackTraces = false) {γ : Gd} {h g : Nat → Nat} {as9 an aq : Nat} {ad ap : Nat → Nat} {au : Nat} {am : Nat → Nat} {r : va_W} {σ : St} {τ : St} {ν : (Nat → Int32)} {δ : St} {π : (St × Int64)} {ω : (Nat → Int64)} {μ : St} {X : CX} {M : MX} {y : MethodName} {tb : List ExceptionTableEntry} {b n : Nat} {xs : Nat → Int32} {i p1 p2 : Int32} {cs ss : Nat} (K : KX l γ X M y cL_law RL 7 rmL (some .boolean) tb) (hX : va_X b n xs (ks X) (ks X).heap) (hbl : b < (ks X).heap.size) (hbA : ¬ Ax X M b) (h1 : ¬ (i + (1 : Int32) < 0 ∨ n ≤ (i + (1 : Int32)).toNatClampNeg)) (e1 : xs (i + (1 : Int32)).toNatClampNeg = p1) (h2 : ¬ (i + (2 : Int32) < 0 ∨ n ≤ (i + (2 : Int32)).toNatClampNeg)) (e2 : xs (i + (2 : Int32)).toNatClampNeg = p2) (hcs : cs + 1 ≤ 1124) (hss : ss + 6 ≤ 9915) {z9 : S7} (hR : some z9 = st_2 p1 p2 σ τ ν δ π ω μ)
    (kk : V l γ X M (wB γ h z9.1 ++ (wB γ g z9.2.1 ++ (wS as9 (h 0) (g 0) an aq (ad 0) (ap 0) ++ (wN an (h 0) z9.2.2.1 ++ (wR aq (h 0) ++ (wD γ ad z9.2.2.2.1 ++ (wP γ ap z9.2.2.2.2.1 ++ (wO γ au z9.2.2.2.2.2.1 ++ (wM γ am z9.2.2.2.2.2.2 ++ (r)))))))))) [some (.ref b), some (.ref as9), some (.ref (am 0)), some (.ref au), some (.int i), none, none] (cs + 1) (ss + 6) 2278 []) : V l γ X M (wB γ h σ ++ (wB γ g τ ++ (wS as9 (h 0) (g 0) an aq (ad 0) (ap 0) ++ (wN an (h 0) ν ++ (wR aq (h 0) ++ (wD γ ad δ ++ (wP γ ap π ++ (wO γ au ω ++ (wM γ am μ ++ (r)))))))))) [some (.ref b), some (.ref as9), some (.ref (am 0)), some (.ref au), some (.int i), none, none] cs ss 312 [] := by
  unfold st_2 at hR
  refine r_aload_n 312 1 K (dk_of tL_law_1 15 rfl) rfl rfl ?_
  refine r_aload_n 313 0 K (dk_of tL_law_1 16 rfl) rfl rfl ?_
  refine r_iload 314 4 K (dk_of tL_law_1 17 rfl) rfl ?_
  refine r_iconst 316 (1 : Int32) K (dk_of tL_law_1 18 rfl) (by decide) ?_
  refine r_iadd 317 K (dk_of tL_law_1 19 rfl) ?_
  refine r_sldN 318 K hX hbl hbA h1 e1 (dk_of tL_law_1 20 rfl) ?_
  refine r_aload_n 319 0 K (dk_of tL_law_1 21 rfl) rfl rfl ?_
  refine r_iload 320 4 K (dk_of tL_law_1 22 rfl) rfl ?_
  refine r_iconst 322 (2 : Int32) K (dk_of tL_law_1 23 rfl) (by decide) ?_
  refine r_iadd 323 K (dk_of tL_law_1 24 rfl) ?_
  refine r_sldN 324 K hX hbl hbA h2 e2 (dk_of tL_law_1 25 rfl) ?_
  refine r_aload_n 325 3 K (dk_of tL_law_1 26 rfl) rfl rfl ?_
  obtain ⟨x1, σ2, ω3, hc, hR⟩ := o3 hR
  refine r_cSh (mc := 1) (ms := 6) (n := 4) 326 [.ref as9, .int p1, .int p2, .ref au] [] x1 (wB γ h σ2 ++ (wB γ g τ ++ (wS as9 (h 0) (g 0) an aq (ad 0) (ap 0) ++ (wN an (h 0) ν ++ (wR aq (h 0) ++ (wD γ ad δ ++ (wP γ ap π ++ (wO γ au ω3 ++ (wM γ am μ ++ (r)))))))))) K (ct_L_wind hl hc.symm) w490 w491 w0 cwx_wind (by decide +kernel) ⟨rfl, rfl, rfl⟩ (dk_of tL_law_1 27 rfl) rfl rfl rfl ⟨hcs, hss⟩ ?_
  refine r_istore 329 5 [some (.ref b), some (.ref as9), some (.ref (am 0)), some (.ref au), some (.int i), some (.int x1), none] K (dk_of tL_law_1 28 rfl) rfl rfl (by decide) ?_
  refine r_aload_n 331 2 K (dk_of tL_law_1 29 rfl) rfl rfl ?_
  refine r_aload_n 332 0 K (dk_of tL_law_1 30 rfl) rfl rfl ?_
  refine r_iload 333 4 K (dk_of tL_law_1 31 rfl) rfl ?_
  refine r_iconst 335 (1 : Int32) K (dk_of tL_law_1 32 rfl) (by decide) ?_
  refine r_iadd 336 K (dk_of tL_law_1 33 rfl) ?_
  refine r_sldN 337 K hX hbl hbA h1 e1 (dk_of tL_law_1 34 rfl) ?_
  refine r_aload_n 338 0 K (dk_of tL_law_1 35 rfl) rfl rfl ?_
  refine r_iload 339 4 K (dk_of tL_law_1 36 rfl) rfl ?_
  refine r_iconst 341 (2 : Int32) K (dk_of tL_law_1 37 rfl) (by decide) ?_
  refine r_iadd 342 K (dk_of tL_law_1 38 rfl) ?_
  refine r_sldN 343 K hX hbl hbA h2 e2 (dk_of tL_law_1 39 rfl) ?_
  obtain ⟨x4, μ5, hc, hR⟩ := o2 hR
  refine r_perm (wM γ am μ ++ (wB γ h σ2 ++ (wB γ g τ ++ (wS as9 (h 0) (g 0) an aq (ad 0) (ap 0) ++ (wN an (h 0) ν ++ (wR aq (h 0) ++ (wD γ ad δ ++ (wP γ ap π ++ (wO γ au ω3 ++ (r)))))))))) (permF _ _ _ _ _ _ _ _ _ _) 344 ?_
  refine r_cVi 344 0 [.int p1, .int p2] [] x4 (wM γ am μ5 ++ (wB γ h σ2 ++ (wB γ g τ ++ (wS as9 (h 0) (g 0) an aq (ad 0) (ap 0) ++ (wN an (h 0) ν ++ (wR aq (h 0) ++ (wD γ ad δ ++ (wP γ ap π ++ (wO γ au ω3 ++ (r)))))))))) K (ct_X10_wind hl hc.symm) cs_L_133 ⟨rfl, rfl, rfl⟩ (dk_of tL_law_1 40 rfl) rfl rfl rfl rfl rfl (bb_ hcs hss) ?_
  refine r_perm (wB γ h σ2 ++ (wB γ g τ ++ (wS as9 (h 0) (g 0) an aq (ad 0) (ap 0) ++ (wN an (h 0) ν ++ (wR aq (h 0) ++ (wD γ ad δ ++ (wP γ ap π ++ (wO γ au ω3 ++ (wM γ am μ5 ++ (r)))))))))) (permB _ _ _ _ _ _ _ _ _ _) 347 ?_
  refine r_istore 347 6 [some (.ref b), some (.ref as9), some (.ref (am 0)), some (.ref au), some (.int i), some (.int x1), some (.int x4)] K (dk_of tL_law_1 41 rfl) rfl rfl (by decide) ?_
  refine r_aload_n 349 2 K (dk_of tL_law_1 42 rfl) rfl rfl ?_
  obtain ⟨x6, hc, hR⟩ := o1 hR
  refine r_perm (wM γ am μ5 ++ (wB γ h σ2 ++ (wB γ g τ ++ (wS as9 (h 0) (g 0) an aq (ad 0) (ap 0) ++ (wN an (h 0) ν ++ (wR aq (h 0) ++ (wD γ ad δ ++ (wP γ ap π ++ (wO γ au ω3 ++ (r)))))))))) (permF _ _ _ _ _ _ _ _ _ _) 350 ?_
  refine r_cVi 350 0 [] [] x6 (wM γ am μ5 ++ (wB γ h σ2 ++ (wB γ g τ ++ (wS as9 (h 0) (g 0) an aq (ad 0) (ap 0) ++ (wN an (h 0) ν ++ (wR aq (h 0) ++ (wD γ ad δ ++ (wP γ ap π ++ (wO γ au ω3 ++ (r)))))))))) K (ct_X10_thrown hl hc.symm) cs_L_124 ⟨rfl, rfl, rfl⟩ (dk_of tL_law_1 43 rfl) rfl rfl rfl rfl rfl (bb_ hcs hss) ?_
  refine r_perm (wB γ h σ2 ++ (wB γ g τ ++ (wS as9 (h 0) (g 0) an aq (ad 0) (ap 0) ++ (wN an (h 0) ν ++ (wR aq (h 0) ++ (wD γ ad δ ++ (wP γ ap π ++ (wO γ au ω3 ++ (wM γ am μ5 ++ (r)))))))))) (permB _ _ _ _ _ _ _ _ _ _) 353 ?_
  refine r_iload 353 5 K (dk_of tL_law_1 44 rfl) rfl ?_
  refine r_ic_eq 355 360 K (dk_of tL_law_1 45 rfl) (by decide) hR (fun hR => ?_) (fun hR => ?_)
  · refine r_iload 360 5 K (dk_of tL_law_1 48 rfl) rfl ?_
    refine r_if_ne 362 377 K (dk_of tL_law_1 49 rfl) (by decide) hR (fun hR => ?_) (fun hR => ?_)
    · refine r_aload_n 365 3 K (dk_of tL_law_1 50 rfl) rfl rfl ?_
      refine r_iconst 366 (0 : Int32) K (dk_of tL_law_1 51 rfl) (by decide) ?_
      refine r_lald 367 60 K (dk_of tL_law_1 52 rfl) rfl (vpd (by decide)) ?_
      refine r_iload 368 6 K (dk_of tL_law_1 53 rfl) rfl ?_
      refine r_i2l 370 K (dk_of tL_law_1 54 rfl) ?_
      refine r_lcmp 371 K (dk_of tL_law_1 55 rfl) ?_
      refine r_if_eq 372 377 K (dk_of tL_law_1 56 rfl) (by decide) hR (fun hR => ?_) (fun hR => ?_)
      · refine r_goto 377 2278 K (dk_of tL_law_1 59 rfl) (by decide) ?_
        cases hR
        exact r_msk [true, true, true, true, true, false, false] [some (.ref b), some (.ref as9), some (.ref (am 0)), some (.ref au), some (.int i), none, none] rfl kk
      · exact nn_ hR
    · refine r_goto 377 2278 K (dk_of tL_law_1 59 rfl) (by decide) ?_
      cases hR
      exact r_msk [true, true, true, true, true, false, false] [some (.ref b), some (.ref as9), some (.ref (am 0)), some (.ref au), some (.int i), none, none] rfl kk
  · exact nn_ hR

def st_3 (p1 : Int32) (p2 : Int32) (σ : St) (τ : St) (ν : (Nat → Int32)) (δ : St) (π : (St × Int64)) (ω : (Nat → Int64)) (μ : St) : Option S7 := b3 (sp_L_ship p1 p2 σ ω) (fun (x1 : Int32) (σ2 : St) (ω3 : (Nat → Int64)) => b2 (sp_X10_ship p1 p2 μ) (fun (x4 : Int32) (μ5 : St) => b1 (sp_X10_thrown μ5) (fun (x6 : Int32) => if x6 = x1 then (if x1 = 0 then (if (lg_cmp (ω3 (0 : Int32).toNatClampNeg) x4.toInt64) = 0 then (some (σ2, τ, ν, δ, π, ω3, μ5)) else (none)) else (some (σ2, τ, ν, δ, π, ω3, μ5))) else (none))))
set_option maxHeartbeats 4000000 in
set_option maxRecDepth 100000 in
theorem law_3 {l : Launch} (hl : l.stackTraces = false) {γ : Gd} {h g : Nat → Nat} {as9 an aq : Nat} {ad ap : Nat → Nat} {au : Nat} {am : Nat → Nat} {r : va_W} {σ : St} {τ : St} {ν : (Nat → Int32)} {δ : St} {π : (St × Int64)} {ω : (Nat → Int64)} {μ : St} {X : CX} {M : MX} {y : MethodName} {tb : List ExceptionTableEntry} {b n : Nat} {xs : Nat → Int32} {i p1 p2 : Int32} {cs ss : Nat} (K : KX l γ X M y cL_law RL 7 rmL (some .boolean) tb) (hX : va_X b n xs (ks X) (ks X).heap) (hbl : b < (ks X).heap.size) (hbA : ¬ Ax X M b) (h1 : ¬ (i + (1 : Int32) < 0 ∨ n ≤ (i + (1 : Int32)).toNatClampNeg)) (e1 : xs (i + (1 : Int32)).toNatClampNeg = p1) (h2 : ¬ (i + (2 : Int32) < 0 ∨ n ≤ (i + (2 : Int32)).toNatClampNeg)) (e2 : xs (i + (2 : Int32)).toNatClampNeg = p2) (hcs : cs + 1 ≤ 1124) (hss : ss + 6 ≤ 9915) {z9 : S7} (hR : some z9 = st_3 p1 p2 σ τ ν δ π ω μ)
    (kk : V l γ X M (wB γ h z9.1 ++ (wB γ g z9.2.1 ++ (wS as9 (h 0) (g 0) an aq (ad 0) (ap 0) ++ (wN an (h 0) z9.2.2.1 ++ (wR aq (h 0) ++ (wD γ ad z9.2.2.2.1 ++ (wP γ ap z9.2.2.2.2.1 ++ (wO γ au z9.2.2.2.2.2.1 ++ (wM γ am z9.2.2.2.2.2.2 ++ (r)))))))))) [some (.ref b), some (.ref as9), some (.ref (am 0)), some (.ref au), some (.int i), none, none] (cs + 1) (ss + 6) 2278 []) : V l γ X M (wB γ h σ ++ (wB γ g τ ++ (wS as9 (h 0) (g 0) an aq (ad 0) (ap 0) ++ (wN an (h 0) ν ++ (wR aq (h 0) ++ (wD γ ad δ ++ (wP γ ap π ++ (wO γ au ω ++ (wM γ am μ ++ (r)))))))))) [some (.ref b), some (.ref as9), some (.ref (am 0)), some (.ref au), some (.int i), none, none] cs ss 380 [] := by
  unfold st_3 at hR
  refine r_aload_n 380 1 K (dk_of tL_law_1 60 rfl) rfl rfl ?_
  refine r_aload_n 381 0 K (dk_of tL_law_1 61 rfl) rfl rfl ?_
  refine r_iload 382 4 K (dk_of tL_law_1 62 rfl) rfl ?_
  refine r_iconst 384 (1 : Int32) K (dk_of tL_law_1 63 rfl) (by decide) ?_
  refine r_iadd 385 K (dk_of tL_law_1 64 rfl) ?_
  refine r_sldN 386 K hX hbl hbA h1 e1 (dk_of tL_law_1 65 rfl) ?_
  refine r_aload_n 387 0 K (dk_of tL_law_1 66 rfl) rfl rfl ?_
  refine r_iload 388 4 K (dk_of tL_law_1 67 rfl) rfl ?_
  refine r_iconst 390 (2 : Int32) K (dk_of tL_law_1 68 rfl) (by decide) ?_
  refine r_iadd 391 K (dk_of tL_law_1 69 rfl) ?_
  refine r_sldN 392 K hX hbl hbA h2 e2 (dk_of tL_law_1 70 rfl) ?_
  refine r_aload_n 393 3 K (dk_of tL_law_1 71 rfl) rfl rfl ?_
  obtain ⟨x1, σ2, ω3, hc, hR⟩ := o3 hR
  refine r_cSh (mc := 1) (ms := 6) (n := 4) 394 [.ref as9, .int p1, .int p2, .ref au] [] x1 (wB γ h σ2 ++ (wB γ g τ ++ (wS as9 (h 0) (g 0) an aq (ad 0) (ap 0) ++ (wN an (h 0) ν ++ (wR aq (h 0) ++ (wD γ ad δ ++ (wP γ ap π ++ (wO γ au ω3 ++ (wM γ am μ ++ (r)))))))))) K (ct_L_ship hl hc.symm) w497 w498 w0 cwx_ship (by decide +kernel) ⟨rfl, rfl, rfl⟩ (dk_of tL_law_1 72 rfl) rfl rfl rfl ⟨hcs, hss⟩ ?_
  refine r_istore 397 5 [some (.ref b), some (.ref as9), some (.ref (am 0)), some (.ref au), some (.int i), some (.int x1), none] K (dk_of tL_law_1 73 rfl) rfl rfl (by decide) ?_
  refine r_aload_n 399 2 K (dk_of tL_law_1 74 rfl) rfl rfl ?_
  refine r_aload_n 400 0 K (dk_of tL_law_1 75 rfl) rfl rfl ?_
  refine r_iload 401 4 K (dk_of tL_law_1 76 rfl) rfl ?_
  refine r_iconst 403 (1 : Int32) K (dk_of tL_law_1 77 rfl) (by decide) ?_
  refine r_iadd 404 K (dk_of tL_law_1 78 rfl) ?_
  refine r_sldN 405 K hX hbl hbA h1 e1 (dk_of tL_law_1 79 rfl) ?_
  refine r_aload_n 406 0 K (dk_of tL_law_1 80 rfl) rfl rfl ?_
  refine r_iload 407 4 K (dk_of tL_law_1 81 rfl) rfl ?_
  refine r_iconst 409 (2 : Int32) K (dk_of tL_law_1 82 rfl) (by decide) ?_
  refine r_iadd 410 K (dk_of tL_law_1 83 rfl) ?_
  refine r_sldN 411 K hX hbl hbA h2 e2 (dk_of tL_law_1 84 rfl) ?_
  obtain ⟨x4, μ5, hc, hR⟩ := o2 hR
  refine r_perm (wM γ am μ ++ (wB γ h σ2 ++ (wB γ g τ ++ (wS as9 (h 0) (g 0) an aq (ad 0) (ap 0) ++ (wN an (h 0) ν ++ (wR aq (h 0) ++ (wD γ ad δ ++ (wP γ ap π ++ (wO γ au ω3 ++ (r)))))))))) (permF _ _ _ _ _ _ _ _ _ _) 412 ?_
  refine r_cVi 412 0 [.int p1, .int p2] [] x4 (wM γ am μ5 ++ (wB γ h σ2 ++ (wB γ g τ ++ (wS as9 (h 0) (g 0) an aq (ad 0) (ap 0) ++ (wN an (h 0) ν ++ (wR aq (h 0) ++ (wD γ ad δ ++ (wP γ ap π ++ (wO γ au ω3 ++ (r)))))))))) K (ct_X10_ship hl hc.symm) cs_L_136 ⟨rfl, rfl, rfl⟩ (dk_of tL_law_1 85 rfl) rfl rfl rfl rfl rfl (bb_ hcs hss) ?_
  refine r_perm (wB γ h σ2 ++ (wB γ g τ ++ (wS as9 (h 0) (g 0) an aq (ad 0) (ap 0) ++ (wN an (h 0) ν ++ (wR aq (h 0) ++ (wD γ ad δ ++ (wP γ ap π ++ (wO γ au ω3 ++ (wM γ am μ5 ++ (r)))))))))) (permB _ _ _ _ _ _ _ _ _ _) 415 ?_
  refine r_istore 415 6 [some (.ref b), some (.ref as9), some (.ref (am 0)), some (.ref au), some (.int i), some (.int x1), some (.int x4)] K (dk_of tL_law_1 86 rfl) rfl rfl (by decide) ?_
  refine r_aload_n 417 2 K (dk_of tL_law_1 87 rfl) rfl rfl ?_
  obtain ⟨x6, hc, hR⟩ := o1 hR
  refine r_perm (wM γ am μ5 ++ (wB γ h σ2 ++ (wB γ g τ ++ (wS as9 (h 0) (g 0) an aq (ad 0) (ap 0) ++ (wN an (h 0) ν ++ (wR aq (h 0) ++ (wD γ ad δ ++ (wP γ ap π ++ (wO γ au ω3 ++ (r)))))))))) (permF _ _ _ _ _ _ _ _ _ _) 418 ?_
  refine r_cVi 418 0 [] [] x6 (wM γ am μ5 ++ (wB γ h σ2 ++ (wB γ g τ ++ (wS as9 (h 0) (g 0) an aq (ad 0) (ap 0) ++ (wN an (h 0) ν ++ (wR aq (h 0) ++ (wD γ ad δ ++ (wP γ ap π ++ (wO γ au ω3 ++ (r)))))))))) K (ct_X10_thrown hl hc.symm) cs_L_124 ⟨rfl, rfl, rfl⟩ (dk_of tL_law_1 88 rfl) rfl rfl rfl rfl rfl (bb_ hcs hss) ?_
  refine r_perm (wB γ h σ2 ++ (wB γ g τ ++ (wS as9 (h 0) (g 0) an aq (ad 0) (ap 0) ++ (wN an (h 0) ν ++ (wR aq (h 0) ++ (wD γ ad δ ++ (wP γ ap π ++ (wO γ au ω3 ++ (wM γ am μ5 ++ (r)))))))))) (permB _ _ _ _ _ _ _ _ _ _) 421 ?_
  refine r_iload 421 5 K (dk_of tL_law_1 89 rfl) rfl ?_
  refine r_ic_eq 423 428 K (dk_of tL_law_1 90 rfl) (by decide) hR (fun hR => ?_) (fun hR => ?_)
  · refine r_iload 428 5 K (dk_of tL_law_1 93 rfl) rfl ?_
    refine r_if_ne 430 445 K (dk_of tL_law_1 94 rfl) (by decide) hR (fun hR => ?_) (fun hR => ?_)
    · refine r_aload_n 433 3 K (dk_of tL_law_1 95 rfl) rfl rfl ?_
      refine r_iconst 434 (0 : Int32) K (dk_of tL_law_1 96 rfl) (by decide) ?_
      refine r_lald 435 60 K (dk_of tL_law_1 97 rfl) rfl (vpd (by decide)) ?_
      refine r_iload 436 6 K (dk_of tL_law_1 98 rfl) rfl ?_
      refine r_i2l 438 K (dk_of tL_law_1 99 rfl) ?_
      refine r_lcmp 439 K (dk_of tL_law_2 0 rfl) ?_
      refine r_if_eq 440 445 K (dk_of tL_law_2 1 rfl) (by decide) hR (fun hR => ?_) (fun hR => ?_)
      · refine r_goto 445 2278 K (dk_of tL_law_2 4 rfl) (by decide) ?_
        cases hR
        exact r_msk [true, true, true, true, true, false, false] [some (.ref b), some (.ref as9), some (.ref (am 0)), some (.ref au), some (.int i), none, none] rfl kk
      · exact nn_ hR
    · refine r_goto 445 2278 K (dk_of tL_law_2 4 rfl) (by decide) ?_
      cases hR
      exact r_msk [true, true, true, true, true, false, false] [some (.ref b), some (.ref as9), some (.ref (am 0)), some (.ref au), some (.int i), none, none] rfl kk
  · exact nn_ hR

def st_4 (p1 : Int32) (p2 : Int32) (σ : St) (τ : St) (ν : (Nat → Int32)) (δ : St) (π : (St × Int64)) (ω : (Nat → Int64)) (μ : St) : Option S7 := b3 (sp_L_hole p1 p2 σ ω) (fun (x1 : Int32) (σ2 : St) (ω3 : (Nat → Int64)) => b2 (sp_X10_hole p1 p2 μ) (fun (x4 : Int32) (μ5 : St) => b1 (sp_X10_thrown μ5) (fun (x6 : Int32) => if x6 = x1 then (if x1 = 0 then (if (lg_cmp (ω3 (0 : Int32).toNatClampNeg) x4.toInt64) = 0 then (some (σ2, τ, ν, δ, π, ω3, μ5)) else (none)) else (some (σ2, τ, ν, δ, π, ω3, μ5))) else (none))))
set_option maxHeartbeats 4000000 in
set_option maxRecDepth 100000 in
theorem law_4 {l : Launch} (hl : l.stackTraces = false) {γ : Gd} {h g : Nat → Nat} {as9 an aq : Nat} {ad ap : Nat → Nat} {au : Nat} {am : Nat → Nat} {r : va_W} {σ : St} {τ : St} {ν : (Nat → Int32)} {δ : St} {π : (St × Int64)} {ω : (Nat → Int64)} {μ : St} {X : CX} {M : MX} {y : MethodName} {tb : List ExceptionTableEntry} {b n : Nat} {xs : Nat → Int32} {i p1 p2 : Int32} {cs ss : Nat} (K : KX l γ X M y cL_law RL 7 rmL (some .boolean) tb) (hX : va_X b n xs (ks X) (ks X).heap) (hbl : b < (ks X).heap.size) (hbA : ¬ Ax X M b) (h1 : ¬ (i + (1 : Int32) < 0 ∨ n ≤ (i + (1 : Int32)).toNatClampNeg)) (e1 : xs (i + (1 : Int32)).toNatClampNeg = p1) (h2 : ¬ (i + (2 : Int32) < 0 ∨ n ≤ (i + (2 : Int32)).toNatClampNeg)) (e2 : xs (i + (2 : Int32)).toNatClampNeg = p2) (hcs : cs + 1 ≤ 1124) (hss : ss + 6 ≤ 9915) {z9 : S7} (hR : some z9 = st_4 p1 p2 σ τ ν δ π ω μ)
    (kk : V l γ X M (wB γ h z9.1 ++ (wB γ g z9.2.1 ++ (wS as9 (h 0) (g 0) an aq (ad 0) (ap 0) ++ (wN an (h 0) z9.2.2.1 ++ (wR aq (h 0) ++ (wD γ ad z9.2.2.2.1 ++ (wP γ ap z9.2.2.2.2.1 ++ (wO γ au z9.2.2.2.2.2.1 ++ (wM γ am z9.2.2.2.2.2.2 ++ (r)))))))))) [some (.ref b), some (.ref as9), some (.ref (am 0)), some (.ref au), some (.int i), none, none] (cs + 1) (ss + 6) 2278 []) : V l γ X M (wB γ h σ ++ (wB γ g τ ++ (wS as9 (h 0) (g 0) an aq (ad 0) (ap 0) ++ (wN an (h 0) ν ++ (wR aq (h 0) ++ (wD γ ad δ ++ (wP γ ap π ++ (wO γ au ω ++ (wM γ am μ ++ (r)))))))))) [some (.ref b), some (.ref as9), some (.ref (am 0)), some (.ref au), some (.int i), none, none] cs ss 448 [] := by
  unfold st_4 at hR
  refine r_aload_n 448 1 K (dk_of tL_law_2 5 rfl) rfl rfl ?_
  refine r_aload_n 449 0 K (dk_of tL_law_2 6 rfl) rfl rfl ?_
  refine r_iload 450 4 K (dk_of tL_law_2 7 rfl) rfl ?_
  refine r_iconst 452 (1 : Int32) K (dk_of tL_law_2 8 rfl) (by decide) ?_
  refine r_iadd 453 K (dk_of tL_law_2 9 rfl) ?_
  refine r_sldN 454 K hX hbl hbA h1 e1 (dk_of tL_law_2 10 rfl) ?_
  refine r_aload_n 455 0 K (dk_of tL_law_2 11 rfl) rfl rfl ?_
  refine r_iload 456 4 K (dk_of tL_law_2 12 rfl) rfl ?_
  refine r_iconst 458 (2 : Int32) K (dk_of tL_law_2 13 rfl) (by decide) ?_
  refine r_iadd 459 K (dk_of tL_law_2 14 rfl) ?_
  refine r_sldN 460 K hX hbl hbA h2 e2 (dk_of tL_law_2 15 rfl) ?_
  refine r_aload_n 461 3 K (dk_of tL_law_2 16 rfl) rfl rfl ?_
  obtain ⟨x1, σ2, ω3, hc, hR⟩ := o3 hR
  refine r_cSh (mc := 1) (ms := 6) (n := 4) 462 [.ref as9, .int p1, .int p2, .ref au] [] x1 (wB γ h σ2 ++ (wB γ g τ ++ (wS as9 (h 0) (g 0) an aq (ad 0) (ap 0) ++ (wN an (h 0) ν ++ (wR aq (h 0) ++ (wD γ ad δ ++ (wP γ ap π ++ (wO γ au ω3 ++ (wM γ am μ ++ (r)))))))))) K (ct_L_hole hl hc.symm) w510 w511 w0 cwx_hole (by decide +kernel) ⟨rfl, rfl, rfl⟩ (dk_of tL_law_2 17 rfl) rfl rfl rfl ⟨hcs, hss⟩ ?_
  refine r_istore 465 5 [some (.ref b), some (.ref as9), some (.ref (am 0)), some (.ref au), some (.int i), some (.int x1), none] K (dk_of tL_law_2 18 rfl) rfl rfl (by decide) ?_
  refine r_aload_n 467 2 K (dk_of tL_law_2 19 rfl) rfl rfl ?_
  refine r_aload_n 468 0 K (dk_of tL_law_2 20 rfl) rfl rfl ?_
  refine r_iload 469 4 K (dk_of tL_law_2 21 rfl) rfl ?_
  refine r_iconst 471 (1 : Int32) K (dk_of tL_law_2 22 rfl) (by decide) ?_
  refine r_iadd 472 K (dk_of tL_law_2 23 rfl) ?_
  refine r_sldN 473 K hX hbl hbA h1 e1 (dk_of tL_law_2 24 rfl) ?_
  refine r_aload_n 474 0 K (dk_of tL_law_2 25 rfl) rfl rfl ?_
  refine r_iload 475 4 K (dk_of tL_law_2 26 rfl) rfl ?_
  refine r_iconst 477 (2 : Int32) K (dk_of tL_law_2 27 rfl) (by decide) ?_
  refine r_iadd 478 K (dk_of tL_law_2 28 rfl) ?_
  refine r_sldN 479 K hX hbl hbA h2 e2 (dk_of tL_law_2 29 rfl) ?_
  obtain ⟨x4, μ5, hc, hR⟩ := o2 hR
  refine r_perm (wM γ am μ ++ (wB γ h σ2 ++ (wB γ g τ ++ (wS as9 (h 0) (g 0) an aq (ad 0) (ap 0) ++ (wN an (h 0) ν ++ (wR aq (h 0) ++ (wD γ ad δ ++ (wP γ ap π ++ (wO γ au ω3 ++ (r)))))))))) (permF _ _ _ _ _ _ _ _ _ _) 480 ?_
  refine r_cVi 480 0 [.int p1, .int p2] [] x4 (wM γ am μ5 ++ (wB γ h σ2 ++ (wB γ g τ ++ (wS as9 (h 0) (g 0) an aq (ad 0) (ap 0) ++ (wN an (h 0) ν ++ (wR aq (h 0) ++ (wD γ ad δ ++ (wP γ ap π ++ (wO γ au ω3 ++ (r)))))))))) K (ct_X10_hole hl hc.symm) cs_L_139 ⟨rfl, rfl, rfl⟩ (dk_of tL_law_2 30 rfl) rfl rfl rfl rfl rfl (bb_ hcs hss) ?_
  refine r_perm (wB γ h σ2 ++ (wB γ g τ ++ (wS as9 (h 0) (g 0) an aq (ad 0) (ap 0) ++ (wN an (h 0) ν ++ (wR aq (h 0) ++ (wD γ ad δ ++ (wP γ ap π ++ (wO γ au ω3 ++ (wM γ am μ5 ++ (r)))))))))) (permB _ _ _ _ _ _ _ _ _ _) 483 ?_
  refine r_istore 483 6 [some (.ref b), some (.ref as9), some (.ref (am 0)), some (.ref au), some (.int i), some (.int x1), some (.int x4)] K (dk_of tL_law_2 31 rfl) rfl rfl (by decide) ?_
  refine r_aload_n 485 2 K (dk_of tL_law_2 32 rfl) rfl rfl ?_
  obtain ⟨x6, hc, hR⟩ := o1 hR
  refine r_perm (wM γ am μ5 ++ (wB γ h σ2 ++ (wB γ g τ ++ (wS as9 (h 0) (g 0) an aq (ad 0) (ap 0) ++ (wN an (h 0) ν ++ (wR aq (h 0) ++ (wD γ ad δ ++ (wP γ ap π ++ (wO γ au ω3 ++ (r)))))))))) (permF _ _ _ _ _ _ _ _ _ _) 486 ?_
  refine r_cVi 486 0 [] [] x6 (wM γ am μ5 ++ (wB γ h σ2 ++ (wB γ g τ ++ (wS as9 (h 0) (g 0) an aq (ad 0) (ap 0) ++ (wN an (h 0) ν ++ (wR aq (h 0) ++ (wD γ ad δ ++ (wP γ ap π ++ (wO γ au ω3 ++ (r)))))))))) K (ct_X10_thrown hl hc.symm) cs_L_124 ⟨rfl, rfl, rfl⟩ (dk_of tL_law_2 33 rfl) rfl rfl rfl rfl rfl (bb_ hcs hss) ?_
  refine r_perm (wB γ h σ2 ++ (wB γ g τ ++ (wS as9 (h 0) (g 0) an aq (ad 0) (ap 0) ++ (wN an (h 0) ν ++ (wR aq (h 0) ++ (wD γ ad δ ++ (wP γ ap π ++ (wO γ au ω3 ++ (wM γ am μ5 ++ (r)))))))))) (permB _ _ _ _ _ _ _ _ _ _) 489 ?_
  refine r_iload 489 5 K (dk_of tL_law_2 34 rfl) rfl ?_
  refine r_ic_eq 491 496 K (dk_of tL_law_2 35 rfl) (by decide) hR (fun hR => ?_) (fun hR => ?_)
  · refine r_iload 496 5 K (dk_of tL_law_2 38 rfl) rfl ?_
    refine r_if_ne 498 513 K (dk_of tL_law_2 39 rfl) (by decide) hR (fun hR => ?_) (fun hR => ?_)
    · refine r_aload_n 501 3 K (dk_of tL_law_2 40 rfl) rfl rfl ?_
      refine r_iconst 502 (0 : Int32) K (dk_of tL_law_2 41 rfl) (by decide) ?_
      refine r_lald 503 60 K (dk_of tL_law_2 42 rfl) rfl (vpd (by decide)) ?_
      refine r_iload 504 6 K (dk_of tL_law_2 43 rfl) rfl ?_
      refine r_i2l 506 K (dk_of tL_law_2 44 rfl) ?_
      refine r_lcmp 507 K (dk_of tL_law_2 45 rfl) ?_
      refine r_if_eq 508 513 K (dk_of tL_law_2 46 rfl) (by decide) hR (fun hR => ?_) (fun hR => ?_)
      · refine r_goto 513 2278 K (dk_of tL_law_2 49 rfl) (by decide) ?_
        cases hR
        exact r_msk [true, true, true, true, true, false, false] [some (.ref b), some (.ref as9), some (.ref (am 0)), some (.ref au), some (.int i), none, none] rfl kk
      · exact nn_ hR
    · refine r_goto 513 2278 K (dk_of tL_law_2 49 rfl) (by decide) ?_
      cases hR
      exact r_msk [true, true, true, true, true, false, false] [some (.ref b), some (.ref as9), some (.ref (am 0)), some (.ref au), some (.int i), none, none] rfl kk
  · exact nn_ hR

def st_5 (p1 : Int32) (p2 : Int32) (p3 : Int32) (σ : St) (τ : St) (ν : (Nat → Int32)) (δ : St) (π : (St × Int64)) (ω : (Nat → Int64)) (μ : St) : Option S7 := b3 (sp_L_pump p1 p2 p3 σ ω) (fun (x1 : Int32) (σ2 : St) (ω3 : (Nat → Int64)) => b2 (sp_X10_pump p1 p2 p3 μ) (fun (x4 : Int32) (μ5 : St) => b1 (sp_X10_thrown μ5) (fun (x6 : Int32) => if x6 = x1 then (if x1 = 0 then (if (lg_cmp (ω3 (0 : Int32).toNatClampNeg) x4.toInt64) = 0 then (some (σ2, τ, ν, δ, π, ω3, μ5)) else (none)) else (some (σ2, τ, ν, δ, π, ω3, μ5))) else (none))))
set_option maxHeartbeats 4000000 in
set_option maxRecDepth 100000 in
theorem law_5 {l : Launch} (hl : l.stackTraces = false) {γ : Gd} {h g : Nat → Nat} {as9 an aq : Nat} {ad ap : Nat → Nat} {au : Nat} {am : Nat → Nat} {r : va_W} {σ : St} {τ : St} {ν : (Nat → Int32)} {δ : St} {π : (St × Int64)} {ω : (Nat → Int64)} {μ : St} {X : CX} {M : MX} {y : MethodName} {tb : List ExceptionTableEntry} {b n : Nat} {xs : Nat → Int32} {i p1 p2 p3 : Int32} {cs ss : Nat} (K : KX l γ X M y cL_law RL 7 rmL (some .boolean) tb) (hX : va_X b n xs (ks X) (ks X).heap) (hbl : b < (ks X).heap.size) (hbA : ¬ Ax X M b) (h1 : ¬ (i + (1 : Int32) < 0 ∨ n ≤ (i + (1 : Int32)).toNatClampNeg)) (e1 : xs (i + (1 : Int32)).toNatClampNeg = p1) (h2 : ¬ (i + (2 : Int32) < 0 ∨ n ≤ (i + (2 : Int32)).toNatClampNeg)) (e2 : xs (i + (2 : Int32)).toNatClampNeg = p2) (h3 : ¬ (i + (3 : Int32) < 0 ∨ n ≤ (i + (3 : Int32)).toNatClampNeg)) (e3 : xs (i + (3 : Int32)).toNatClampNeg = p3) (hcs : cs + 1 ≤ 1124) (hss : ss + 6 ≤ 9915) {z9 : S7} (hR : some z9 = st_5 p1 p2 p3 σ τ ν δ π ω μ)
    (kk : V l γ X M (wB γ h z9.1 ++ (wB γ g z9.2.1 ++ (wS as9 (h 0) (g 0) an aq (ad 0) (ap 0) ++ (wN an (h 0) z9.2.2.1 ++ (wR aq (h 0) ++ (wD γ ad z9.2.2.2.1 ++ (wP γ ap z9.2.2.2.2.1 ++ (wO γ au z9.2.2.2.2.2.1 ++ (wM γ am z9.2.2.2.2.2.2 ++ (r)))))))))) [some (.ref b), some (.ref as9), some (.ref (am 0)), some (.ref au), some (.int i), none, none] (cs + 1) (ss + 6) 2278 []) : V l γ X M (wB γ h σ ++ (wB γ g τ ++ (wS as9 (h 0) (g 0) an aq (ad 0) (ap 0) ++ (wN an (h 0) ν ++ (wR aq (h 0) ++ (wD γ ad δ ++ (wP γ ap π ++ (wO γ au ω ++ (wM γ am μ ++ (r)))))))))) [some (.ref b), some (.ref as9), some (.ref (am 0)), some (.ref au), some (.int i), none, none] cs ss 516 [] := by
  unfold st_5 at hR
  refine r_aload_n 516 1 K (dk_of tL_law_2 50 rfl) rfl rfl ?_
  refine r_aload_n 517 0 K (dk_of tL_law_2 51 rfl) rfl rfl ?_
  refine r_iload 518 4 K (dk_of tL_law_2 52 rfl) rfl ?_
  refine r_iconst 520 (1 : Int32) K (dk_of tL_law_2 53 rfl) (by decide) ?_
  refine r_iadd 521 K (dk_of tL_law_2 54 rfl) ?_
  refine r_sldN 522 K hX hbl hbA h1 e1 (dk_of tL_law_2 55 rfl) ?_
  refine r_aload_n 523 0 K (dk_of tL_law_2 56 rfl) rfl rfl ?_
  refine r_iload 524 4 K (dk_of tL_law_2 57 rfl) rfl ?_
  refine r_iconst 526 (2 : Int32) K (dk_of tL_law_2 58 rfl) (by decide) ?_
  refine r_iadd 527 K (dk_of tL_law_2 59 rfl) ?_
  refine r_sldN 528 K hX hbl hbA h2 e2 (dk_of tL_law_2 60 rfl) ?_
  refine r_aload_n 529 0 K (dk_of tL_law_2 61 rfl) rfl rfl ?_
  refine r_iload 530 4 K (dk_of tL_law_2 62 rfl) rfl ?_
  refine r_iconst 532 (3 : Int32) K (dk_of tL_law_2 63 rfl) (by decide) ?_
  refine r_iadd 533 K (dk_of tL_law_2 64 rfl) ?_
  refine r_sldN 534 K hX hbl hbA h3 e3 (dk_of tL_law_2 65 rfl) ?_
  refine r_aload_n 535 3 K (dk_of tL_law_2 66 rfl) rfl rfl ?_
  obtain ⟨x1, σ2, ω3, hc, hR⟩ := o3 hR
  refine r_cSh (mc := 1) (ms := 6) (n := 5) 536 [.ref as9, .int p1, .int p2, .int p3, .ref au] [] x1 (wB γ h σ2 ++ (wB γ g τ ++ (wS as9 (h 0) (g 0) an aq (ad 0) (ap 0) ++ (wN an (h 0) ν ++ (wR aq (h 0) ++ (wD γ ad δ ++ (wP γ ap π ++ (wO γ au ω3 ++ (wM γ am μ ++ (r)))))))))) K (ct_L_pump hl hc.symm) w517 w518 w0 cwx_pump (by decide +kernel) ⟨rfl, rfl, rfl⟩ (dk_of tL_law_2 67 rfl) rfl rfl rfl ⟨hcs, hss⟩ ?_
  refine r_istore 539 5 [some (.ref b), some (.ref as9), some (.ref (am 0)), some (.ref au), some (.int i), some (.int x1), none] K (dk_of tL_law_2 68 rfl) rfl rfl (by decide) ?_
  refine r_aload_n 541 2 K (dk_of tL_law_2 69 rfl) rfl rfl ?_
  refine r_aload_n 542 0 K (dk_of tL_law_2 70 rfl) rfl rfl ?_
  refine r_iload 543 4 K (dk_of tL_law_2 71 rfl) rfl ?_
  refine r_iconst 545 (1 : Int32) K (dk_of tL_law_2 72 rfl) (by decide) ?_
  refine r_iadd 546 K (dk_of tL_law_2 73 rfl) ?_
  refine r_sldN 547 K hX hbl hbA h1 e1 (dk_of tL_law_2 74 rfl) ?_
  refine r_aload_n 548 0 K (dk_of tL_law_2 75 rfl) rfl rfl ?_
  refine r_iload 549 4 K (dk_of tL_law_2 76 rfl) rfl ?_
  refine r_iconst 551 (2 : Int32) K (dk_of tL_law_2 77 rfl) (by decide) ?_
  refine r_iadd 552 K (dk_of tL_law_2 78 rfl) ?_
  refine r_sldN 553 K hX hbl hbA h2 e2 (dk_of tL_law_2 79 rfl) ?_
  refine r_aload_n 554 0 K (dk_of tL_law_2 80 rfl) rfl rfl ?_
  refine r_iload 555 4 K (dk_of tL_law_2 81 rfl) rfl ?_
  refine r_iconst 557 (3 : Int32) K (dk_of tL_law_2 82 rfl) (by decide) ?_
  refine r_iadd 558 K (dk_of tL_law_2 83 rfl) ?_
  refine r_sldN 559 K hX hbl hbA h3 e3 (dk_of tL_law_2 84 rfl) ?_
  obtain ⟨x4, μ5, hc, hR⟩ := o2 hR
  refine r_perm (wM γ am μ ++ (wB γ h σ2 ++ (wB γ g τ ++ (wS as9 (h 0) (g 0) an aq (ad 0) (ap 0) ++ (wN an (h 0) ν ++ (wR aq (h 0) ++ (wD γ ad δ ++ (wP γ ap π ++ (wO γ au ω3 ++ (r)))))))))) (permF _ _ _ _ _ _ _ _ _ _) 560 ?_
  refine r_cVi 560 0 [.int p1, .int p2, .int p3] [] x4 (wM γ am μ5 ++ (wB γ h σ2 ++ (wB γ g τ ++ (wS as9 (h 0) (g 0) an aq (ad 0) (ap 0) ++ (wN an (h 0) ν ++ (wR aq (h 0) ++ (wD γ ad δ ++ (wP γ ap π ++ (wO γ au ω3 ++ (r)))))))))) K (ct_X10_pump hl hc.symm) cs_L_143 ⟨rfl, rfl, rfl⟩ (dk_of tL_law_2 85 rfl) rfl rfl rfl rfl rfl (bb_ hcs hss) ?_
  refine r_perm (wB γ h σ2 ++ (wB γ g τ ++ (wS as9 (h 0) (g 0) an aq (ad 0) (ap 0) ++ (wN an (h 0) ν ++ (wR aq (h 0) ++ (wD γ ad δ ++ (wP γ ap π ++ (wO γ au ω3 ++ (wM γ am μ5 ++ (r)))))))))) (permB _ _ _ _ _ _ _ _ _ _) 563 ?_
  refine r_istore 563 6 [some (.ref b), some (.ref as9), some (.ref (am 0)), some (.ref au), some (.int i), some (.int x1), some (.int x4)] K (dk_of tL_law_2 86 rfl) rfl rfl (by decide) ?_
  refine r_aload_n 565 2 K (dk_of tL_law_2 87 rfl) rfl rfl ?_
  obtain ⟨x6, hc, hR⟩ := o1 hR
  refine r_perm (wM γ am μ5 ++ (wB γ h σ2 ++ (wB γ g τ ++ (wS as9 (h 0) (g 0) an aq (ad 0) (ap 0) ++ (wN an (h 0) ν ++ (wR aq (h 0) ++ (wD γ ad δ ++ (wP γ ap π ++ (wO γ au ω3 ++ (r)))))))))) (permF _ _ _ _ _ _ _ _ _ _) 566 ?_
  refine r_cVi 566 0 [] [] x6 (wM γ am μ5 ++ (wB γ h σ2 ++ (wB γ g τ ++ (wS as9 (h 0) (g 0) an aq (ad 0) (ap 0) ++ (wN an (h 0) ν ++ (wR aq (h 0) ++ (wD γ ad δ ++ (wP γ ap π ++ (wO γ au ω3 ++ (r)))))))))) K (ct_X10_thrown hl hc.symm) cs_L_124 ⟨rfl, rfl, rfl⟩ (dk_of tL_law_2 88 rfl) rfl rfl rfl rfl rfl (bb_ hcs hss) ?_
  refine r_perm (wB γ h σ2 ++ (wB γ g τ ++ (wS as9 (h 0) (g 0) an aq (ad 0) (ap 0) ++ (wN an (h 0) ν ++ (wR aq (h 0) ++ (wD γ ad δ ++ (wP γ ap π ++ (wO γ au ω3 ++ (wM γ am μ5 ++ (r)))))))))) (permB _ _ _ _ _ _ _ _ _ _) 569 ?_
  refine r_iload 569 5 K (dk_of tL_law_2 89 rfl) rfl ?_
  refine r_ic_eq 571 576 K (dk_of tL_law_2 90 rfl) (by decide) hR (fun hR => ?_) (fun hR => ?_)
  · refine r_iload 576 5 K (dk_of tL_law_2 93 rfl) rfl ?_
    refine r_if_ne 578 593 K (dk_of tL_law_2 94 rfl) (by decide) hR (fun hR => ?_) (fun hR => ?_)
    · refine r_aload_n 581 3 K (dk_of tL_law_2 95 rfl) rfl rfl ?_
      refine r_iconst 582 (0 : Int32) K (dk_of tL_law_2 96 rfl) (by decide) ?_
      refine r_lald 583 60 K (dk_of tL_law_2 97 rfl) rfl (vpd (by decide)) ?_
      refine r_iload 584 6 K (dk_of tL_law_2 98 rfl) rfl ?_
      refine r_i2l 586 K (dk_of tL_law_2 99 rfl) ?_
      refine r_lcmp 587 K (dk_of tL_law_3 0 rfl) ?_
      refine r_if_eq 588 593 K (dk_of tL_law_3 1 rfl) (by decide) hR (fun hR => ?_) (fun hR => ?_)
      · refine r_goto 593 2278 K (dk_of tL_law_3 4 rfl) (by decide) ?_
        cases hR
        exact r_msk [true, true, true, true, true, false, false] [some (.ref b), some (.ref as9), some (.ref (am 0)), some (.ref au), some (.int i), none, none] rfl kk
      · exact nn_ hR
    · refine r_goto 593 2278 K (dk_of tL_law_3 4 rfl) (by decide) ?_
      cases hR
      exact r_msk [true, true, true, true, true, false, false] [some (.ref b), some (.ref as9), some (.ref (am 0)), some (.ref au), some (.int i), none, none] rfl kk
  · exact nn_ hR

def st_6 (p1 : Int32) (σ : St) (τ : St) (ν : (Nat → Int32)) (δ : St) (π : (St × Int64)) (ω : (Nat → Int64)) (μ : St) : Option S7 := b2 (sp_L_shipHas p1 σ ω) (fun (x1 : Int32) (ω2 : (Nat → Int64)) => b2 (sp_X10_shipHas p1 μ) (fun (x3 : Int32) (μ4 : St) => b1 (sp_X10_thrown μ4) (fun (x5 : Int32) => if x5 = x1 then (if x1 = 0 then (if (lg_cmp (ω2 (0 : Int32).toNatClampNeg) x3.toInt64) = 0 then (some (σ, τ, ν, δ, π, ω2, μ4)) else (none)) else (some (σ, τ, ν, δ, π, ω2, μ4))) else (none))))
set_option maxHeartbeats 4000000 in
set_option maxRecDepth 100000 in
theorem law_6 {l : Launch} (hl : l.stackTraces = false) {γ : Gd} {h g : Nat → Nat} {as9 an aq : Nat} {ad ap : Nat → Nat} {au : Nat} {am : Nat → Nat} {r : va_W} {σ : St} {τ : St} {ν : (Nat → Int32)} {δ : St} {π : (St × Int64)} {ω : (Nat → Int64)} {μ : St} {X : CX} {M : MX} {y : MethodName} {tb : List ExceptionTableEntry} {b n : Nat} {xs : Nat → Int32} {i p1 : Int32} {cs ss : Nat} (K : KX l γ X M y cL_law RL 7 rmL (some .boolean) tb) (hX : va_X b n xs (ks X) (ks X).heap) (hbl : b < (ks X).heap.size) (hbA : ¬ Ax X M b) (h1 : ¬ (i + (1 : Int32) < 0 ∨ n ≤ (i + (1 : Int32)).toNatClampNeg)) (e1 : xs (i + (1 : Int32)).toNatClampNeg = p1) (hcs : cs + 1 ≤ 1124) (hss : ss + 6 ≤ 9915) {z9 : S7} (hR : some z9 = st_6 p1 σ τ ν δ π ω μ)
    (kk : V l γ X M (wB γ h z9.1 ++ (wB γ g z9.2.1 ++ (wS as9 (h 0) (g 0) an aq (ad 0) (ap 0) ++ (wN an (h 0) z9.2.2.1 ++ (wR aq (h 0) ++ (wD γ ad z9.2.2.2.1 ++ (wP γ ap z9.2.2.2.2.1 ++ (wO γ au z9.2.2.2.2.2.1 ++ (wM γ am z9.2.2.2.2.2.2 ++ (r)))))))))) [some (.ref b), some (.ref as9), some (.ref (am 0)), some (.ref au), some (.int i), none, none] (cs + 1) (ss + 6) 2278 []) : V l γ X M (wB γ h σ ++ (wB γ g τ ++ (wS as9 (h 0) (g 0) an aq (ad 0) (ap 0) ++ (wN an (h 0) ν ++ (wR aq (h 0) ++ (wD γ ad δ ++ (wP γ ap π ++ (wO γ au ω ++ (wM γ am μ ++ (r)))))))))) [some (.ref b), some (.ref as9), some (.ref (am 0)), some (.ref au), some (.int i), none, none] cs ss 596 [] := by
  unfold st_6 at hR
  refine r_aload_n 596 1 K (dk_of tL_law_3 5 rfl) rfl rfl ?_
  refine r_aload_n 597 0 K (dk_of tL_law_3 6 rfl) rfl rfl ?_
  refine r_iload 598 4 K (dk_of tL_law_3 7 rfl) rfl ?_
  refine r_iconst 600 (1 : Int32) K (dk_of tL_law_3 8 rfl) (by decide) ?_
  refine r_iadd 601 K (dk_of tL_law_3 9 rfl) ?_
  refine r_sldN 602 K hX hbl hbA h1 e1 (dk_of tL_law_3 10 rfl) ?_
  refine r_aload_n 603 3 K (dk_of tL_law_3 11 rfl) rfl rfl ?_
  obtain ⟨x1, ω2, hc, hR⟩ := o2 hR
  refine r_cSh (mc := 1) (ms := 6) (n := 3) 604 [.ref as9, .int p1, .ref au] [] x1 (wB γ h σ ++ (wB γ g τ ++ (wS as9 (h 0) (g 0) an aq (ad 0) (ap 0) ++ (wN an (h 0) ν ++ (wR aq (h 0) ++ (wD γ ad δ ++ (wP γ ap π ++ (wO γ au ω2 ++ (wM γ am μ ++ (r)))))))))) K (ct_L_shipHas hl hc.symm) w526 w527 w0 cwx_shipHas (by decide +kernel) ⟨rfl, rfl, rfl⟩ (dk_of tL_law_3 12 rfl) rfl rfl rfl ⟨hcs, hss⟩ ?_
  refine r_istore 607 5 [some (.ref b), some (.ref as9), some (.ref (am 0)), some (.ref au), some (.int i), some (.int x1), none] K (dk_of tL_law_3 13 rfl) rfl rfl (by decide) ?_
  refine r_aload_n 609 2 K (dk_of tL_law_3 14 rfl) rfl rfl ?_
  refine r_aload_n 610 0 K (dk_of tL_law_3 15 rfl) rfl rfl ?_
  refine r_iload 611 4 K (dk_of tL_law_3 16 rfl) rfl ?_
  refine r_iconst 613 (1 : Int32) K (dk_of tL_law_3 17 rfl) (by decide) ?_
  refine r_iadd 614 K (dk_of tL_law_3 18 rfl) ?_
  refine r_sldN 615 K hX hbl hbA h1 e1 (dk_of tL_law_3 19 rfl) ?_
  obtain ⟨x3, μ4, hc, hR⟩ := o2 hR
  refine r_perm (wM γ am μ ++ (wB γ h σ ++ (wB γ g τ ++ (wS as9 (h 0) (g 0) an aq (ad 0) (ap 0) ++ (wN an (h 0) ν ++ (wR aq (h 0) ++ (wD γ ad δ ++ (wP γ ap π ++ (wO γ au ω2 ++ (r)))))))))) (permF _ _ _ _ _ _ _ _ _ _) 616 ?_
  refine r_cVi 616 0 [.int p1] [] x3 (wM γ am μ4 ++ (wB γ h σ ++ (wB γ g τ ++ (wS as9 (h 0) (g 0) an aq (ad 0) (ap 0) ++ (wN an (h 0) ν ++ (wR aq (h 0) ++ (wD γ ad δ ++ (wP γ ap π ++ (wO γ au ω2 ++ (r)))))))))) K (ct_X10_shipHas hl hc.symm) cs_L_147 ⟨rfl, rfl, rfl⟩ (dk_of tL_law_3 20 rfl) rfl rfl rfl rfl rfl (bb_ hcs hss) ?_
  refine r_perm (wB γ h σ ++ (wB γ g τ ++ (wS as9 (h 0) (g 0) an aq (ad 0) (ap 0) ++ (wN an (h 0) ν ++ (wR aq (h 0) ++ (wD γ ad δ ++ (wP γ ap π ++ (wO γ au ω2 ++ (wM γ am μ4 ++ (r)))))))))) (permB _ _ _ _ _ _ _ _ _ _) 619 ?_
  refine r_istore 619 6 [some (.ref b), some (.ref as9), some (.ref (am 0)), some (.ref au), some (.int i), some (.int x1), some (.int x3)] K (dk_of tL_law_3 21 rfl) rfl rfl (by decide) ?_
  refine r_aload_n 621 2 K (dk_of tL_law_3 22 rfl) rfl rfl ?_
  obtain ⟨x5, hc, hR⟩ := o1 hR
  refine r_perm (wM γ am μ4 ++ (wB γ h σ ++ (wB γ g τ ++ (wS as9 (h 0) (g 0) an aq (ad 0) (ap 0) ++ (wN an (h 0) ν ++ (wR aq (h 0) ++ (wD γ ad δ ++ (wP γ ap π ++ (wO γ au ω2 ++ (r)))))))))) (permF _ _ _ _ _ _ _ _ _ _) 622 ?_
  refine r_cVi 622 0 [] [] x5 (wM γ am μ4 ++ (wB γ h σ ++ (wB γ g τ ++ (wS as9 (h 0) (g 0) an aq (ad 0) (ap 0) ++ (wN an (h 0) ν ++ (wR aq (h 0) ++ (wD γ ad δ ++ (wP γ ap π ++ (wO γ au ω2 ++ (r)))))))))) K (ct_X10_thrown hl hc.symm) cs_L_124 ⟨rfl, rfl, rfl⟩ (dk_of tL_law_3 23 rfl) rfl rfl rfl rfl rfl (bb_ hcs hss) ?_
  refine r_perm (wB γ h σ ++ (wB γ g τ ++ (wS as9 (h 0) (g 0) an aq (ad 0) (ap 0) ++ (wN an (h 0) ν ++ (wR aq (h 0) ++ (wD γ ad δ ++ (wP γ ap π ++ (wO γ au ω2 ++ (wM γ am μ4 ++ (r)))))))))) (permB _ _ _ _ _ _ _ _ _ _) 625 ?_
  refine r_iload 625 5 K (dk_of tL_law_3 24 rfl) rfl ?_
  refine r_ic_eq 627 632 K (dk_of tL_law_3 25 rfl) (by decide) hR (fun hR => ?_) (fun hR => ?_)
  · refine r_iload 632 5 K (dk_of tL_law_3 28 rfl) rfl ?_
    refine r_if_ne 634 649 K (dk_of tL_law_3 29 rfl) (by decide) hR (fun hR => ?_) (fun hR => ?_)
    · refine r_aload_n 637 3 K (dk_of tL_law_3 30 rfl) rfl rfl ?_
      refine r_iconst 638 (0 : Int32) K (dk_of tL_law_3 31 rfl) (by decide) ?_
      refine r_lald 639 60 K (dk_of tL_law_3 32 rfl) rfl (vpd (by decide)) ?_
      refine r_iload 640 6 K (dk_of tL_law_3 33 rfl) rfl ?_
      refine r_i2l 642 K (dk_of tL_law_3 34 rfl) ?_
      refine r_lcmp 643 K (dk_of tL_law_3 35 rfl) ?_
      refine r_if_eq 644 649 K (dk_of tL_law_3 36 rfl) (by decide) hR (fun hR => ?_) (fun hR => ?_)
      · refine r_goto 649 2278 K (dk_of tL_law_3 39 rfl) (by decide) ?_
        cases hR
        exact r_msk [true, true, true, true, true, false, false] [some (.ref b), some (.ref as9), some (.ref (am 0)), some (.ref au), some (.int i), none, none] rfl kk
      · exact nn_ hR
    · refine r_goto 649 2278 K (dk_of tL_law_3 39 rfl) (by decide) ?_
      cases hR
      exact r_msk [true, true, true, true, true, false, false] [some (.ref b), some (.ref as9), some (.ref (am 0)), some (.ref au), some (.int i), none, none] rfl kk
  · exact nn_ hR

def st_7 (p1 : Int32) (σ : St) (τ : St) (ν : (Nat → Int32)) (δ : St) (π : (St × Int64)) (ω : (Nat → Int64)) (μ : St) : Option S7 := b3 (sp_L_pass p1 σ ω) (fun (x1 : Int32) (σ2 : St) (ω3 : (Nat → Int64)) => b2 (sp_X10_pass p1 μ) (fun (x4 : Int32) (μ5 : St) => b1 (sp_X10_thrown μ5) (fun (x6 : Int32) => if x6 = x1 then (if x1 = 0 then (if (lg_cmp (ω3 (0 : Int32).toNatClampNeg) x4.toInt64) = 0 then (some (σ2, τ, ν, δ, π, ω3, μ5)) else (none)) else (some (σ2, τ, ν, δ, π, ω3, μ5))) else (none))))
set_option maxHeartbeats 4000000 in
set_option maxRecDepth 100000 in
theorem law_7 {l : Launch} (hl : l.stackTraces = false) {γ : Gd} {h g : Nat → Nat} {as9 an aq : Nat} {ad ap : Nat → Nat} {au : Nat} {am : Nat → Nat} {r : va_W} {σ : St} {τ : St} {ν : (Nat → Int32)} {δ : St} {π : (St × Int64)} {ω : (Nat → Int64)} {μ : St} {X : CX} {M : MX} {y : MethodName} {tb : List ExceptionTableEntry} {b n : Nat} {xs : Nat → Int32} {i p1 : Int32} {cs ss : Nat} (K : KX l γ X M y cL_law RL 7 rmL (some .boolean) tb) (hX : va_X b n xs (ks X) (ks X).heap) (hbl : b < (ks X).heap.size) (hbA : ¬ Ax X M b) (h1 : ¬ (i + (1 : Int32) < 0 ∨ n ≤ (i + (1 : Int32)).toNatClampNeg)) (e1 : xs (i + (1 : Int32)).toNatClampNeg = p1) (hcs : cs + 1 ≤ 1124) (hss : ss + 6 ≤ 9915) {z9 : S7} (hR : some z9 = st_7 p1 σ τ ν δ π ω μ)
    (kk : V l γ X M (wB γ h z9.1 ++ (wB γ g z9.2.1 ++ (wS as9 (h 0) (g 0) an aq (ad 0) (ap 0) ++ (wN an (h 0) z9.2.2.1 ++ (wR aq (h 0) ++ (wD γ ad z9.2.2.2.1 ++ (wP γ ap z9.2.2.2.2.1 ++ (wO γ au z9.2.2.2.2.2.1 ++ (wM γ am z9.2.2.2.2.2.2 ++ (r)))))))))) [some (.ref b), some (.ref as9), some (.ref (am 0)), some (.ref au), some (.int i), none, none] (cs + 1) (ss + 6) 2278 []) : V l γ X M (wB γ h σ ++ (wB γ g τ ++ (wS as9 (h 0) (g 0) an aq (ad 0) (ap 0) ++ (wN an (h 0) ν ++ (wR aq (h 0) ++ (wD γ ad δ ++ (wP γ ap π ++ (wO γ au ω ++ (wM γ am μ ++ (r)))))))))) [some (.ref b), some (.ref as9), some (.ref (am 0)), some (.ref au), some (.int i), none, none] cs ss 652 [] := by
  unfold st_7 at hR
  refine r_aload_n 652 1 K (dk_of tL_law_3 40 rfl) rfl rfl ?_
  refine r_aload_n 653 0 K (dk_of tL_law_3 41 rfl) rfl rfl ?_
  refine r_iload 654 4 K (dk_of tL_law_3 42 rfl) rfl ?_
  refine r_iconst 656 (1 : Int32) K (dk_of tL_law_3 43 rfl) (by decide) ?_
  refine r_iadd 657 K (dk_of tL_law_3 44 rfl) ?_
  refine r_sldN 658 K hX hbl hbA h1 e1 (dk_of tL_law_3 45 rfl) ?_
  refine r_aload_n 659 3 K (dk_of tL_law_3 46 rfl) rfl rfl ?_
  obtain ⟨x1, σ2, ω3, hc, hR⟩ := o3 hR
  refine r_cSh (mc := 1) (ms := 6) (n := 3) 660 [.ref as9, .int p1, .ref au] [] x1 (wB γ h σ2 ++ (wB γ g τ ++ (wS as9 (h 0) (g 0) an aq (ad 0) (ap 0) ++ (wN an (h 0) ν ++ (wR aq (h 0) ++ (wD γ ad δ ++ (wP γ ap π ++ (wO γ au ω3 ++ (wM γ am μ ++ (r)))))))))) K (ct_L_pass hl hc.symm) w533 w534 w0 cwx_pass (by decide +kernel) ⟨rfl, rfl, rfl⟩ (dk_of tL_law_3 47 rfl) rfl rfl rfl ⟨hcs, hss⟩ ?_
  refine r_istore 663 5 [some (.ref b), some (.ref as9), some (.ref (am 0)), some (.ref au), some (.int i), some (.int x1), none] K (dk_of tL_law_3 48 rfl) rfl rfl (by decide) ?_
  refine r_aload_n 665 2 K (dk_of tL_law_3 49 rfl) rfl rfl ?_
  refine r_aload_n 666 0 K (dk_of tL_law_3 50 rfl) rfl rfl ?_
  refine r_iload 667 4 K (dk_of tL_law_3 51 rfl) rfl ?_
  refine r_iconst 669 (1 : Int32) K (dk_of tL_law_3 52 rfl) (by decide) ?_
  refine r_iadd 670 K (dk_of tL_law_3 53 rfl) ?_
  refine r_sldN 671 K hX hbl hbA h1 e1 (dk_of tL_law_3 54 rfl) ?_
  obtain ⟨x4, μ5, hc, hR⟩ := o2 hR
  refine r_perm (wM γ am μ ++ (wB γ h σ2 ++ (wB γ g τ ++ (wS as9 (h 0) (g 0) an aq (ad 0) (ap 0) ++ (wN an (h 0) ν ++ (wR aq (h 0) ++ (wD γ ad δ ++ (wP γ ap π ++ (wO γ au ω3 ++ (r)))))))))) (permF _ _ _ _ _ _ _ _ _ _) 672 ?_
  refine r_cVi 672 0 [.int p1] [] x4 (wM γ am μ5 ++ (wB γ h σ2 ++ (wB γ g τ ++ (wS as9 (h 0) (g 0) an aq (ad 0) (ap 0) ++ (wN an (h 0) ν ++ (wR aq (h 0) ++ (wD γ ad δ ++ (wP γ ap π ++ (wO γ au ω3 ++ (r)))))))))) K (ct_X10_pass hl hc.symm) cs_L_150 ⟨rfl, rfl, rfl⟩ (dk_of tL_law_3 55 rfl) rfl rfl rfl rfl rfl (bb_ hcs hss) ?_
  refine r_perm (wB γ h σ2 ++ (wB γ g τ ++ (wS as9 (h 0) (g 0) an aq (ad 0) (ap 0) ++ (wN an (h 0) ν ++ (wR aq (h 0) ++ (wD γ ad δ ++ (wP γ ap π ++ (wO γ au ω3 ++ (wM γ am μ5 ++ (r)))))))))) (permB _ _ _ _ _ _ _ _ _ _) 675 ?_
  refine r_istore 675 6 [some (.ref b), some (.ref as9), some (.ref (am 0)), some (.ref au), some (.int i), some (.int x1), some (.int x4)] K (dk_of tL_law_3 56 rfl) rfl rfl (by decide) ?_
  refine r_aload_n 677 2 K (dk_of tL_law_3 57 rfl) rfl rfl ?_
  obtain ⟨x6, hc, hR⟩ := o1 hR
  refine r_perm (wM γ am μ5 ++ (wB γ h σ2 ++ (wB γ g τ ++ (wS as9 (h 0) (g 0) an aq (ad 0) (ap 0) ++ (wN an (h 0) ν ++ (wR aq (h 0) ++ (wD γ ad δ ++ (wP γ ap π ++ (wO γ au ω3 ++ (r)))))))))) (permF _ _ _ _ _ _ _ _ _ _) 678 ?_
  refine r_cVi 678 0 [] [] x6 (wM γ am μ5 ++ (wB γ h σ2 ++ (wB γ g τ ++ (wS as9 (h 0) (g 0) an aq (ad 0) (ap 0) ++ (wN an (h 0) ν ++ (wR aq (h 0) ++ (wD γ ad δ ++ (wP γ ap π ++ (wO γ au ω3 ++ (r)))))))))) K (ct_X10_thrown hl hc.symm) cs_L_124 ⟨rfl, rfl, rfl⟩ (dk_of tL_law_3 58 rfl) rfl rfl rfl rfl rfl (bb_ hcs hss) ?_
  refine r_perm (wB γ h σ2 ++ (wB γ g τ ++ (wS as9 (h 0) (g 0) an aq (ad 0) (ap 0) ++ (wN an (h 0) ν ++ (wR aq (h 0) ++ (wD γ ad δ ++ (wP γ ap π ++ (wO γ au ω3 ++ (wM γ am μ5 ++ (r)))))))))) (permB _ _ _ _ _ _ _ _ _ _) 681 ?_
  refine r_iload 681 5 K (dk_of tL_law_3 59 rfl) rfl ?_
  refine r_ic_eq 683 688 K (dk_of tL_law_3 60 rfl) (by decide) hR (fun hR => ?_) (fun hR => ?_)
  · refine r_iload 688 5 K (dk_of tL_law_3 63 rfl) rfl ?_
    refine r_if_ne 690 705 K (dk_of tL_law_3 64 rfl) (by decide) hR (fun hR => ?_) (fun hR => ?_)
    · refine r_aload_n 693 3 K (dk_of tL_law_3 65 rfl) rfl rfl ?_
      refine r_iconst 694 (0 : Int32) K (dk_of tL_law_3 66 rfl) (by decide) ?_
      refine r_lald 695 60 K (dk_of tL_law_3 67 rfl) rfl (vpd (by decide)) ?_
      refine r_iload 696 6 K (dk_of tL_law_3 68 rfl) rfl ?_
      refine r_i2l 698 K (dk_of tL_law_3 69 rfl) ?_
      refine r_lcmp 699 K (dk_of tL_law_3 70 rfl) ?_
      refine r_if_eq 700 705 K (dk_of tL_law_3 71 rfl) (by decide) hR (fun hR => ?_) (fun hR => ?_)
      · refine r_goto 705 2278 K (dk_of tL_law_3 74 rfl) (by decide) ?_
        cases hR
        exact r_msk [true, true, true, true, true, false, false] [some (.ref b), some (.ref as9), some (.ref (am 0)), some (.ref au), some (.int i), none, none] rfl kk
      · exact nn_ hR
    · refine r_goto 705 2278 K (dk_of tL_law_3 74 rfl) (by decide) ?_
      cases hR
      exact r_msk [true, true, true, true, true, false, false] [some (.ref b), some (.ref as9), some (.ref (am 0)), some (.ref au), some (.int i), none, none] rfl kk
  · exact nn_ hR

def st_8 (p1 : Int32) (p2 : Int32) (σ : St) (τ : St) (ν : (Nat → Int32)) (δ : St) (π : (St × Int64)) (ω : (Nat → Int64)) (μ : St) : Option S7 := b2 (sp_L_at p1 p2 σ ω) (fun (x1 : Int32) (ω2 : (Nat → Int64)) => b2 (sp_X10_at p1 p2 μ) (fun (x3 : Int32) (μ4 : St) => b1 (sp_X10_thrown μ4) (fun (x5 : Int32) => if x5 = x1 then (if x1 = 0 then (if (lg_cmp (ω2 (0 : Int32).toNatClampNeg) x3.toInt64) = 0 then (some (σ, τ, ν, δ, π, ω2, μ4)) else (none)) else (some (σ, τ, ν, δ, π, ω2, μ4))) else (none))))
set_option maxHeartbeats 4000000 in
set_option maxRecDepth 100000 in
theorem law_8 {l : Launch} (hl : l.stackTraces = false) {γ : Gd} {h g : Nat → Nat} {as9 an aq : Nat} {ad ap : Nat → Nat} {au : Nat} {am : Nat → Nat} {r : va_W} {σ : St} {τ : St} {ν : (Nat → Int32)} {δ : St} {π : (St × Int64)} {ω : (Nat → Int64)} {μ : St} {X : CX} {M : MX} {y : MethodName} {tb : List ExceptionTableEntry} {b n : Nat} {xs : Nat → Int32} {i p1 p2 : Int32} {cs ss : Nat} (K : KX l γ X M y cL_law RL 7 rmL (some .boolean) tb) (hX : va_X b n xs (ks X) (ks X).heap) (hbl : b < (ks X).heap.size) (hbA : ¬ Ax X M b) (h1 : ¬ (i + (1 : Int32) < 0 ∨ n ≤ (i + (1 : Int32)).toNatClampNeg)) (e1 : xs (i + (1 : Int32)).toNatClampNeg = p1) (h2 : ¬ (i + (2 : Int32) < 0 ∨ n ≤ (i + (2 : Int32)).toNatClampNeg)) (e2 : xs (i + (2 : Int32)).toNatClampNeg = p2) (hcs : cs + 1 ≤ 1124) (hss : ss + 6 ≤ 9915) {z9 : S7} (hR : some z9 = st_8 p1 p2 σ τ ν δ π ω μ)
    (kk : V l γ X M (wB γ h z9.1 ++ (wB γ g z9.2.1 ++ (wS as9 (h 0) (g 0) an aq (ad 0) (ap 0) ++ (wN an (h 0) z9.2.2.1 ++ (wR aq (h 0) ++ (wD γ ad z9.2.2.2.1 ++ (wP γ ap z9.2.2.2.2.1 ++ (wO γ au z9.2.2.2.2.2.1 ++ (wM γ am z9.2.2.2.2.2.2 ++ (r)))))))))) [some (.ref b), some (.ref as9), some (.ref (am 0)), some (.ref au), some (.int i), none, none] (cs + 1) (ss + 6) 2278 []) : V l γ X M (wB γ h σ ++ (wB γ g τ ++ (wS as9 (h 0) (g 0) an aq (ad 0) (ap 0) ++ (wN an (h 0) ν ++ (wR aq (h 0) ++ (wD γ ad δ ++ (wP γ ap π ++ (wO γ au ω ++ (wM γ am μ ++ (r)))))))))) [some (.ref b), some (.ref as9), some (.ref (am 0)), some (.ref au), some (.int i), none, none] cs ss 708 [] := by
  unfold st_8 at hR
  refine r_aload_n 708 1 K (dk_of tL_law_3 75 rfl) rfl rfl ?_
  refine r_aload_n 709 0 K (dk_of tL_law_3 76 rfl) rfl rfl ?_
  refine r_iload 710 4 K (dk_of tL_law_3 77 rfl) rfl ?_
  refine r_iconst 712 (1 : Int32) K (dk_of tL_law_3 78 rfl) (by decide) ?_
  refine r_iadd 713 K (dk_of tL_law_3 79 rfl) ?_
  refine r_sldN 714 K hX hbl hbA h1 e1 (dk_of tL_law_3 80 rfl) ?_
  refine r_aload_n 715 0 K (dk_of tL_law_3 81 rfl) rfl rfl ?_
  refine r_iload 716 4 K (dk_of tL_law_3 82 rfl) rfl ?_
  refine r_iconst 718 (2 : Int32) K (dk_of tL_law_3 83 rfl) (by decide) ?_
  refine r_iadd 719 K (dk_of tL_law_3 84 rfl) ?_
  refine r_sldN 720 K hX hbl hbA h2 e2 (dk_of tL_law_3 85 rfl) ?_
  refine r_aload_n 721 3 K (dk_of tL_law_3 86 rfl) rfl rfl ?_
  obtain ⟨x1, ω2, hc, hR⟩ := o2 hR
  refine r_cSh (mc := 1) (ms := 6) (n := 4) 722 [.ref as9, .int p1, .int p2, .ref au] [] x1 (wB γ h σ ++ (wB γ g τ ++ (wS as9 (h 0) (g 0) an aq (ad 0) (ap 0) ++ (wN an (h 0) ν ++ (wR aq (h 0) ++ (wD γ ad δ ++ (wP γ ap π ++ (wO γ au ω2 ++ (wM γ am μ ++ (r)))))))))) K (ct_L_at hl hc.symm) w649 w650 w0 cwx_at (by decide +kernel) ⟨rfl, rfl, rfl⟩ (dk_of tL_law_3 87 rfl) rfl rfl rfl ⟨hcs, hss⟩ ?_
  refine r_istore 725 5 [some (.ref b), some (.ref as9), some (.ref (am 0)), some (.ref au), some (.int i), some (.int x1), none] K (dk_of tL_law_3 88 rfl) rfl rfl (by decide) ?_
  refine r_aload_n 727 2 K (dk_of tL_law_3 89 rfl) rfl rfl ?_
  refine r_aload_n 728 0 K (dk_of tL_law_3 90 rfl) rfl rfl ?_
  refine r_iload 729 4 K (dk_of tL_law_3 91 rfl) rfl ?_
  refine r_iconst 731 (1 : Int32) K (dk_of tL_law_3 92 rfl) (by decide) ?_
  refine r_iadd 732 K (dk_of tL_law_3 93 rfl) ?_
  refine r_sldN 733 K hX hbl hbA h1 e1 (dk_of tL_law_3 94 rfl) ?_
  refine r_aload_n 734 0 K (dk_of tL_law_3 95 rfl) rfl rfl ?_
  refine r_iload 735 4 K (dk_of tL_law_3 96 rfl) rfl ?_
  refine r_iconst 737 (2 : Int32) K (dk_of tL_law_3 97 rfl) (by decide) ?_
  refine r_iadd 738 K (dk_of tL_law_3 98 rfl) ?_
  refine r_sldN 739 K hX hbl hbA h2 e2 (dk_of tL_law_3 99 rfl) ?_
  obtain ⟨x3, μ4, hc, hR⟩ := o2 hR
  refine r_perm (wM γ am μ ++ (wB γ h σ ++ (wB γ g τ ++ (wS as9 (h 0) (g 0) an aq (ad 0) (ap 0) ++ (wN an (h 0) ν ++ (wR aq (h 0) ++ (wD γ ad δ ++ (wP γ ap π ++ (wO γ au ω2 ++ (r)))))))))) (permF _ _ _ _ _ _ _ _ _ _) 740 ?_
  refine r_cVi 740 0 [.int p1, .int p2] [] x3 (wM γ am μ4 ++ (wB γ h σ ++ (wB γ g τ ++ (wS as9 (h 0) (g 0) an aq (ad 0) (ap 0) ++ (wN an (h 0) ν ++ (wR aq (h 0) ++ (wD γ ad δ ++ (wP γ ap π ++ (wO γ au ω2 ++ (r)))))))))) K (ct_X10_at hl hc.symm) cs_L_153 ⟨rfl, rfl, rfl⟩ (dk_of tL_law_4 0 rfl) rfl rfl rfl rfl rfl (bb_ hcs hss) ?_
  refine r_perm (wB γ h σ ++ (wB γ g τ ++ (wS as9 (h 0) (g 0) an aq (ad 0) (ap 0) ++ (wN an (h 0) ν ++ (wR aq (h 0) ++ (wD γ ad δ ++ (wP γ ap π ++ (wO γ au ω2 ++ (wM γ am μ4 ++ (r)))))))))) (permB _ _ _ _ _ _ _ _ _ _) 743 ?_
  refine r_istore 743 6 [some (.ref b), some (.ref as9), some (.ref (am 0)), some (.ref au), some (.int i), some (.int x1), some (.int x3)] K (dk_of tL_law_4 1 rfl) rfl rfl (by decide) ?_
  refine r_aload_n 745 2 K (dk_of tL_law_4 2 rfl) rfl rfl ?_
  obtain ⟨x5, hc, hR⟩ := o1 hR
  refine r_perm (wM γ am μ4 ++ (wB γ h σ ++ (wB γ g τ ++ (wS as9 (h 0) (g 0) an aq (ad 0) (ap 0) ++ (wN an (h 0) ν ++ (wR aq (h 0) ++ (wD γ ad δ ++ (wP γ ap π ++ (wO γ au ω2 ++ (r)))))))))) (permF _ _ _ _ _ _ _ _ _ _) 746 ?_
  refine r_cVi 746 0 [] [] x5 (wM γ am μ4 ++ (wB γ h σ ++ (wB γ g τ ++ (wS as9 (h 0) (g 0) an aq (ad 0) (ap 0) ++ (wN an (h 0) ν ++ (wR aq (h 0) ++ (wD γ ad δ ++ (wP γ ap π ++ (wO γ au ω2 ++ (r)))))))))) K (ct_X10_thrown hl hc.symm) cs_L_124 ⟨rfl, rfl, rfl⟩ (dk_of tL_law_4 3 rfl) rfl rfl rfl rfl rfl (bb_ hcs hss) ?_
  refine r_perm (wB γ h σ ++ (wB γ g τ ++ (wS as9 (h 0) (g 0) an aq (ad 0) (ap 0) ++ (wN an (h 0) ν ++ (wR aq (h 0) ++ (wD γ ad δ ++ (wP γ ap π ++ (wO γ au ω2 ++ (wM γ am μ4 ++ (r)))))))))) (permB _ _ _ _ _ _ _ _ _ _) 749 ?_
  refine r_iload 749 5 K (dk_of tL_law_4 4 rfl) rfl ?_
  refine r_ic_eq 751 756 K (dk_of tL_law_4 5 rfl) (by decide) hR (fun hR => ?_) (fun hR => ?_)
  · refine r_iload 756 5 K (dk_of tL_law_4 8 rfl) rfl ?_
    refine r_if_ne 758 773 K (dk_of tL_law_4 9 rfl) (by decide) hR (fun hR => ?_) (fun hR => ?_)
    · refine r_aload_n 761 3 K (dk_of tL_law_4 10 rfl) rfl rfl ?_
      refine r_iconst 762 (0 : Int32) K (dk_of tL_law_4 11 rfl) (by decide) ?_
      refine r_lald 763 60 K (dk_of tL_law_4 12 rfl) rfl (vpd (by decide)) ?_
      refine r_iload 764 6 K (dk_of tL_law_4 13 rfl) rfl ?_
      refine r_i2l 766 K (dk_of tL_law_4 14 rfl) ?_
      refine r_lcmp 767 K (dk_of tL_law_4 15 rfl) ?_
      refine r_if_eq 768 773 K (dk_of tL_law_4 16 rfl) (by decide) hR (fun hR => ?_) (fun hR => ?_)
      · refine r_goto 773 2278 K (dk_of tL_law_4 19 rfl) (by decide) ?_
        cases hR
        exact r_msk [true, true, true, true, true, false, false] [some (.ref b), some (.ref as9), some (.ref (am 0)), some (.ref au), some (.int i), none, none] rfl kk
      · exact nn_ hR
    · refine r_goto 773 2278 K (dk_of tL_law_4 19 rfl) (by decide) ?_
      cases hR
      exact r_msk [true, true, true, true, true, false, false] [some (.ref b), some (.ref as9), some (.ref (am 0)), some (.ref au), some (.int i), none, none] rfl kk
  · exact nn_ hR

def st_9 (p1 : Int32) (p2 : Int32) (p3 : Int32) (σ : St) (τ : St) (ν : (Nat → Int32)) (δ : St) (π : (St × Int64)) (ω : (Nat → Int64)) (μ : St) : Option S7 := b3 (sp_L_boom p1 p2 p3 σ ω) (fun (x1 : Int32) (σ2 : St) (ω3 : (Nat → Int64)) => b2 (sp_X10_boom p1 p2 p3 μ) (fun (x4 : Int32) (μ5 : St) => b1 (sp_X10_thrown μ5) (fun (x6 : Int32) => if x6 = x1 then (if x1 = 0 then (if (lg_cmp (ω3 (0 : Int32).toNatClampNeg) x4.toInt64) = 0 then (some (σ2, τ, ν, δ, π, ω3, μ5)) else (none)) else (some (σ2, τ, ν, δ, π, ω3, μ5))) else (none))))
set_option maxHeartbeats 4000000 in
set_option maxRecDepth 100000 in
theorem law_9 {l : Launch} (hl : l.stackTraces = false) {γ : Gd} {h g : Nat → Nat} {as9 an aq : Nat} {ad ap : Nat → Nat} {au : Nat} {am : Nat → Nat} {r : va_W} {σ : St} {τ : St} {ν : (Nat → Int32)} {δ : St} {π : (St × Int64)} {ω : (Nat → Int64)} {μ : St} {X : CX} {M : MX} {y : MethodName} {tb : List ExceptionTableEntry} {b n : Nat} {xs : Nat → Int32} {i p1 p2 p3 : Int32} {cs ss : Nat} (K : KX l γ X M y cL_law RL 7 rmL (some .boolean) tb) (hX : va_X b n xs (ks X) (ks X).heap) (hbl : b < (ks X).heap.size) (hbA : ¬ Ax X M b) (h1 : ¬ (i + (1 : Int32) < 0 ∨ n ≤ (i + (1 : Int32)).toNatClampNeg)) (e1 : xs (i + (1 : Int32)).toNatClampNeg = p1) (h2 : ¬ (i + (2 : Int32) < 0 ∨ n ≤ (i + (2 : Int32)).toNatClampNeg)) (e2 : xs (i + (2 : Int32)).toNatClampNeg = p2) (h3 : ¬ (i + (3 : Int32) < 0 ∨ n ≤ (i + (3 : Int32)).toNatClampNeg)) (e3 : xs (i + (3 : Int32)).toNatClampNeg = p3) (hcs : cs + 1 ≤ 1124) (hss : ss + 6 ≤ 9915) {z9 : S7} (hR : some z9 = st_9 p1 p2 p3 σ τ ν δ π ω μ)
    (kk : V l γ X M (wB γ h z9.1 ++ (wB γ g z9.2.1 ++ (wS as9 (h 0) (g 0) an aq (ad 0) (ap 0) ++ (wN an (h 0) z9.2.2.1 ++ (wR aq (h 0) ++ (wD γ ad z9.2.2.2.1 ++ (wP γ ap z9.2.2.2.2.1 ++ (wO γ au z9.2.2.2.2.2.1 ++ (wM γ am z9.2.2.2.2.2.2 ++ (r)))))))))) [some (.ref b), some (.ref as9), some (.ref (am 0)), some (.ref au), some (.int i), none, none] (cs + 1) (ss + 6) 2278 []) : V l γ X M (wB γ h σ ++ (wB γ g τ ++ (wS as9 (h 0) (g 0) an aq (ad 0) (ap 0) ++ (wN an (h 0) ν ++ (wR aq (h 0) ++ (wD γ ad δ ++ (wP γ ap π ++ (wO γ au ω ++ (wM γ am μ ++ (r)))))))))) [some (.ref b), some (.ref as9), some (.ref (am 0)), some (.ref au), some (.int i), none, none] cs ss 776 [] := by
  unfold st_9 at hR
  refine r_aload_n 776 1 K (dk_of tL_law_4 20 rfl) rfl rfl ?_
  refine r_aload_n 777 0 K (dk_of tL_law_4 21 rfl) rfl rfl ?_
  refine r_iload 778 4 K (dk_of tL_law_4 22 rfl) rfl ?_
  refine r_iconst 780 (1 : Int32) K (dk_of tL_law_4 23 rfl) (by decide) ?_
  refine r_iadd 781 K (dk_of tL_law_4 24 rfl) ?_
  refine r_sldN 782 K hX hbl hbA h1 e1 (dk_of tL_law_4 25 rfl) ?_
  refine r_aload_n 783 0 K (dk_of tL_law_4 26 rfl) rfl rfl ?_
  refine r_iload 784 4 K (dk_of tL_law_4 27 rfl) rfl ?_
  refine r_iconst 786 (2 : Int32) K (dk_of tL_law_4 28 rfl) (by decide) ?_
  refine r_iadd 787 K (dk_of tL_law_4 29 rfl) ?_
  refine r_sldN 788 K hX hbl hbA h2 e2 (dk_of tL_law_4 30 rfl) ?_
  refine r_aload_n 789 0 K (dk_of tL_law_4 31 rfl) rfl rfl ?_
  refine r_iload 790 4 K (dk_of tL_law_4 32 rfl) rfl ?_
  refine r_iconst 792 (3 : Int32) K (dk_of tL_law_4 33 rfl) (by decide) ?_
  refine r_iadd 793 K (dk_of tL_law_4 34 rfl) ?_
  refine r_sldN 794 K hX hbl hbA h3 e3 (dk_of tL_law_4 35 rfl) ?_
  refine r_aload_n 795 3 K (dk_of tL_law_4 36 rfl) rfl rfl ?_
  obtain ⟨x1, σ2, ω3, hc, hR⟩ := o3 hR
  refine r_cSh (mc := 1) (ms := 6) (n := 5) 796 [.ref as9, .int p1, .int p2, .int p3, .ref au] [] x1 (wB γ h σ2 ++ (wB γ g τ ++ (wS as9 (h 0) (g 0) an aq (ad 0) (ap 0) ++ (wN an (h 0) ν ++ (wR aq (h 0) ++ (wD γ ad δ ++ (wP γ ap π ++ (wO γ au ω3 ++ (wM γ am μ ++ (r)))))))))) K (ct_L_boom hl hc.symm) w666 w667 w0 cwx_boom (by decide +kernel) ⟨rfl, rfl, rfl⟩ (dk_of tL_law_4 37 rfl) rfl rfl rfl ⟨hcs, hss⟩ ?_
  refine r_istore 799 5 [some (.ref b), some (.ref as9), some (.ref (am 0)), some (.ref au), some (.int i), some (.int x1), none] K (dk_of tL_law_4 38 rfl) rfl rfl (by decide) ?_
  refine r_aload_n 801 2 K (dk_of tL_law_4 39 rfl) rfl rfl ?_
  refine r_aload_n 802 0 K (dk_of tL_law_4 40 rfl) rfl rfl ?_
  refine r_iload 803 4 K (dk_of tL_law_4 41 rfl) rfl ?_
  refine r_iconst 805 (1 : Int32) K (dk_of tL_law_4 42 rfl) (by decide) ?_
  refine r_iadd 806 K (dk_of tL_law_4 43 rfl) ?_
  refine r_sldN 807 K hX hbl hbA h1 e1 (dk_of tL_law_4 44 rfl) ?_
  refine r_aload_n 808 0 K (dk_of tL_law_4 45 rfl) rfl rfl ?_
  refine r_iload 809 4 K (dk_of tL_law_4 46 rfl) rfl ?_
  refine r_iconst 811 (2 : Int32) K (dk_of tL_law_4 47 rfl) (by decide) ?_
  refine r_iadd 812 K (dk_of tL_law_4 48 rfl) ?_
  refine r_sldN 813 K hX hbl hbA h2 e2 (dk_of tL_law_4 49 rfl) ?_
  refine r_aload_n 814 0 K (dk_of tL_law_4 50 rfl) rfl rfl ?_
  refine r_iload 815 4 K (dk_of tL_law_4 51 rfl) rfl ?_
  refine r_iconst 817 (3 : Int32) K (dk_of tL_law_4 52 rfl) (by decide) ?_
  refine r_iadd 818 K (dk_of tL_law_4 53 rfl) ?_
  refine r_sldN 819 K hX hbl hbA h3 e3 (dk_of tL_law_4 54 rfl) ?_
  obtain ⟨x4, μ5, hc, hR⟩ := o2 hR
  refine r_perm (wM γ am μ ++ (wB γ h σ2 ++ (wB γ g τ ++ (wS as9 (h 0) (g 0) an aq (ad 0) (ap 0) ++ (wN an (h 0) ν ++ (wR aq (h 0) ++ (wD γ ad δ ++ (wP γ ap π ++ (wO γ au ω3 ++ (r)))))))))) (permF _ _ _ _ _ _ _ _ _ _) 820 ?_
  refine r_cVi 820 0 [.int p1, .int p2, .int p3] [] x4 (wM γ am μ5 ++ (wB γ h σ2 ++ (wB γ g τ ++ (wS as9 (h 0) (g 0) an aq (ad 0) (ap 0) ++ (wN an (h 0) ν ++ (wR aq (h 0) ++ (wD γ ad δ ++ (wP γ ap π ++ (wO γ au ω3 ++ (r)))))))))) K (ct_X10_boom hl hc.symm) cs_L_156 ⟨rfl, rfl, rfl⟩ (dk_of tL_law_4 55 rfl) rfl rfl rfl rfl rfl (bb_ hcs hss) ?_
  refine r_perm (wB γ h σ2 ++ (wB γ g τ ++ (wS as9 (h 0) (g 0) an aq (ad 0) (ap 0) ++ (wN an (h 0) ν ++ (wR aq (h 0) ++ (wD γ ad δ ++ (wP γ ap π ++ (wO γ au ω3 ++ (wM γ am μ5 ++ (r)))))))))) (permB _ _ _ _ _ _ _ _ _ _) 823 ?_
  refine r_istore 823 6 [some (.ref b), some (.ref as9), some (.ref (am 0)), some (.ref au), some (.int i), some (.int x1), some (.int x4)] K (dk_of tL_law_4 56 rfl) rfl rfl (by decide) ?_
  refine r_aload_n 825 2 K (dk_of tL_law_4 57 rfl) rfl rfl ?_
  obtain ⟨x6, hc, hR⟩ := o1 hR
  refine r_perm (wM γ am μ5 ++ (wB γ h σ2 ++ (wB γ g τ ++ (wS as9 (h 0) (g 0) an aq (ad 0) (ap 0) ++ (wN an (h 0) ν ++ (wR aq (h 0) ++ (wD γ ad δ ++ (wP γ ap π ++ (wO γ au ω3 ++ (r)))))))))) (permF _ _ _ _ _ _ _ _ _ _) 826 ?_
  refine r_cVi 826 0 [] [] x6 (wM γ am μ5 ++ (wB γ h σ2 ++ (wB γ g τ ++ (wS as9 (h 0) (g 0) an aq (ad 0) (ap 0) ++ (wN an (h 0) ν ++ (wR aq (h 0) ++ (wD γ ad δ ++ (wP γ ap π ++ (wO γ au ω3 ++ (r)))))))))) K (ct_X10_thrown hl hc.symm) cs_L_124 ⟨rfl, rfl, rfl⟩ (dk_of tL_law_4 58 rfl) rfl rfl rfl rfl rfl (bb_ hcs hss) ?_
  refine r_perm (wB γ h σ2 ++ (wB γ g τ ++ (wS as9 (h 0) (g 0) an aq (ad 0) (ap 0) ++ (wN an (h 0) ν ++ (wR aq (h 0) ++ (wD γ ad δ ++ (wP γ ap π ++ (wO γ au ω3 ++ (wM γ am μ5 ++ (r)))))))))) (permB _ _ _ _ _ _ _ _ _ _) 829 ?_
  refine r_iload 829 5 K (dk_of tL_law_4 59 rfl) rfl ?_
  refine r_ic_eq 831 836 K (dk_of tL_law_4 60 rfl) (by decide) hR (fun hR => ?_) (fun hR => ?_)
  · refine r_iload 836 5 K (dk_of tL_law_4 63 rfl) rfl ?_
    refine r_if_ne 838 853 K (dk_of tL_law_4 64 rfl) (by decide) hR (fun hR => ?_) (fun hR => ?_)
    · refine r_aload_n 841 3 K (dk_of tL_law_4 65 rfl) rfl rfl ?_
      refine r_iconst 842 (0 : Int32) K (dk_of tL_law_4 66 rfl) (by decide) ?_
      refine r_lald 843 60 K (dk_of tL_law_4 67 rfl) rfl (vpd (by decide)) ?_
      refine r_iload 844 6 K (dk_of tL_law_4 68 rfl) rfl ?_
      refine r_i2l 846 K (dk_of tL_law_4 69 rfl) ?_
      refine r_lcmp 847 K (dk_of tL_law_4 70 rfl) ?_
      refine r_if_eq 848 853 K (dk_of tL_law_4 71 rfl) (by decide) hR (fun hR => ?_) (fun hR => ?_)
      · refine r_goto 853 2278 K (dk_of tL_law_4 74 rfl) (by decide) ?_
        cases hR
        exact r_msk [true, true, true, true, true, false, false] [some (.ref b), some (.ref as9), some (.ref (am 0)), some (.ref au), some (.int i), none, none] rfl kk
      · exact nn_ hR
    · refine r_goto 853 2278 K (dk_of tL_law_4 74 rfl) (by decide) ?_
      cases hR
      exact r_msk [true, true, true, true, true, false, false] [some (.ref b), some (.ref as9), some (.ref (am 0)), some (.ref au), some (.int i), none, none] rfl kk
  · exact nn_ hR

def st_10 (p1 : Int32) (p2 : Int32) (p3 : Int32) (σ : St) (τ : St) (ν : (Nat → Int32)) (δ : St) (π : (St × Int64)) (ω : (Nat → Int64)) (μ : St) : Option S7 := b3 (sp_L_skimmer p1 p2 p3 σ ω) (fun (x1 : Int32) (σ2 : St) (ω3 : (Nat → Int64)) => b2 (sp_X10_skimmer p1 p2 p3 μ) (fun (x4 : Int32) (μ5 : St) => b1 (sp_X10_thrown μ5) (fun (x6 : Int32) => if x6 = x1 then (if x1 = 0 then (if (lg_cmp (ω3 (0 : Int32).toNatClampNeg) x4.toInt64) = 0 then (some (σ2, τ, ν, δ, π, ω3, μ5)) else (none)) else (some (σ2, τ, ν, δ, π, ω3, μ5))) else (none))))
set_option maxHeartbeats 4000000 in
set_option maxRecDepth 100000 in
theorem law_10 {l : Launch} (hl : l.stackTraces = false) {γ : Gd} {h g : Nat → Nat} {as9 an aq : Nat} {ad ap : Nat → Nat} {au : Nat} {am : Nat → Nat} {r : va_W} {σ : St} {τ : St} {ν : (Nat → Int32)} {δ : St} {π : (St × Int64)} {ω : (Nat → Int64)} {μ : St} {X : CX} {M : MX} {y : MethodName} {tb : List ExceptionTableEntry} {b n : Nat} {xs : Nat → Int32} {i p1 p2 p3 : Int32} {cs ss : Nat} (K : KX l γ X M y cL_law RL 7 rmL (some .boolean) tb) (hX : va_X b n xs (ks X) (ks X).heap) (hbl : b < (ks X).heap.size) (hbA : ¬ Ax X M b) (h1 : ¬ (i + (1 : Int32) < 0 ∨ n ≤ (i + (1 : Int32)).toNatClampNeg)) (e1 : xs (i + (1 : Int32)).toNatClampNeg = p1) (h2 : ¬ (i + (2 : Int32) < 0 ∨ n ≤ (i + (2 : Int32)).toNatClampNeg)) (e2 : xs (i + (2 : Int32)).toNatClampNeg = p2) (h3 : ¬ (i + (3 : Int32) < 0 ∨ n ≤ (i + (3 : Int32)).toNatClampNeg)) (e3 : xs (i + (3 : Int32)).toNatClampNeg = p3) (hcs : cs + 1 ≤ 1124) (hss : ss + 6 ≤ 9915) {z9 : S7} (hR : some z9 = st_10 p1 p2 p3 σ τ ν δ π ω μ)
    (kk : V l γ X M (wB γ h z9.1 ++ (wB γ g z9.2.1 ++ (wS as9 (h 0) (g 0) an aq (ad 0) (ap 0) ++ (wN an (h 0) z9.2.2.1 ++ (wR aq (h 0) ++ (wD γ ad z9.2.2.2.1 ++ (wP γ ap z9.2.2.2.2.1 ++ (wO γ au z9.2.2.2.2.2.1 ++ (wM γ am z9.2.2.2.2.2.2 ++ (r)))))))))) [some (.ref b), some (.ref as9), some (.ref (am 0)), some (.ref au), some (.int i), none, none] (cs + 1) (ss + 6) 2278 []) : V l γ X M (wB γ h σ ++ (wB γ g τ ++ (wS as9 (h 0) (g 0) an aq (ad 0) (ap 0) ++ (wN an (h 0) ν ++ (wR aq (h 0) ++ (wD γ ad δ ++ (wP γ ap π ++ (wO γ au ω ++ (wM γ am μ ++ (r)))))))))) [some (.ref b), some (.ref as9), some (.ref (am 0)), some (.ref au), some (.int i), none, none] cs ss 856 [] := by
  unfold st_10 at hR
  refine r_aload_n 856 1 K (dk_of tL_law_4 75 rfl) rfl rfl ?_
  refine r_aload_n 857 0 K (dk_of tL_law_4 76 rfl) rfl rfl ?_
  refine r_iload 858 4 K (dk_of tL_law_4 77 rfl) rfl ?_
  refine r_iconst 860 (1 : Int32) K (dk_of tL_law_4 78 rfl) (by decide) ?_
  refine r_iadd 861 K (dk_of tL_law_4 79 rfl) ?_
  refine r_sldN 862 K hX hbl hbA h1 e1 (dk_of tL_law_4 80 rfl) ?_
  refine r_aload_n 863 0 K (dk_of tL_law_4 81 rfl) rfl rfl ?_
  refine r_iload 864 4 K (dk_of tL_law_4 82 rfl) rfl ?_
  refine r_iconst 866 (2 : Int32) K (dk_of tL_law_4 83 rfl) (by decide) ?_
  refine r_iadd 867 K (dk_of tL_law_4 84 rfl) ?_
  refine r_sldN 868 K hX hbl hbA h2 e2 (dk_of tL_law_4 85 rfl) ?_
  refine r_aload_n 869 0 K (dk_of tL_law_4 86 rfl) rfl rfl ?_
  refine r_iload 870 4 K (dk_of tL_law_4 87 rfl) rfl ?_
  refine r_iconst 872 (3 : Int32) K (dk_of tL_law_4 88 rfl) (by decide) ?_
  refine r_iadd 873 K (dk_of tL_law_4 89 rfl) ?_
  refine r_sldN 874 K hX hbl hbA h3 e3 (dk_of tL_law_4 90 rfl) ?_
  refine r_aload_n 875 3 K (dk_of tL_law_4 91 rfl) rfl rfl ?_
  obtain ⟨x1, σ2, ω3, hc, hR⟩ := o3 hR
  refine r_cSh (mc := 1) (ms := 6) (n := 5) 876 [.ref as9, .int p1, .int p2, .int p3, .ref au] [] x1 (wB γ h σ2 ++ (wB γ g τ ++ (wS as9 (h 0) (g 0) an aq (ad 0) (ap 0) ++ (wN an (h 0) ν ++ (wR aq (h 0) ++ (wD γ ad δ ++ (wP γ ap π ++ (wO γ au ω3 ++ (wM γ am μ ++ (r)))))))))) K (ct_L_skimmer hl hc.symm) w684 w685 w0 cwx_skimmer (by decide +kernel) ⟨rfl, rfl, rfl⟩ (dk_of tL_law_4 92 rfl) rfl rfl rfl ⟨hcs, hss⟩ ?_
  refine r_istore 879 5 [some (.ref b), some (.ref as9), some (.ref (am 0)), some (.ref au), some (.int i), some (.int x1), none] K (dk_of tL_law_4 93 rfl) rfl rfl (by decide) ?_
  refine r_aload_n 881 2 K (dk_of tL_law_4 94 rfl) rfl rfl ?_
  refine r_aload_n 882 0 K (dk_of tL_law_4 95 rfl) rfl rfl ?_
  refine r_iload 883 4 K (dk_of tL_law_4 96 rfl) rfl ?_
  refine r_iconst 885 (1 : Int32) K (dk_of tL_law_4 97 rfl) (by decide) ?_
  refine r_iadd 886 K (dk_of tL_law_4 98 rfl) ?_
  refine r_sldN 887 K hX hbl hbA h1 e1 (dk_of tL_law_4 99 rfl) ?_
  refine r_aload_n 888 0 K (dk_of tL_law_5 0 rfl) rfl rfl ?_
  refine r_iload 889 4 K (dk_of tL_law_5 1 rfl) rfl ?_
  refine r_iconst 891 (2 : Int32) K (dk_of tL_law_5 2 rfl) (by decide) ?_
  refine r_iadd 892 K (dk_of tL_law_5 3 rfl) ?_
  refine r_sldN 893 K hX hbl hbA h2 e2 (dk_of tL_law_5 4 rfl) ?_
  refine r_aload_n 894 0 K (dk_of tL_law_5 5 rfl) rfl rfl ?_
  refine r_iload 895 4 K (dk_of tL_law_5 6 rfl) rfl ?_
  refine r_iconst 897 (3 : Int32) K (dk_of tL_law_5 7 rfl) (by decide) ?_
  refine r_iadd 898 K (dk_of tL_law_5 8 rfl) ?_
  refine r_sldN 899 K hX hbl hbA h3 e3 (dk_of tL_law_5 9 rfl) ?_
  obtain ⟨x4, μ5, hc, hR⟩ := o2 hR
  refine r_perm (wM γ am μ ++ (wB γ h σ2 ++ (wB γ g τ ++ (wS as9 (h 0) (g 0) an aq (ad 0) (ap 0) ++ (wN an (h 0) ν ++ (wR aq (h 0) ++ (wD γ ad δ ++ (wP γ ap π ++ (wO γ au ω3 ++ (r)))))))))) (permF _ _ _ _ _ _ _ _ _ _) 900 ?_
  refine r_cVi 900 0 [.int p1, .int p2, .int p3] [] x4 (wM γ am μ5 ++ (wB γ h σ2 ++ (wB γ g τ ++ (wS as9 (h 0) (g 0) an aq (ad 0) (ap 0) ++ (wN an (h 0) ν ++ (wR aq (h 0) ++ (wD γ ad δ ++ (wP γ ap π ++ (wO γ au ω3 ++ (r)))))))))) K (ct_X10_skimmer hl hc.symm) cs_L_159 ⟨rfl, rfl, rfl⟩ (dk_of tL_law_5 10 rfl) rfl rfl rfl rfl rfl (bb_ hcs hss) ?_
  refine r_perm (wB γ h σ2 ++ (wB γ g τ ++ (wS as9 (h 0) (g 0) an aq (ad 0) (ap 0) ++ (wN an (h 0) ν ++ (wR aq (h 0) ++ (wD γ ad δ ++ (wP γ ap π ++ (wO γ au ω3 ++ (wM γ am μ5 ++ (r)))))))))) (permB _ _ _ _ _ _ _ _ _ _) 903 ?_
  refine r_istore 903 6 [some (.ref b), some (.ref as9), some (.ref (am 0)), some (.ref au), some (.int i), some (.int x1), some (.int x4)] K (dk_of tL_law_5 11 rfl) rfl rfl (by decide) ?_
  refine r_aload_n 905 2 K (dk_of tL_law_5 12 rfl) rfl rfl ?_
  obtain ⟨x6, hc, hR⟩ := o1 hR
  refine r_perm (wM γ am μ5 ++ (wB γ h σ2 ++ (wB γ g τ ++ (wS as9 (h 0) (g 0) an aq (ad 0) (ap 0) ++ (wN an (h 0) ν ++ (wR aq (h 0) ++ (wD γ ad δ ++ (wP γ ap π ++ (wO γ au ω3 ++ (r)))))))))) (permF _ _ _ _ _ _ _ _ _ _) 906 ?_
  refine r_cVi 906 0 [] [] x6 (wM γ am μ5 ++ (wB γ h σ2 ++ (wB γ g τ ++ (wS as9 (h 0) (g 0) an aq (ad 0) (ap 0) ++ (wN an (h 0) ν ++ (wR aq (h 0) ++ (wD γ ad δ ++ (wP γ ap π ++ (wO γ au ω3 ++ (r)))))))))) K (ct_X10_thrown hl hc.symm) cs_L_124 ⟨rfl, rfl, rfl⟩ (dk_of tL_law_5 13 rfl) rfl rfl rfl rfl rfl (bb_ hcs hss) ?_
  refine r_perm (wB γ h σ2 ++ (wB γ g τ ++ (wS as9 (h 0) (g 0) an aq (ad 0) (ap 0) ++ (wN an (h 0) ν ++ (wR aq (h 0) ++ (wD γ ad δ ++ (wP γ ap π ++ (wO γ au ω3 ++ (wM γ am μ5 ++ (r)))))))))) (permB _ _ _ _ _ _ _ _ _ _) 909 ?_
  refine r_iload 909 5 K (dk_of tL_law_5 14 rfl) rfl ?_
  refine r_ic_eq 911 916 K (dk_of tL_law_5 15 rfl) (by decide) hR (fun hR => ?_) (fun hR => ?_)
  · refine r_iload 916 5 K (dk_of tL_law_5 18 rfl) rfl ?_
    refine r_if_ne 918 933 K (dk_of tL_law_5 19 rfl) (by decide) hR (fun hR => ?_) (fun hR => ?_)
    · refine r_aload_n 921 3 K (dk_of tL_law_5 20 rfl) rfl rfl ?_
      refine r_iconst 922 (0 : Int32) K (dk_of tL_law_5 21 rfl) (by decide) ?_
      refine r_lald 923 60 K (dk_of tL_law_5 22 rfl) rfl (vpd (by decide)) ?_
      refine r_iload 924 6 K (dk_of tL_law_5 23 rfl) rfl ?_
      refine r_i2l 926 K (dk_of tL_law_5 24 rfl) ?_
      refine r_lcmp 927 K (dk_of tL_law_5 25 rfl) ?_
      refine r_if_eq 928 933 K (dk_of tL_law_5 26 rfl) (by decide) hR (fun hR => ?_) (fun hR => ?_)
      · refine r_goto 933 2278 K (dk_of tL_law_5 29 rfl) (by decide) ?_
        cases hR
        exact r_msk [true, true, true, true, true, false, false] [some (.ref b), some (.ref as9), some (.ref (am 0)), some (.ref au), some (.int i), none, none] rfl kk
      · exact nn_ hR
    · refine r_goto 933 2278 K (dk_of tL_law_5 29 rfl) (by decide) ?_
      cases hR
      exact r_msk [true, true, true, true, true, false, false] [some (.ref b), some (.ref as9), some (.ref (am 0)), some (.ref au), some (.int i), none, none] rfl kk
  · exact nn_ hR

def st_11 (p1 : Int32) (p2 : Int32) (σ : St) (τ : St) (ν : (Nat → Int32)) (δ : St) (π : (St × Int64)) (ω : (Nat → Int64)) (μ : St) : Option S7 := if p2 = 0 then (b3 (sp_L_team p1 (0 : Int32) σ ω) (fun (x1 : Int32) (σ2 : St) (ω3 : (Nat → Int64)) => if p2 = 0 then (b2 (sp_X10_team p1 (0 : Int32) μ) (fun (x4 : Int32) (μ5 : St) => b1 (sp_X10_thrown μ5) (fun (x6 : Int32) => if x6 = x1 then (if x1 = 0 then (if (lg_cmp (ω3 (0 : Int32).toNatClampNeg) x4.toInt64) = 0 then (some (σ2, τ, ν, δ, π, ω3, μ5)) else (none)) else (some (σ2, τ, ν, δ, π, ω3, μ5))) else (none)))) else (b2 (sp_X10_team p1 (1 : Int32) μ) (fun (x7 : Int32) (μ8 : St) => b1 (sp_X10_thrown μ8) (fun (x9 : Int32) => if x9 = x1 then (if x1 = 0 then (if (lg_cmp (ω3 (0 : Int32).toNatClampNeg) x7.toInt64) = 0 then (some (σ2, τ, ν, δ, π, ω3, μ8)) else (none)) else (some (σ2, τ, ν, δ, π, ω3, μ8))) else (none)))))) else (b3 (sp_L_team p1 (1 : Int32) σ ω) (fun (x10 : Int32) (σ11 : St) (ω12 : (Nat → Int64)) => if p2 = 0 then (b2 (sp_X10_team p1 (0 : Int32) μ) (fun (x13 : Int32) (μ14 : St) => b1 (sp_X10_thrown μ14) (fun (x15 : Int32) => if x15 = x10 then (if x10 = 0 then (if (lg_cmp (ω12 (0 : Int32).toNatClampNeg) x13.toInt64) = 0 then (some (σ11, τ, ν, δ, π, ω12, μ14)) else (none)) else (some (σ11, τ, ν, δ, π, ω12, μ14))) else (none)))) else (b2 (sp_X10_team p1 (1 : Int32) μ) (fun (x16 : Int32) (μ17 : St) => b1 (sp_X10_thrown μ17) (fun (x18 : Int32) => if x18 = x10 then (if x10 = 0 then (if (lg_cmp (ω12 (0 : Int32).toNatClampNeg) x16.toInt64) = 0 then (some (σ11, τ, ν, δ, π, ω12, μ17)) else (none)) else (some (σ11, τ, ν, δ, π, ω12, μ17))) else (none))))))
set_option maxHeartbeats 4000000 in
set_option maxRecDepth 100000 in
theorem law_11 {l : Launch} (hl : l.stackTraces = false) {γ : Gd} {h g : Nat → Nat} {as9 an aq : Nat} {ad ap : Nat → Nat} {au : Nat} {am : Nat → Nat} {r : va_W} {σ : St} {τ : St} {ν : (Nat → Int32)} {δ : St} {π : (St × Int64)} {ω : (Nat → Int64)} {μ : St} {X : CX} {M : MX} {y : MethodName} {tb : List ExceptionTableEntry} {b n : Nat} {xs : Nat → Int32} {i p1 p2 : Int32} {cs ss : Nat} (K : KX l γ X M y cL_law RL 7 rmL (some .boolean) tb) (hX : va_X b n xs (ks X) (ks X).heap) (hbl : b < (ks X).heap.size) (hbA : ¬ Ax X M b) (h1 : ¬ (i + (1 : Int32) < 0 ∨ n ≤ (i + (1 : Int32)).toNatClampNeg)) (e1 : xs (i + (1 : Int32)).toNatClampNeg = p1) (h2 : ¬ (i + (2 : Int32) < 0 ∨ n ≤ (i + (2 : Int32)).toNatClampNeg)) (e2 : xs (i + (2 : Int32)).toNatClampNeg = p2) (hcs : cs + 1 ≤ 1124) (hss : ss + 6 ≤ 9915) {z9 : S7} (hR : some z9 = st_11 p1 p2 σ τ ν δ π ω μ)
    (kk : V l γ X M (wB γ h z9.1 ++ (wB γ g z9.2.1 ++ (wS as9 (h 0) (g 0) an aq (ad 0) (ap 0) ++ (wN an (h 0) z9.2.2.1 ++ (wR aq (h 0) ++ (wD γ ad z9.2.2.2.1 ++ (wP γ ap z9.2.2.2.2.1 ++ (wO γ au z9.2.2.2.2.2.1 ++ (wM γ am z9.2.2.2.2.2.2 ++ (r)))))))))) [some (.ref b), some (.ref as9), some (.ref (am 0)), some (.ref au), some (.int i), none, none] (cs + 1) (ss + 6) 2278 []) : V l γ X M (wB γ h σ ++ (wB γ g τ ++ (wS as9 (h 0) (g 0) an aq (ad 0) (ap 0) ++ (wN an (h 0) ν ++ (wR aq (h 0) ++ (wD γ ad δ ++ (wP γ ap π ++ (wO γ au ω ++ (wM γ am μ ++ (r)))))))))) [some (.ref b), some (.ref as9), some (.ref (am 0)), some (.ref au), some (.int i), none, none] cs ss 936 [] := by
  unfold st_11 at hR
  refine r_aload_n 936 1 K (dk_of tL_law_5 30 rfl) rfl rfl ?_
  refine r_aload_n 937 0 K (dk_of tL_law_5 31 rfl) rfl rfl ?_
  refine r_iload 938 4 K (dk_of tL_law_5 32 rfl) rfl ?_
  refine r_iconst 940 (1 : Int32) K (dk_of tL_law_5 33 rfl) (by decide) ?_
  refine r_iadd 941 K (dk_of tL_law_5 34 rfl) ?_
  refine r_sldN 942 K hX hbl hbA h1 e1 (dk_of tL_law_5 35 rfl) ?_
  refine r_aload_n 943 0 K (dk_of tL_law_5 36 rfl) rfl rfl ?_
  refine r_iload 944 4 K (dk_of tL_law_5 37 rfl) rfl ?_
  refine r_iconst 946 (2 : Int32) K (dk_of tL_law_5 38 rfl) (by decide) ?_
  refine r_iadd 947 K (dk_of tL_law_5 39 rfl) ?_
  refine r_sldN 948 K hX hbl hbA h2 e2 (dk_of tL_law_5 40 rfl) ?_
  refine r_if_eq 949 956 K (dk_of tL_law_5 41 rfl) (by decide) hR (fun hR => ?_) (fun hR => ?_)
  · refine r_iconst 956 (0 : Int32) K (dk_of tL_law_5 44 rfl) (by decide) ?_
    refine r_aload_n 957 3 K (dk_of tL_law_5 45 rfl) rfl rfl ?_
    obtain ⟨x1, σ2, ω3, hc, hR⟩ := o3 hR
    refine r_cSh (mc := 1) (ms := 6) (n := 4) 958 [.ref as9, .int p1, .int (0 : Int32), .ref au] [] x1 (wB γ h σ2 ++ (wB γ g τ ++ (wS as9 (h 0) (g 0) an aq (ad 0) (ap 0) ++ (wN an (h 0) ν ++ (wR aq (h 0) ++ (wD γ ad δ ++ (wP γ ap π ++ (wO γ au ω3 ++ (wM γ am μ ++ (r)))))))))) K (ct_L_team hl hc.symm) w691 w692 w0 cwx_team (by decide +kernel) ⟨rfl, rfl, rfl⟩ (dk_of tL_law_5 46 rfl) rfl rfl rfl ⟨hcs, hss⟩ ?_
    refine r_istore 961 5 [some (.ref b), some (.ref as9), some (.ref (am 0)), some (.ref au), some (.int i), some (.int x1), none] K (dk_of tL_law_5 47 rfl) rfl rfl (by decide) ?_
    refine r_aload_n 963 2 K (dk_of tL_law_5 48 rfl) rfl rfl ?_
    refine r_aload_n 964 0 K (dk_of tL_law_5 49 rfl) rfl rfl ?_
    refine r_iload 965 4 K (dk_of tL_law_5 50 rfl) rfl ?_
    refine r_iconst 967 (1 : Int32) K (dk_of tL_law_5 51 rfl) (by decide) ?_
    refine r_iadd 968 K (dk_of tL_law_5 52 rfl) ?_
    refine r_sldN 969 K hX hbl hbA h1 e1 (dk_of tL_law_5 53 rfl) ?_
    refine r_aload_n 970 0 K (dk_of tL_law_5 54 rfl) rfl rfl ?_
    refine r_iload 971 4 K (dk_of tL_law_5 55 rfl) rfl ?_
    refine r_iconst 973 (2 : Int32) K (dk_of tL_law_5 56 rfl) (by decide) ?_
    refine r_iadd 974 K (dk_of tL_law_5 57 rfl) ?_
    refine r_sldN 975 K hX hbl hbA h2 e2 (dk_of tL_law_5 58 rfl) ?_
    refine r_if_eq 976 983 K (dk_of tL_law_5 59 rfl) (by decide) hR (fun hR => ?_) (fun hR => ?_)
    · refine r_iconst 983 (0 : Int32) K (dk_of tL_law_5 62 rfl) (by decide) ?_
      obtain ⟨x4, μ5, hc, hR⟩ := o2 hR
      refine r_perm (wM γ am μ ++ (wB γ h σ2 ++ (wB γ g τ ++ (wS as9 (h 0) (g 0) an aq (ad 0) (ap 0) ++ (wN an (h 0) ν ++ (wR aq (h 0) ++ (wD γ ad δ ++ (wP γ ap π ++ (wO γ au ω3 ++ (r)))))))))) (permF _ _ _ _ _ _ _ _ _ _) 984 ?_
      refine r_cVi 984 0 [.int p1, .int (0 : Int32)] [] x4 (wM γ am μ5 ++ (wB γ h σ2 ++ (wB γ g τ ++ (wS as9 (h 0) (g 0) an aq (ad 0) (ap 0) ++ (wN an (h 0) ν ++ (wR aq (h 0) ++ (wD γ ad δ ++ (wP γ ap π ++ (wO γ au ω3 ++ (r)))))))))) K (ct_X10_team hl hc.symm) cs_L_163 ⟨rfl, rfl, rfl⟩ (dk_of tL_law_5 63 rfl) rfl rfl rfl rfl rfl (bb_ hcs hss) ?_
      refine r_perm (wB γ h σ2 ++ (wB γ g τ ++ (wS as9 (h 0) (g 0) an aq (ad 0) (ap 0) ++ (wN an (h 0) ν ++ (wR aq (h 0) ++ (wD γ ad δ ++ (wP γ ap π ++ (wO γ au ω3 ++ (wM γ am μ5 ++ (r)))))))))) (permB _ _ _ _ _ _ _ _ _ _) 987 ?_
      refine r_istore 987 6 [some (.ref b), some (.ref as9), some (.ref (am 0)), some (.ref au), some (.int i), some (.int x1), some (.int x4)] K (dk_of tL_law_5 64 rfl) rfl rfl (by decide) ?_
      refine r_aload_n 989 2 K (dk_of tL_law_5 65 rfl) rfl rfl ?_
      obtain ⟨x6, hc, hR⟩ := o1 hR
      refine r_perm (wM γ am μ5 ++ (wB γ h σ2 ++ (wB γ g τ ++ (wS as9 (h 0) (g 0) an aq (ad 0) (ap 0) ++ (wN an (h 0) ν ++ (wR aq (h 0) ++ (wD γ ad δ ++ (wP γ ap π ++ (wO γ au ω3 ++ (r)))))))))) (permF _ _ _ _ _ _ _ _ _ _) 990 ?_
      refine r_cVi 990 0 [] [] x6 (wM γ am μ5 ++ (wB γ h σ2 ++ (wB γ g τ ++ (wS as9 (h 0) (g 0) an aq (ad 0) (ap 0) ++ (wN an (h 0) ν ++ (wR aq (h 0) ++ (wD γ ad δ ++ (wP γ ap π ++ (wO γ au ω3 ++ (r)))))))))) K (ct_X10_thrown hl hc.symm) cs_L_124 ⟨rfl, rfl, rfl⟩ (dk_of tL_law_5 66 rfl) rfl rfl rfl rfl rfl (bb_ hcs hss) ?_
      refine r_perm (wB γ h σ2 ++ (wB γ g τ ++ (wS as9 (h 0) (g 0) an aq (ad 0) (ap 0) ++ (wN an (h 0) ν ++ (wR aq (h 0) ++ (wD γ ad δ ++ (wP γ ap π ++ (wO γ au ω3 ++ (wM γ am μ5 ++ (r)))))))))) (permB _ _ _ _ _ _ _ _ _ _) 993 ?_
      refine r_iload 993 5 K (dk_of tL_law_5 67 rfl) rfl ?_
      refine r_ic_eq 995 1000 K (dk_of tL_law_5 68 rfl) (by decide) hR (fun hR => ?_) (fun hR => ?_)
      · refine r_iload 1000 5 K (dk_of tL_law_5 71 rfl) rfl ?_
        refine r_if_ne 1002 1017 K (dk_of tL_law_5 72 rfl) (by decide) hR (fun hR => ?_) (fun hR => ?_)
        · refine r_aload_n 1005 3 K (dk_of tL_law_5 73 rfl) rfl rfl ?_
          refine r_iconst 1006 (0 : Int32) K (dk_of tL_law_5 74 rfl) (by decide) ?_
          refine r_lald 1007 60 K (dk_of tL_law_5 75 rfl) rfl (vpd (by decide)) ?_
          refine r_iload 1008 6 K (dk_of tL_law_5 76 rfl) rfl ?_
          refine r_i2l 1010 K (dk_of tL_law_5 77 rfl) ?_
          refine r_lcmp 1011 K (dk_of tL_law_5 78 rfl) ?_
          refine r_if_eq 1012 1017 K (dk_of tL_law_5 79 rfl) (by decide) hR (fun hR => ?_) (fun hR => ?_)
          · refine r_goto 1017 2278 K (dk_of tL_law_5 82 rfl) (by decide) ?_
            cases hR
            exact r_msk [true, true, true, true, true, false, false] [some (.ref b), some (.ref as9), some (.ref (am 0)), some (.ref au), some (.int i), none, none] rfl kk
          · exact nn_ hR
        · refine r_goto 1017 2278 K (dk_of tL_law_5 82 rfl) (by decide) ?_
          cases hR
          exact r_msk [true, true, true, true, true, false, false] [some (.ref b), some (.ref as9), some (.ref (am 0)), some (.ref au), some (.int i), none, none] rfl kk
      · exact nn_ hR
    · refine r_iconst 979 (1 : Int32) K (dk_of tL_law_5 60 rfl) (by decide) ?_
      refine r_goto 980 984 K (dk_of tL_law_5 61 rfl) (by decide) ?_
      obtain ⟨x7, μ8, hc, hR⟩ := o2 hR
      refine r_perm (wM γ am μ ++ (wB γ h σ2 ++ (wB γ g τ ++ (wS as9 (h 0) (g 0) an aq (ad 0) (ap 0) ++ (wN an (h 0) ν ++ (wR aq (h 0) ++ (wD γ ad δ ++ (wP γ ap π ++ (wO γ au ω3 ++ (r)))))))))) (permF _ _ _ _ _ _ _ _ _ _) 984 ?_
      refine r_cVi 984 0 [.int p1, .int (1 : Int32)] [] x7 (wM γ am μ8 ++ (wB γ h σ2 ++ (wB γ g τ ++ (wS as9 (h 0) (g 0) an aq (ad 0) (ap 0) ++ (wN an (h 0) ν ++ (wR aq (h 0) ++ (wD γ ad δ ++ (wP γ ap π ++ (wO γ au ω3 ++ (r)))))))))) K (ct_X10_team hl hc.symm) cs_L_163 ⟨rfl, rfl, rfl⟩ (dk_of tL_law_5 63 rfl) rfl rfl rfl rfl rfl (bb_ hcs hss) ?_
      refine r_perm (wB γ h σ2 ++ (wB γ g τ ++ (wS as9 (h 0) (g 0) an aq (ad 0) (ap 0) ++ (wN an (h 0) ν ++ (wR aq (h 0) ++ (wD γ ad δ ++ (wP γ ap π ++ (wO γ au ω3 ++ (wM γ am μ8 ++ (r)))))))))) (permB _ _ _ _ _ _ _ _ _ _) 987 ?_
      refine r_istore 987 6 [some (.ref b), some (.ref as9), some (.ref (am 0)), some (.ref au), some (.int i), some (.int x1), some (.int x7)] K (dk_of tL_law_5 64 rfl) rfl rfl (by decide) ?_
      refine r_aload_n 989 2 K (dk_of tL_law_5 65 rfl) rfl rfl ?_
      obtain ⟨x9, hc, hR⟩ := o1 hR
      refine r_perm (wM γ am μ8 ++ (wB γ h σ2 ++ (wB γ g τ ++ (wS as9 (h 0) (g 0) an aq (ad 0) (ap 0) ++ (wN an (h 0) ν ++ (wR aq (h 0) ++ (wD γ ad δ ++ (wP γ ap π ++ (wO γ au ω3 ++ (r)))))))))) (permF _ _ _ _ _ _ _ _ _ _) 990 ?_
      refine r_cVi 990 0 [] [] x9 (wM γ am μ8 ++ (wB γ h σ2 ++ (wB γ g τ ++ (wS as9 (h 0) (g 0) an aq (ad 0) (ap 0) ++ (wN an (h 0) ν ++ (wR aq (h 0) ++ (wD γ ad δ ++ (wP γ ap π ++ (wO γ au ω3 ++ (r)))))))))) K (ct_X10_thrown hl hc.symm) cs_L_124 ⟨rfl, rfl, rfl⟩ (dk_of tL_law_5 66 rfl) rfl rfl rfl rfl rfl (bb_ hcs hss) ?_
      refine r_perm (wB γ h σ2 ++ (wB γ g τ ++ (wS as9 (h 0) (g 0) an aq (ad 0) (ap 0) ++ (wN an (h 0) ν ++ (wR aq (h 0) ++ (wD γ ad δ ++ (wP γ ap π ++ (wO γ au ω3 ++ (wM γ am μ8 ++ (r)))))))))) (permB _ _ _ _ _ _ _ _ _ _) 993 ?_
      refine r_iload 993 5 K (dk_of tL_law_5 67 rfl) rfl ?_
      refine r_ic_eq 995 1000 K (dk_of tL_law_5 68 rfl) (by decide) hR (fun hR => ?_) (fun hR => ?_)
      · refine r_iload 1000 5 K (dk_of tL_law_5 71 rfl) rfl ?_
        refine r_if_ne 1002 1017 K (dk_of tL_law_5 72 rfl) (by decide) hR (fun hR => ?_) (fun hR => ?_)
        · refine r_aload_n 1005 3 K (dk_of tL_law_5 73 rfl) rfl rfl ?_
          refine r_iconst 1006 (0 : Int32) K (dk_of tL_law_5 74 rfl) (by decide) ?_
          refine r_lald 1007 60 K (dk_of tL_law_5 75 rfl) rfl (vpd (by decide)) ?_
          refine r_iload 1008 6 K (dk_of tL_law_5 76 rfl) rfl ?_
          refine r_i2l 1010 K (dk_of tL_law_5 77 rfl) ?_
          refine r_lcmp 1011 K (dk_of tL_law_5 78 rfl) ?_
          refine r_if_eq 1012 1017 K (dk_of tL_law_5 79 rfl) (by decide) hR (fun hR => ?_) (fun hR => ?_)
          · refine r_goto 1017 2278 K (dk_of tL_law_5 82 rfl) (by decide) ?_
            cases hR
            exact r_msk [true, true, true, true, true, false, false] [some (.ref b), some (.ref as9), some (.ref (am 0)), some (.ref au), some (.int i), none, none] rfl kk
          · exact nn_ hR
        · refine r_goto 1017 2278 K (dk_of tL_law_5 82 rfl) (by decide) ?_
          cases hR
          exact r_msk [true, true, true, true, true, false, false] [some (.ref b), some (.ref as9), some (.ref (am 0)), some (.ref au), some (.int i), none, none] rfl kk
      · exact nn_ hR
  · refine r_iconst 952 (1 : Int32) K (dk_of tL_law_5 42 rfl) (by decide) ?_
    refine r_goto 953 957 K (dk_of tL_law_5 43 rfl) (by decide) ?_
    refine r_aload_n 957 3 K (dk_of tL_law_5 45 rfl) rfl rfl ?_
    obtain ⟨x10, σ11, ω12, hc, hR⟩ := o3 hR
    refine r_cSh (mc := 1) (ms := 6) (n := 4) 958 [.ref as9, .int p1, .int (1 : Int32), .ref au] [] x10 (wB γ h σ11 ++ (wB γ g τ ++ (wS as9 (h 0) (g 0) an aq (ad 0) (ap 0) ++ (wN an (h 0) ν ++ (wR aq (h 0) ++ (wD γ ad δ ++ (wP γ ap π ++ (wO γ au ω12 ++ (wM γ am μ ++ (r)))))))))) K (ct_L_team hl hc.symm) w691 w692 w0 cwx_team (by decide +kernel) ⟨rfl, rfl, rfl⟩ (dk_of tL_law_5 46 rfl) rfl rfl rfl ⟨hcs, hss⟩ ?_
    refine r_istore 961 5 [some (.ref b), some (.ref as9), some (.ref (am 0)), some (.ref au), some (.int i), some (.int x10), none] K (dk_of tL_law_5 47 rfl) rfl rfl (by decide) ?_
    refine r_aload_n 963 2 K (dk_of tL_law_5 48 rfl) rfl rfl ?_
    refine r_aload_n 964 0 K (dk_of tL_law_5 49 rfl) rfl rfl ?_
    refine r_iload 965 4 K (dk_of tL_law_5 50 rfl) rfl ?_
    refine r_iconst 967 (1 : Int32) K (dk_of tL_law_5 51 rfl) (by decide) ?_
    refine r_iadd 968 K (dk_of tL_law_5 52 rfl) ?_
    refine r_sldN 969 K hX hbl hbA h1 e1 (dk_of tL_law_5 53 rfl) ?_
    refine r_aload_n 970 0 K (dk_of tL_law_5 54 rfl) rfl rfl ?_
    refine r_iload 971 4 K (dk_of tL_law_5 55 rfl) rfl ?_
    refine r_iconst 973 (2 : Int32) K (dk_of tL_law_5 56 rfl) (by decide) ?_
    refine r_iadd 974 K (dk_of tL_law_5 57 rfl) ?_
    refine r_sldN 975 K hX hbl hbA h2 e2 (dk_of tL_law_5 58 rfl) ?_
    refine r_if_eq 976 983 K (dk_of tL_law_5 59 rfl) (by decide) hR (fun hR => ?_) (fun hR => ?_)
    · refine r_iconst 983 (0 : Int32) K (dk_of tL_law_5 62 rfl) (by decide) ?_
      obtain ⟨x13, μ14, hc, hR⟩ := o2 hR
      refine r_perm (wM γ am μ ++ (wB γ h σ11 ++ (wB γ g τ ++ (wS as9 (h 0) (g 0) an aq (ad 0) (ap 0) ++ (wN an (h 0) ν ++ (wR aq (h 0) ++ (wD γ ad δ ++ (wP γ ap π ++ (wO γ au ω12 ++ (r)))))))))) (permF _ _ _ _ _ _ _ _ _ _) 984 ?_
      refine r_cVi 984 0 [.int p1, .int (0 : Int32)] [] x13 (wM γ am μ14 ++ (wB γ h σ11 ++ (wB γ g τ ++ (wS as9 (h 0) (g 0) an aq (ad 0) (ap 0) ++ (wN an (h 0) ν ++ (wR aq (h 0) ++ (wD γ ad δ ++ (wP γ ap π ++ (wO γ au ω12 ++ (r)))))))))) K (ct_X10_team hl hc.symm) cs_L_163 ⟨rfl, rfl, rfl⟩ (dk_of tL_law_5 63 rfl) rfl rfl rfl rfl rfl (bb_ hcs hss) ?_
      refine r_perm (wB γ h σ11 ++ (wB γ g τ ++ (wS as9 (h 0) (g 0) an aq (ad 0) (ap 0) ++ (wN an (h 0) ν ++ (wR aq (h 0) ++ (wD γ ad δ ++ (wP γ ap π ++ (wO γ au ω12 ++ (wM γ am μ14 ++ (r)))))))))) (permB _ _ _ _ _ _ _ _ _ _) 987 ?_
      refine r_istore 987 6 [some (.ref b), some (.ref as9), some (.ref (am 0)), some (.ref au), some (.int i), some (.int x10), some (.int x13)] K (dk_of tL_law_5 64 rfl) rfl rfl (by decide) ?_
      refine r_aload_n 989 2 K (dk_of tL_law_5 65 rfl) rfl rfl ?_
      obtain ⟨x15, hc, hR⟩ := o1 hR
      refine r_perm (wM γ am μ14 ++ (wB γ h σ11 ++ (wB γ g τ ++ (wS as9 (h 0) (g 0) an aq (ad 0) (ap 0) ++ (wN an (h 0) ν ++ (wR aq (h 0) ++ (wD γ ad δ ++ (wP γ ap π ++ (wO γ au ω12 ++ (r)))))))))) (permF _ _ _ _ _ _ _ _ _ _) 990 ?_
      refine r_cVi 990 0 [] [] x15 (wM γ am μ14 ++ (wB γ h σ11 ++ (wB γ g τ ++ (wS as9 (h 0) (g 0) an aq (ad 0) (ap 0) ++ (wN an (h 0) ν ++ (wR aq (h 0) ++ (wD γ ad δ ++ (wP γ ap π ++ (wO γ au ω12 ++ (r)))))))))) K (ct_X10_thrown hl hc.symm) cs_L_124 ⟨rfl, rfl, rfl⟩ (dk_of tL_law_5 66 rfl) rfl rfl rfl rfl rfl (bb_ hcs hss) ?_
      refine r_perm (wB γ h σ11 ++ (wB γ g τ ++ (wS as9 (h 0) (g 0) an aq (ad 0) (ap 0) ++ (wN an (h 0) ν ++ (wR aq (h 0) ++ (wD γ ad δ ++ (wP γ ap π ++ (wO γ au ω12 ++ (wM γ am μ14 ++ (r)))))))))) (permB _ _ _ _ _ _ _ _ _ _) 993 ?_
      refine r_iload 993 5 K (dk_of tL_law_5 67 rfl) rfl ?_
      refine r_ic_eq 995 1000 K (dk_of tL_law_5 68 rfl) (by decide) hR (fun hR => ?_) (fun hR => ?_)
      · refine r_iload 1000 5 K (dk_of tL_law_5 71 rfl) rfl ?_
        refine r_if_ne 1002 1017 K (dk_of tL_law_5 72 rfl) (by decide) hR (fun hR => ?_) (fun hR => ?_)
        · refine r_aload_n 1005 3 K (dk_of tL_law_5 73 rfl) rfl rfl ?_
          refine r_iconst 1006 (0 : Int32) K (dk_of tL_law_5 74 rfl) (by decide) ?_
          refine r_lald 1007 60 K (dk_of tL_law_5 75 rfl) rfl (vpd (by decide)) ?_
          refine r_iload 1008 6 K (dk_of tL_law_5 76 rfl) rfl ?_
          refine r_i2l 1010 K (dk_of tL_law_5 77 rfl) ?_
          refine r_lcmp 1011 K (dk_of tL_law_5 78 rfl) ?_
          refine r_if_eq 1012 1017 K (dk_of tL_law_5 79 rfl) (by decide) hR (fun hR => ?_) (fun hR => ?_)
          · refine r_goto 1017 2278 K (dk_of tL_law_5 82 rfl) (by decide) ?_
            cases hR
            exact r_msk [true, true, true, true, true, false, false] [some (.ref b), some (.ref as9), some (.ref (am 0)), some (.ref au), some (.int i), none, none] rfl kk
          · exact nn_ hR
        · refine r_goto 1017 2278 K (dk_of tL_law_5 82 rfl) (by decide) ?_
          cases hR
          exact r_msk [true, true, true, true, true, false, false] [some (.ref b), some (.ref as9), some (.ref (am 0)), some (.ref au), some (.int i), none, none] rfl kk
      · exact nn_ hR
    · refine r_iconst 979 (1 : Int32) K (dk_of tL_law_5 60 rfl) (by decide) ?_
      refine r_goto 980 984 K (dk_of tL_law_5 61 rfl) (by decide) ?_
      obtain ⟨x16, μ17, hc, hR⟩ := o2 hR
      refine r_perm (wM γ am μ ++ (wB γ h σ11 ++ (wB γ g τ ++ (wS as9 (h 0) (g 0) an aq (ad 0) (ap 0) ++ (wN an (h 0) ν ++ (wR aq (h 0) ++ (wD γ ad δ ++ (wP γ ap π ++ (wO γ au ω12 ++ (r)))))))))) (permF _ _ _ _ _ _ _ _ _ _) 984 ?_
      refine r_cVi 984 0 [.int p1, .int (1 : Int32)] [] x16 (wM γ am μ17 ++ (wB γ h σ11 ++ (wB γ g τ ++ (wS as9 (h 0) (g 0) an aq (ad 0) (ap 0) ++ (wN an (h 0) ν ++ (wR aq (h 0) ++ (wD γ ad δ ++ (wP γ ap π ++ (wO γ au ω12 ++ (r)))))))))) K (ct_X10_team hl hc.symm) cs_L_163 ⟨rfl, rfl, rfl⟩ (dk_of tL_law_5 63 rfl) rfl rfl rfl rfl rfl (bb_ hcs hss) ?_
      refine r_perm (wB γ h σ11 ++ (wB γ g τ ++ (wS as9 (h 0) (g 0) an aq (ad 0) (ap 0) ++ (wN an (h 0) ν ++ (wR aq (h 0) ++ (wD γ ad δ ++ (wP γ ap π ++ (wO γ au ω12 ++ (wM γ am μ17 ++ (r)))))))))) (permB _ _ _ _ _ _ _ _ _ _) 987 ?_
      refine r_istore 987 6 [some (.ref b), some (.ref as9), some (.ref (am 0)), some (.ref au), some (.int i), some (.int x10), some (.int x16)] K (dk_of tL_law_5 64 rfl) rfl rfl (by decide) ?_
      refine r_aload_n 989 2 K (dk_of tL_law_5 65 rfl) rfl rfl ?_
      obtain ⟨x18, hc, hR⟩ := o1 hR
      refine r_perm (wM γ am μ17 ++ (wB γ h σ11 ++ (wB γ g τ ++ (wS as9 (h 0) (g 0) an aq (ad 0) (ap 0) ++ (wN an (h 0) ν ++ (wR aq (h 0) ++ (wD γ ad δ ++ (wP γ ap π ++ (wO γ au ω12 ++ (r)))))))))) (permF _ _ _ _ _ _ _ _ _ _) 990 ?_
      refine r_cVi 990 0 [] [] x18 (wM γ am μ17 ++ (wB γ h σ11 ++ (wB γ g τ ++ (wS as9 (h 0) (g 0) an aq (ad 0) (ap 0) ++ (wN an (h 0) ν ++ (wR aq (h 0) ++ (wD γ ad δ ++ (wP γ ap π ++ (wO γ au ω12 ++ (r)))))))))) K (ct_X10_thrown hl hc.symm) cs_L_124 ⟨rfl, rfl, rfl⟩ (dk_of tL_law_5 66 rfl) rfl rfl rfl rfl rfl (bb_ hcs hss) ?_
      refine r_perm (wB γ h σ11 ++ (wB γ g τ ++ (wS as9 (h 0) (g 0) an aq (ad 0) (ap 0) ++ (wN an (h 0) ν ++ (wR aq (h 0) ++ (wD γ ad δ ++ (wP γ ap π ++ (wO γ au ω12 ++ (wM γ am μ17 ++ (r)))))))))) (permB _ _ _ _ _ _ _ _ _ _) 993 ?_
      refine r_iload 993 5 K (dk_of tL_law_5 67 rfl) rfl ?_
      refine r_ic_eq 995 1000 K (dk_of tL_law_5 68 rfl) (by decide) hR (fun hR => ?_) (fun hR => ?_)
      · refine r_iload 1000 5 K (dk_of tL_law_5 71 rfl) rfl ?_
        refine r_if_ne 1002 1017 K (dk_of tL_law_5 72 rfl) (by decide) hR (fun hR => ?_) (fun hR => ?_)
        · refine r_aload_n 1005 3 K (dk_of tL_law_5 73 rfl) rfl rfl ?_
          refine r_iconst 1006 (0 : Int32) K (dk_of tL_law_5 74 rfl) (by decide) ?_
          refine r_lald 1007 60 K (dk_of tL_law_5 75 rfl) rfl (vpd (by decide)) ?_
          refine r_iload 1008 6 K (dk_of tL_law_5 76 rfl) rfl ?_
          refine r_i2l 1010 K (dk_of tL_law_5 77 rfl) ?_
          refine r_lcmp 1011 K (dk_of tL_law_5 78 rfl) ?_
          refine r_if_eq 1012 1017 K (dk_of tL_law_5 79 rfl) (by decide) hR (fun hR => ?_) (fun hR => ?_)
          · refine r_goto 1017 2278 K (dk_of tL_law_5 82 rfl) (by decide) ?_
            cases hR
            exact r_msk [true, true, true, true, true, false, false] [some (.ref b), some (.ref as9), some (.ref (am 0)), some (.ref au), some (.int i), none, none] rfl kk
          · exact nn_ hR
        · refine r_goto 1017 2278 K (dk_of tL_law_5 82 rfl) (by decide) ?_
          cases hR
          exact r_msk [true, true, true, true, true, false, false] [some (.ref b), some (.ref as9), some (.ref (am 0)), some (.ref au), some (.int i), none, none] rfl kk
      · exact nn_ hR

def st_12 (p1 : Int32) (p2 : Int32) (σ : St) (τ : St) (ν : (Nat → Int32)) (δ : St) (π : (St × Int64)) (ω : (Nat → Int64)) (μ : St) : Option S7 := b3 (sp_L_move p1 p2 σ ω) (fun (x1 : Int32) (σ2 : St) (ω3 : (Nat → Int64)) => b2 (sp_X10_move p1 p2 μ) (fun (x4 : Int32) (μ5 : St) => b1 (sp_X10_thrown μ5) (fun (x6 : Int32) => if x6 = x1 then (if x1 = 0 then (if (lg_cmp (ω3 (0 : Int32).toNatClampNeg) x4.toInt64) = 0 then (some (σ2, τ, ν, δ, π, ω3, μ5)) else (none)) else (some (σ2, τ, ν, δ, π, ω3, μ5))) else (none))))
set_option maxHeartbeats 4000000 in
set_option maxRecDepth 100000 in
theorem law_12 {l : Launch} (hl : l.stackTraces = false) {γ : Gd} {h g : Nat → Nat} {as9 an aq : Nat} {ad ap : Nat → Nat} {au : Nat} {am : Nat → Nat} {r : va_W} {σ : St} {τ : St} {ν : (Nat → Int32)} {δ : St} {π : (St × Int64)} {ω : (Nat → Int64)} {μ : St} {X : CX} {M : MX} {y : MethodName} {tb : List ExceptionTableEntry} {b n : Nat} {xs : Nat → Int32} {i p1 p2 : Int32} {cs ss : Nat} (K : KX l γ X M y cL_law RL 7 rmL (some .boolean) tb) (hX : va_X b n xs (ks X) (ks X).heap) (hbl : b < (ks X).heap.size) (hbA : ¬ Ax X M b) (h1 : ¬ (i + (1 : Int32) < 0 ∨ n ≤ (i + (1 : Int32)).toNatClampNeg)) (e1 : xs (i + (1 : Int32)).toNatClampNeg = p1) (h2 : ¬ (i + (2 : Int32) < 0 ∨ n ≤ (i + (2 : Int32)).toNatClampNeg)) (e2 : xs (i + (2 : Int32)).toNatClampNeg = p2) (hcs : cs + 1 ≤ 1124) (hss : ss + 6 ≤ 9915) {z9 : S7} (hR : some z9 = st_12 p1 p2 σ τ ν δ π ω μ)
    (kk : V l γ X M (wB γ h z9.1 ++ (wB γ g z9.2.1 ++ (wS as9 (h 0) (g 0) an aq (ad 0) (ap 0) ++ (wN an (h 0) z9.2.2.1 ++ (wR aq (h 0) ++ (wD γ ad z9.2.2.2.1 ++ (wP γ ap z9.2.2.2.2.1 ++ (wO γ au z9.2.2.2.2.2.1 ++ (wM γ am z9.2.2.2.2.2.2 ++ (r)))))))))) [some (.ref b), some (.ref as9), some (.ref (am 0)), some (.ref au), some (.int i), none, none] (cs + 1) (ss + 6) 2278 []) : V l γ X M (wB γ h σ ++ (wB γ g τ ++ (wS as9 (h 0) (g 0) an aq (ad 0) (ap 0) ++ (wN an (h 0) ν ++ (wR aq (h 0) ++ (wD γ ad δ ++ (wP γ ap π ++ (wO γ au ω ++ (wM γ am μ ++ (r)))))))))) [some (.ref b), some (.ref as9), some (.ref (am 0)), some (.ref au), some (.int i), none, none] cs ss 1020 [] := by
  unfold st_12 at hR
  refine r_aload_n 1020 1 K (dk_of tL_law_5 83 rfl) rfl rfl ?_
  refine r_aload_n 1021 0 K (dk_of tL_law_5 84 rfl) rfl rfl ?_
  refine r_iload 1022 4 K (dk_of tL_law_5 85 rfl) rfl ?_
  refine r_iconst 1024 (1 : Int32) K (dk_of tL_law_5 86 rfl) (by decide) ?_
  refine r_iadd 1025 K (dk_of tL_law_5 87 rfl) ?_
  refine r_sldN 1026 K hX hbl hbA h1 e1 (dk_of tL_law_5 88 rfl) ?_
  refine r_aload_n 1027 0 K (dk_of tL_law_5 89 rfl) rfl rfl ?_
  refine r_iload 1028 4 K (dk_of tL_law_5 90 rfl) rfl ?_
  refine r_iconst 1030 (2 : Int32) K (dk_of tL_law_5 91 rfl) (by decide) ?_
  refine r_iadd 1031 K (dk_of tL_law_5 92 rfl) ?_
  refine r_sldN 1032 K hX hbl hbA h2 e2 (dk_of tL_law_5 93 rfl) ?_
  refine r_aload_n 1033 3 K (dk_of tL_law_5 94 rfl) rfl rfl ?_
  obtain ⟨x1, σ2, ω3, hc, hR⟩ := o3 hR
  refine r_cSh (mc := 1) (ms := 6) (n := 4) 1034 [.ref as9, .int p1, .int p2, .ref au] [] x1 (wB γ h σ2 ++ (wB γ g τ ++ (wS as9 (h 0) (g 0) an aq (ad 0) (ap 0) ++ (wN an (h 0) ν ++ (wR aq (h 0) ++ (wD γ ad δ ++ (wP γ ap π ++ (wO γ au ω3 ++ (wM γ am μ ++ (r)))))))))) K (ct_L_move hl hc.symm) w698 w699 w0 cwx_move (by decide +kernel) ⟨rfl, rfl, rfl⟩ (dk_of tL_law_5 95 rfl) rfl rfl rfl ⟨hcs, hss⟩ ?_
  refine r_istore 1037 5 [some (.ref b), some (.ref as9), some (.ref (am 0)), some (.ref au), some (.int i), some (.int x1), none] K (dk_of tL_law_5 96 rfl) rfl rfl (by decide) ?_
  refine r_aload_n 1039 2 K (dk_of tL_law_5 97 rfl) rfl rfl ?_
  refine r_aload_n 1040 0 K (dk_of tL_law_5 98 rfl) rfl rfl ?_
  refine r_iload 1041 4 K (dk_of tL_law_5 99 rfl) rfl ?_
  refine r_iconst 1043 (1 : Int32) K (dk_of tL_law_6 0 rfl) (by decide) ?_
  refine r_iadd 1044 K (dk_of tL_law_6 1 rfl) ?_
  refine r_sldN 1045 K hX hbl hbA h1 e1 (dk_of tL_law_6 2 rfl) ?_
  refine r_aload_n 1046 0 K (dk_of tL_law_6 3 rfl) rfl rfl ?_
  refine r_iload 1047 4 K (dk_of tL_law_6 4 rfl) rfl ?_
  refine r_iconst 1049 (2 : Int32) K (dk_of tL_law_6 5 rfl) (by decide) ?_
  refine r_iadd 1050 K (dk_of tL_law_6 6 rfl) ?_
  refine r_sldN 1051 K hX hbl hbA h2 e2 (dk_of tL_law_6 7 rfl) ?_
  obtain ⟨x4, μ5, hc, hR⟩ := o2 hR
  refine r_perm (wM γ am μ ++ (wB γ h σ2 ++ (wB γ g τ ++ (wS as9 (h 0) (g 0) an aq (ad 0) (ap 0) ++ (wN an (h 0) ν ++ (wR aq (h 0) ++ (wD γ ad δ ++ (wP γ ap π ++ (wO γ au ω3 ++ (r)))))))))) (permF _ _ _ _ _ _ _ _ _ _) 1052 ?_
  refine r_cVi 1052 0 [.int p1, .int p2] [] x4 (wM γ am μ5 ++ (wB γ h σ2 ++ (wB γ g τ ++ (wS as9 (h 0) (g 0) an aq (ad 0) (ap 0) ++ (wN an (h 0) ν ++ (wR aq (h 0) ++ (wD γ ad δ ++ (wP γ ap π ++ (wO γ au ω3 ++ (r)))))))))) K (ct_X10_move hl hc.symm) cs_L_166 ⟨rfl, rfl, rfl⟩ (dk_of tL_law_6 8 rfl) rfl rfl rfl rfl rfl (bb_ hcs hss) ?_
  refine r_perm (wB γ h σ2 ++ (wB γ g τ ++ (wS as9 (h 0) (g 0) an aq (ad 0) (ap 0) ++ (wN an (h 0) ν ++ (wR aq (h 0) ++ (wD γ ad δ ++ (wP γ ap π ++ (wO γ au ω3 ++ (wM γ am μ5 ++ (r)))))))))) (permB _ _ _ _ _ _ _ _ _ _) 1055 ?_
  refine r_istore 1055 6 [some (.ref b), some (.ref as9), some (.ref (am 0)), some (.ref au), some (.int i), some (.int x1), some (.int x4)] K (dk_of tL_law_6 9 rfl) rfl rfl (by decide) ?_
  refine r_aload_n 1057 2 K (dk_of tL_law_6 10 rfl) rfl rfl ?_
  obtain ⟨x6, hc, hR⟩ := o1 hR
  refine r_perm (wM γ am μ5 ++ (wB γ h σ2 ++ (wB γ g τ ++ (wS as9 (h 0) (g 0) an aq (ad 0) (ap 0) ++ (wN an (h 0) ν ++ (wR aq (h 0) ++ (wD γ ad δ ++ (wP γ ap π ++ (wO γ au ω3 ++ (r)))))))))) (permF _ _ _ _ _ _ _ _ _ _) 1058 ?_
  refine r_cVi 1058 0 [] [] x6 (wM γ am μ5 ++ (wB γ h σ2 ++ (wB γ g τ ++ (wS as9 (h 0) (g 0) an aq (ad 0) (ap 0) ++ (wN an (h 0) ν ++ (wR aq (h 0) ++ (wD γ ad δ ++ (wP γ ap π ++ (wO γ au ω3 ++ (r)))))))))) K (ct_X10_thrown hl hc.symm) cs_L_124 ⟨rfl, rfl, rfl⟩ (dk_of tL_law_6 11 rfl) rfl rfl rfl rfl rfl (bb_ hcs hss) ?_
  refine r_perm (wB γ h σ2 ++ (wB γ g τ ++ (wS as9 (h 0) (g 0) an aq (ad 0) (ap 0) ++ (wN an (h 0) ν ++ (wR aq (h 0) ++ (wD γ ad δ ++ (wP γ ap π ++ (wO γ au ω3 ++ (wM γ am μ5 ++ (r)))))))))) (permB _ _ _ _ _ _ _ _ _ _) 1061 ?_
  refine r_iload 1061 5 K (dk_of tL_law_6 12 rfl) rfl ?_
  refine r_ic_eq 1063 1068 K (dk_of tL_law_6 13 rfl) (by decide) hR (fun hR => ?_) (fun hR => ?_)
  · refine r_iload 1068 5 K (dk_of tL_law_6 16 rfl) rfl ?_
    refine r_if_ne 1070 1085 K (dk_of tL_law_6 17 rfl) (by decide) hR (fun hR => ?_) (fun hR => ?_)
    · refine r_aload_n 1073 3 K (dk_of tL_law_6 18 rfl) rfl rfl ?_
      refine r_iconst 1074 (0 : Int32) K (dk_of tL_law_6 19 rfl) (by decide) ?_
      refine r_lald 1075 60 K (dk_of tL_law_6 20 rfl) rfl (vpd (by decide)) ?_
      refine r_iload 1076 6 K (dk_of tL_law_6 21 rfl) rfl ?_
      refine r_i2l 1078 K (dk_of tL_law_6 22 rfl) ?_
      refine r_lcmp 1079 K (dk_of tL_law_6 23 rfl) ?_
      refine r_if_eq 1080 1085 K (dk_of tL_law_6 24 rfl) (by decide) hR (fun hR => ?_) (fun hR => ?_)
      · refine r_goto 1085 2278 K (dk_of tL_law_6 27 rfl) (by decide) ?_
        cases hR
        exact r_msk [true, true, true, true, true, false, false] [some (.ref b), some (.ref as9), some (.ref (am 0)), some (.ref au), some (.int i), none, none] rfl kk
      · exact nn_ hR
    · refine r_goto 1085 2278 K (dk_of tL_law_6 27 rfl) (by decide) ?_
      cases hR
      exact r_msk [true, true, true, true, true, false, false] [some (.ref b), some (.ref as9), some (.ref (am 0)), some (.ref au), some (.int i), none, none] rfl kk
  · exact nn_ hR

def st_13 (p1 : Int32) (σ : St) (τ : St) (ν : (Nat → Int32)) (δ : St) (π : (St × Int64)) (ω : (Nat → Int64)) (μ : St) : Option S7 := b4 (sp_L_carry p1 σ δ ω) (fun (x1 : Int32) (σ2 : St) (δ3 : St) (ω4 : (Nat → Int64)) => b2 (sp_X10_carry p1 μ) (fun (x5 : Int32) (μ6 : St) => b1 (sp_X10_thrown μ6) (fun (x7 : Int32) => if x7 = x1 then (if x1 = 0 then (if (lg_cmp (ω4 (0 : Int32).toNatClampNeg) x5.toInt64) = 0 then (some (σ2, τ, ν, δ3, π, ω4, μ6)) else (none)) else (some (σ2, τ, ν, δ3, π, ω4, μ6))) else (none))))
set_option maxHeartbeats 4000000 in
set_option maxRecDepth 100000 in
theorem law_13 {l : Launch} (hl : l.stackTraces = false) {γ : Gd} {h g : Nat → Nat} {as9 an aq : Nat} {ad ap : Nat → Nat} {au : Nat} {am : Nat → Nat} {r : va_W} {σ : St} {τ : St} {ν : (Nat → Int32)} {δ : St} {π : (St × Int64)} {ω : (Nat → Int64)} {μ : St} {X : CX} {M : MX} {y : MethodName} {tb : List ExceptionTableEntry} {b n : Nat} {xs : Nat → Int32} {i p1 : Int32} {cs ss : Nat} (K : KX l γ X M y cL_law RL 7 rmL (some .boolean) tb) (hX : va_X b n xs (ks X) (ks X).heap) (hbl : b < (ks X).heap.size) (hbA : ¬ Ax X M b) (h1 : ¬ (i + (1 : Int32) < 0 ∨ n ≤ (i + (1 : Int32)).toNatClampNeg)) (e1 : xs (i + (1 : Int32)).toNatClampNeg = p1) (hcs : cs + 1 ≤ 1124) (hss : ss + 6 ≤ 9915) {z9 : S7} (hR : some z9 = st_13 p1 σ τ ν δ π ω μ)
    (kk : V l γ X M (wB γ h z9.1 ++ (wB γ g z9.2.1 ++ (wS as9 (h 0) (g 0) an aq (ad 0) (ap 0) ++ (wN an (h 0) z9.2.2.1 ++ (wR aq (h 0) ++ (wD γ ad z9.2.2.2.1 ++ (wP γ ap z9.2.2.2.2.1 ++ (wO γ au z9.2.2.2.2.2.1 ++ (wM γ am z9.2.2.2.2.2.2 ++ (r)))))))))) [some (.ref b), some (.ref as9), some (.ref (am 0)), some (.ref au), some (.int i), none, none] (cs + 1) (ss + 6) 2278 []) : V l γ X M (wB γ h σ ++ (wB γ g τ ++ (wS as9 (h 0) (g 0) an aq (ad 0) (ap 0) ++ (wN an (h 0) ν ++ (wR aq (h 0) ++ (wD γ ad δ ++ (wP γ ap π ++ (wO γ au ω ++ (wM γ am μ ++ (r)))))))))) [some (.ref b), some (.ref as9), some (.ref (am 0)), some (.ref au), some (.int i), none, none] cs ss 1088 [] := by
  unfold st_13 at hR
  refine r_aload_n 1088 1 K (dk_of tL_law_6 28 rfl) rfl rfl ?_
  refine r_aload_n 1089 0 K (dk_of tL_law_6 29 rfl) rfl rfl ?_
  refine r_iload 1090 4 K (dk_of tL_law_6 30 rfl) rfl ?_
  refine r_iconst 1092 (1 : Int32) K (dk_of tL_law_6 31 rfl) (by decide) ?_
  refine r_iadd 1093 K (dk_of tL_law_6 32 rfl) ?_
  refine r_sldN 1094 K hX hbl hbA h1 e1 (dk_of tL_law_6 33 rfl) ?_
  refine r_aload_n 1095 3 K (dk_of tL_law_6 34 rfl) rfl rfl ?_
  obtain ⟨x1, σ2, δ3, ω4, hc, hR⟩ := o4 hR
  refine r_cSh (mc := 1) (ms := 6) (n := 3) 1096 [.ref as9, .int p1, .ref au] [] x1 (wB γ h σ2 ++ (wB γ g τ ++ (wS as9 (h 0) (g 0) an aq (ad 0) (ap 0) ++ (wN an (h 0) ν ++ (wR aq (h 0) ++ (wD γ ad δ3 ++ (wP γ ap π ++ (wO γ au ω4 ++ (wM γ am μ ++ (r)))))))))) K (ct_L_carry hl hc.symm) w710 w711 w0 cwx_carry (by decide +kernel) ⟨rfl, rfl, rfl⟩ (dk_of tL_law_6 35 rfl) rfl rfl rfl ⟨hcs, hss⟩ ?_
  refine r_istore 1099 5 [some (.ref b), some (.ref as9), some (.ref (am 0)), some (.ref au), some (.int i), some (.int x1), none] K (dk_of tL_law_6 36 rfl) rfl rfl (by decide) ?_
  refine r_aload_n 1101 2 K (dk_of tL_law_6 37 rfl) rfl rfl ?_
  refine r_aload_n 1102 0 K (dk_of tL_law_6 38 rfl) rfl rfl ?_
  refine r_iload 1103 4 K (dk_of tL_law_6 39 rfl) rfl ?_
  refine r_iconst 1105 (1 : Int32) K (dk_of tL_law_6 40 rfl) (by decide) ?_
  refine r_iadd 1106 K (dk_of tL_law_6 41 rfl) ?_
  refine r_sldN 1107 K hX hbl hbA h1 e1 (dk_of tL_law_6 42 rfl) ?_
  obtain ⟨x5, μ6, hc, hR⟩ := o2 hR
  refine r_perm (wM γ am μ ++ (wB γ h σ2 ++ (wB γ g τ ++ (wS as9 (h 0) (g 0) an aq (ad 0) (ap 0) ++ (wN an (h 0) ν ++ (wR aq (h 0) ++ (wD γ ad δ3 ++ (wP γ ap π ++ (wO γ au ω4 ++ (r)))))))))) (permF _ _ _ _ _ _ _ _ _ _) 1108 ?_
  refine r_cVi 1108 0 [.int p1] [] x5 (wM γ am μ6 ++ (wB γ h σ2 ++ (wB γ g τ ++ (wS as9 (h 0) (g 0) an aq (ad 0) (ap 0) ++ (wN an (h 0) ν ++ (wR aq (h 0) ++ (wD γ ad δ3 ++ (wP γ ap π ++ (wO γ au ω4 ++ (r)))))))))) K (ct_X10_carry hl hc.symm) cs_L_169 ⟨rfl, rfl, rfl⟩ (dk_of tL_law_6 43 rfl) rfl rfl rfl rfl rfl (bb_ hcs hss) ?_
  refine r_perm (wB γ h σ2 ++ (wB γ g τ ++ (wS as9 (h 0) (g 0) an aq (ad 0) (ap 0) ++ (wN an (h 0) ν ++ (wR aq (h 0) ++ (wD γ ad δ3 ++ (wP γ ap π ++ (wO γ au ω4 ++ (wM γ am μ6 ++ (r)))))))))) (permB _ _ _ _ _ _ _ _ _ _) 1111 ?_
  refine r_istore 1111 6 [some (.ref b), some (.ref as9), some (.ref (am 0)), some (.ref au), some (.int i), some (.int x1), some (.int x5)] K (dk_of tL_law_6 44 rfl) rfl rfl (by decide) ?_
  refine r_aload_n 1113 2 K (dk_of tL_law_6 45 rfl) rfl rfl ?_
  obtain ⟨x7, hc, hR⟩ := o1 hR
  refine r_perm (wM γ am μ6 ++ (wB γ h σ2 ++ (wB γ g τ ++ (wS as9 (h 0) (g 0) an aq (ad 0) (ap 0) ++ (wN an (h 0) ν ++ (wR aq (h 0) ++ (wD γ ad δ3 ++ (wP γ ap π ++ (wO γ au ω4 ++ (r)))))))))) (permF _ _ _ _ _ _ _ _ _ _) 1114 ?_
  refine r_cVi 1114 0 [] [] x7 (wM γ am μ6 ++ (wB γ h σ2 ++ (wB γ g τ ++ (wS as9 (h 0) (g 0) an aq (ad 0) (ap 0) ++ (wN an (h 0) ν ++ (wR aq (h 0) ++ (wD γ ad δ3 ++ (wP γ ap π ++ (wO γ au ω4 ++ (r)))))))))) K (ct_X10_thrown hl hc.symm) cs_L_124 ⟨rfl, rfl, rfl⟩ (dk_of tL_law_6 46 rfl) rfl rfl rfl rfl rfl (bb_ hcs hss) ?_
  refine r_perm (wB γ h σ2 ++ (wB γ g τ ++ (wS as9 (h 0) (g 0) an aq (ad 0) (ap 0) ++ (wN an (h 0) ν ++ (wR aq (h 0) ++ (wD γ ad δ3 ++ (wP γ ap π ++ (wO γ au ω4 ++ (wM γ am μ6 ++ (r)))))))))) (permB _ _ _ _ _ _ _ _ _ _) 1117 ?_
  refine r_iload 1117 5 K (dk_of tL_law_6 47 rfl) rfl ?_
  refine r_ic_eq 1119 1124 K (dk_of tL_law_6 48 rfl) (by decide) hR (fun hR => ?_) (fun hR => ?_)
  · refine r_iload 1124 5 K (dk_of tL_law_6 51 rfl) rfl ?_
    refine r_if_ne 1126 1141 K (dk_of tL_law_6 52 rfl) (by decide) hR (fun hR => ?_) (fun hR => ?_)
    · refine r_aload_n 1129 3 K (dk_of tL_law_6 53 rfl) rfl rfl ?_
      refine r_iconst 1130 (0 : Int32) K (dk_of tL_law_6 54 rfl) (by decide) ?_
      refine r_lald 1131 60 K (dk_of tL_law_6 55 rfl) rfl (vpd (by decide)) ?_
      refine r_iload 1132 6 K (dk_of tL_law_6 56 rfl) rfl ?_
      refine r_i2l 1134 K (dk_of tL_law_6 57 rfl) ?_
      refine r_lcmp 1135 K (dk_of tL_law_6 58 rfl) ?_
      refine r_if_eq 1136 1141 K (dk_of tL_law_6 59 rfl) (by decide) hR (fun hR => ?_) (fun hR => ?_)
      · refine r_goto 1141 2278 K (dk_of tL_law_6 62 rfl) (by decide) ?_
        cases hR
        exact r_msk [true, true, true, true, true, false, false] [some (.ref b), some (.ref as9), some (.ref (am 0)), some (.ref au), some (.int i), none, none] rfl kk
      · exact nn_ hR
    · refine r_goto 1141 2278 K (dk_of tL_law_6 62 rfl) (by decide) ?_
      cases hR
      exact r_msk [true, true, true, true, true, false, false] [some (.ref b), some (.ref as9), some (.ref (am 0)), some (.ref au), some (.int i), none, none] rfl kk
  · exact nn_ hR

def st_14 (p1 : Int32) (σ : St) (τ : St) (ν : (Nat → Int32)) (δ : St) (π : (St × Int64)) (ω : (Nat → Int64)) (μ : St) : Option S7 := b3 (sp_L_teach p1 σ ω) (fun (x1 : Int32) (σ2 : St) (ω3 : (Nat → Int64)) => b2 (sp_X10_teach p1 μ) (fun (x4 : Int32) (μ5 : St) => b1 (sp_X10_thrown μ5) (fun (x6 : Int32) => if x6 = x1 then (if x1 = 0 then (if x4 = 0 then (if (lg_cmp (ω3 (0 : Int32).toNatClampNeg) (0 : Int64)) = 0 then (some (σ2, τ, ν, δ, π, ω3, μ5)) else (none)) else (if (lg_cmp (ω3 (0 : Int32).toNatClampNeg) (1 : Int64)) = 0 then (some (σ2, τ, ν, δ, π, ω3, μ5)) else (none))) else (some (σ2, τ, ν, δ, π, ω3, μ5))) else (none))))
set_option maxHeartbeats 4000000 in
set_option maxRecDepth 100000 in
theorem law_14 {l : Launch} (hl : l.stackTraces = false) {γ : Gd} {h g : Nat → Nat} {as9 an aq : Nat} {ad ap : Nat → Nat} {au : Nat} {am : Nat → Nat} {r : va_W} {σ : St} {τ : St} {ν : (Nat → Int32)} {δ : St} {π : (St × Int64)} {ω : (Nat → Int64)} {μ : St} {X : CX} {M : MX} {y : MethodName} {tb : List ExceptionTableEntry} {b n : Nat} {xs : Nat → Int32} {i p1 : Int32} {cs ss : Nat} (K : KX l γ X M y cL_law RL 7 rmL (some .boolean) tb) (hX : va_X b n xs (ks X) (ks X).heap) (hbl : b < (ks X).heap.size) (hbA : ¬ Ax X M b) (h1 : ¬ (i + (1 : Int32) < 0 ∨ n ≤ (i + (1 : Int32)).toNatClampNeg)) (e1 : xs (i + (1 : Int32)).toNatClampNeg = p1) (hcs : cs + 1 ≤ 1124) (hss : ss + 6 ≤ 9915) {z9 : S7} (hR : some z9 = st_14 p1 σ τ ν δ π ω μ)
    (kk : V l γ X M (wB γ h z9.1 ++ (wB γ g z9.2.1 ++ (wS as9 (h 0) (g 0) an aq (ad 0) (ap 0) ++ (wN an (h 0) z9.2.2.1 ++ (wR aq (h 0) ++ (wD γ ad z9.2.2.2.1 ++ (wP γ ap z9.2.2.2.2.1 ++ (wO γ au z9.2.2.2.2.2.1 ++ (wM γ am z9.2.2.2.2.2.2 ++ (r)))))))))) [some (.ref b), some (.ref as9), some (.ref (am 0)), some (.ref au), some (.int i), none, none] (cs + 1) (ss + 6) 2278 []) : V l γ X M (wB γ h σ ++ (wB γ g τ ++ (wS as9 (h 0) (g 0) an aq (ad 0) (ap 0) ++ (wN an (h 0) ν ++ (wR aq (h 0) ++ (wD γ ad δ ++ (wP γ ap π ++ (wO γ au ω ++ (wM γ am μ ++ (r)))))))))) [some (.ref b), some (.ref as9), some (.ref (am 0)), some (.ref au), some (.int i), none, none] cs ss 1144 [] := by
  unfold st_14 at hR
  refine r_aload_n 1144 1 K (dk_of tL_law_6 63 rfl) rfl rfl ?_
  refine r_aload_n 1145 0 K (dk_of tL_law_6 64 rfl) rfl rfl ?_
  refine r_iload 1146 4 K (dk_of tL_law_6 65 rfl) rfl ?_
  refine r_iconst 1148 (1 : Int32) K (dk_of tL_law_6 66 rfl) (by decide) ?_
  refine r_iadd 1149 K (dk_of tL_law_6 67 rfl) ?_
  refine r_sldN 1150 K hX hbl hbA h1 e1 (dk_of tL_law_6 68 rfl) ?_
  refine r_aload_n 1151 3 K (dk_of tL_law_6 69 rfl) rfl rfl ?_
  obtain ⟨x1, σ2, ω3, hc, hR⟩ := o3 hR
  refine r_cSh (mc := 1) (ms := 6) (n := 3) 1152 [.ref as9, .int p1, .ref au] [] x1 (wB γ h σ2 ++ (wB γ g τ ++ (wS as9 (h 0) (g 0) an aq (ad 0) (ap 0) ++ (wN an (h 0) ν ++ (wR aq (h 0) ++ (wD γ ad δ ++ (wP γ ap π ++ (wO γ au ω3 ++ (wM γ am μ ++ (r)))))))))) K (ct_L_teach hl hc.symm) w717 w718 w0 cwx_teach (by decide +kernel) ⟨rfl, rfl, rfl⟩ (dk_of tL_law_6 70 rfl) rfl rfl rfl ⟨hcs, hss⟩ ?_
  refine r_istore 1155 5 [some (.ref b), some (.ref as9), some (.ref (am 0)), some (.ref au), some (.int i), some (.int x1), none] K (dk_of tL_law_6 71 rfl) rfl rfl (by decide) ?_
  refine r_aload_n 1157 2 K (dk_of tL_law_6 72 rfl) rfl rfl ?_
  refine r_aload_n 1158 0 K (dk_of tL_law_6 73 rfl) rfl rfl ?_
  refine r_iload 1159 4 K (dk_of tL_law_6 74 rfl) rfl ?_
  refine r_iconst 1161 (1 : Int32) K (dk_of tL_law_6 75 rfl) (by decide) ?_
  refine r_iadd 1162 K (dk_of tL_law_6 76 rfl) ?_
  refine r_sldN 1163 K hX hbl hbA h1 e1 (dk_of tL_law_6 77 rfl) ?_
  obtain ⟨x4, μ5, hc, hR⟩ := o2 hR
  refine r_perm (wM γ am μ ++ (wB γ h σ2 ++ (wB γ g τ ++ (wS as9 (h 0) (g 0) an aq (ad 0) (ap 0) ++ (wN an (h 0) ν ++ (wR aq (h 0) ++ (wD γ ad δ ++ (wP γ ap π ++ (wO γ au ω3 ++ (r)))))))))) (permF _ _ _ _ _ _ _ _ _ _) 1164 ?_
  refine r_cVi 1164 0 [.int p1] [] x4 (wM γ am μ5 ++ (wB γ h σ2 ++ (wB γ g τ ++ (wS as9 (h 0) (g 0) an aq (ad 0) (ap 0) ++ (wN an (h 0) ν ++ (wR aq (h 0) ++ (wD γ ad δ ++ (wP γ ap π ++ (wO γ au ω3 ++ (r)))))))))) K (ct_X10_teach hl hc.symm) cs_L_172 ⟨rfl, rfl, rfl⟩ (dk_of tL_law_6 78 rfl) rfl rfl rfl rfl rfl (bb_ hcs hss) ?_
  refine r_perm (wB γ h σ2 ++ (wB γ g τ ++ (wS as9 (h 0) (g 0) an aq (ad 0) (ap 0) ++ (wN an (h 0) ν ++ (wR aq (h 0) ++ (wD γ ad δ ++ (wP γ ap π ++ (wO γ au ω3 ++ (wM γ am μ5 ++ (r)))))))))) (permB _ _ _ _ _ _ _ _ _ _) 1167 ?_
  refine r_istore 1167 6 [some (.ref b), some (.ref as9), some (.ref (am 0)), some (.ref au), some (.int i), some (.int x1), some (.int x4)] K (dk_of tL_law_6 79 rfl) rfl rfl (by decide) ?_
  refine r_aload_n 1169 2 K (dk_of tL_law_6 80 rfl) rfl rfl ?_
  obtain ⟨x6, hc, hR⟩ := o1 hR
  refine r_perm (wM γ am μ5 ++ (wB γ h σ2 ++ (wB γ g τ ++ (wS as9 (h 0) (g 0) an aq (ad 0) (ap 0) ++ (wN an (h 0) ν ++ (wR aq (h 0) ++ (wD γ ad δ ++ (wP γ ap π ++ (wO γ au ω3 ++ (r)))))))))) (permF _ _ _ _ _ _ _ _ _ _) 1170 ?_
  refine r_cVi 1170 0 [] [] x6 (wM γ am μ5 ++ (wB γ h σ2 ++ (wB γ g τ ++ (wS as9 (h 0) (g 0) an aq (ad 0) (ap 0) ++ (wN an (h 0) ν ++ (wR aq (h 0) ++ (wD γ ad δ ++ (wP γ ap π ++ (wO γ au ω3 ++ (r)))))))))) K (ct_X10_thrown hl hc.symm) cs_L_124 ⟨rfl, rfl, rfl⟩ (dk_of tL_law_6 81 rfl) rfl rfl rfl rfl rfl (bb_ hcs hss) ?_
  refine r_perm (wB γ h σ2 ++ (wB γ g τ ++ (wS as9 (h 0) (g 0) an aq (ad 0) (ap 0) ++ (wN an (h 0) ν ++ (wR aq (h 0) ++ (wD γ ad δ ++ (wP γ ap π ++ (wO γ au ω3 ++ (wM γ am μ5 ++ (r)))))))))) (permB _ _ _ _ _ _ _ _ _ _) 1173 ?_
  refine r_iload 1173 5 K (dk_of tL_law_6 82 rfl) rfl ?_
  refine r_ic_eq 1175 1180 K (dk_of tL_law_6 83 rfl) (by decide) hR (fun hR => ?_) (fun hR => ?_)
  · refine r_iload 1180 5 K (dk_of tL_law_6 86 rfl) rfl ?_
    refine r_if_ne 1182 1204 K (dk_of tL_law_6 87 rfl) (by decide) hR (fun hR => ?_) (fun hR => ?_)
    · refine r_aload_n 1185 3 K (dk_of tL_law_6 88 rfl) rfl rfl ?_
      refine r_iconst 1186 (0 : Int32) K (dk_of tL_law_6 89 rfl) (by decide) ?_
      refine r_lald 1187 60 K (dk_of tL_law_6 90 rfl) rfl (vpd (by decide)) ?_
      refine r_iload 1188 6 K (dk_of tL_law_6 91 rfl) rfl ?_
      refine r_if_eq 1190 1197 K (dk_of tL_law_6 92 rfl) (by decide) hR (fun hR => ?_) (fun hR => ?_)
      · refine r_lconst 1197 0 K (dk_of tL_law_6 95 rfl) (by decide) ?_
        refine r_lcmp 1198 K (dk_of tL_law_6 96 rfl) ?_
        refine r_if_eq 1199 1204 K (dk_of tL_law_6 97 rfl) (by decide) hR (fun hR => ?_) (fun hR => ?_)
        · refine r_goto 1204 2278 K (dk_of tL_law_7 0 rfl) (by decide) ?_
          cases hR
          exact r_msk [true, true, true, true, true, false, false] [some (.ref b), some (.ref as9), some (.ref (am 0)), some (.ref au), some (.int i), none, none] rfl kk
        · exact nn_ hR
      · refine r_lconst 1193 1 K (dk_of tL_law_6 93 rfl) (by decide) ?_
        refine r_goto 1194 1198 K (dk_of tL_law_6 94 rfl) (by decide) ?_
        refine r_lcmp 1198 K (dk_of tL_law_6 96 rfl) ?_
        refine r_if_eq 1199 1204 K (dk_of tL_law_6 97 rfl) (by decide) hR (fun hR => ?_) (fun hR => ?_)
        · refine r_goto 1204 2278 K (dk_of tL_law_7 0 rfl) (by decide) ?_
          cases hR
          exact r_msk [true, true, true, true, true, false, false] [some (.ref b), some (.ref as9), some (.ref (am 0)), some (.ref au), some (.int i), none, none] rfl kk
        · exact nn_ hR
    · refine r_goto 1204 2278 K (dk_of tL_law_7 0 rfl) (by decide) ?_
      cases hR
      exact r_msk [true, true, true, true, true, false, false] [some (.ref b), some (.ref as9), some (.ref (am 0)), some (.ref au), some (.int i), none, none] rfl kk
  · exact nn_ hR

def st_15 (p1 : Int32) (p2 : Int32) (σ : St) (τ : St) (ν : (Nat → Int32)) (δ : St) (π : (St × Int64)) (ω : (Nat → Int64)) (μ : St) : Option S7 := b4 (sp_L_clean p1 p2 σ δ ω) (fun (x1 : Int32) (σ2 : St) (δ3 : St) (ω4 : (Nat → Int64)) => b2 (sp_X10_clean p1 p2 μ) (fun (x5 : Int32) (μ6 : St) => b1 (sp_X10_thrown μ6) (fun (x7 : Int32) => if x7 = x1 then (if x1 = 0 then (if (lg_cmp (ω4 (0 : Int32).toNatClampNeg) x5.toInt64) = 0 then (some (σ2, τ, ν, δ3, π, ω4, μ6)) else (none)) else (some (σ2, τ, ν, δ3, π, ω4, μ6))) else (none))))
set_option maxHeartbeats 4000000 in
set_option maxRecDepth 100000 in
theorem law_15 {l : Launch} (hl : l.stackTraces = false) {γ : Gd} {h g : Nat → Nat} {as9 an aq : Nat} {ad ap : Nat → Nat} {au : Nat} {am : Nat → Nat} {r : va_W} {σ : St} {τ : St} {ν : (Nat → Int32)} {δ : St} {π : (St × Int64)} {ω : (Nat → Int64)} {μ : St} {X : CX} {M : MX} {y : MethodName} {tb : List ExceptionTableEntry} {b n : Nat} {xs : Nat → Int32} {i p1 p2 : Int32} {cs ss : Nat} (K : KX l γ X M y cL_law RL 7 rmL (some .boolean) tb) (hX : va_X b n xs (ks X) (ks X).heap) (hbl : b < (ks X).heap.size) (hbA : ¬ Ax X M b) (h1 : ¬ (i + (1 : Int32) < 0 ∨ n ≤ (i + (1 : Int32)).toNatClampNeg)) (e1 : xs (i + (1 : Int32)).toNatClampNeg = p1) (h2 : ¬ (i + (2 : Int32) < 0 ∨ n ≤ (i + (2 : Int32)).toNatClampNeg)) (e2 : xs (i + (2 : Int32)).toNatClampNeg = p2) (hcs : cs + 1 ≤ 1124) (hss : ss + 6 ≤ 9915) {z9 : S7} (hR : some z9 = st_15 p1 p2 σ τ ν δ π ω μ)
    (kk : V l γ X M (wB γ h z9.1 ++ (wB γ g z9.2.1 ++ (wS as9 (h 0) (g 0) an aq (ad 0) (ap 0) ++ (wN an (h 0) z9.2.2.1 ++ (wR aq (h 0) ++ (wD γ ad z9.2.2.2.1 ++ (wP γ ap z9.2.2.2.2.1 ++ (wO γ au z9.2.2.2.2.2.1 ++ (wM γ am z9.2.2.2.2.2.2 ++ (r)))))))))) [some (.ref b), some (.ref as9), some (.ref (am 0)), some (.ref au), some (.int i), none, none] (cs + 1) (ss + 6) 2278 []) : V l γ X M (wB γ h σ ++ (wB γ g τ ++ (wS as9 (h 0) (g 0) an aq (ad 0) (ap 0) ++ (wN an (h 0) ν ++ (wR aq (h 0) ++ (wD γ ad δ ++ (wP γ ap π ++ (wO γ au ω ++ (wM γ am μ ++ (r)))))))))) [some (.ref b), some (.ref as9), some (.ref (am 0)), some (.ref au), some (.int i), none, none] cs ss 1207 [] := by
  unfold st_15 at hR
  refine r_aload_n 1207 1 K (dk_of tL_law_7 1 rfl) rfl rfl ?_
  refine r_aload_n 1208 0 K (dk_of tL_law_7 2 rfl) rfl rfl ?_
  refine r_iload 1209 4 K (dk_of tL_law_7 3 rfl) rfl ?_
  refine r_iconst 1211 (1 : Int32) K (dk_of tL_law_7 4 rfl) (by decide) ?_
  refine r_iadd 1212 K (dk_of tL_law_7 5 rfl) ?_
  refine r_sldN 1213 K hX hbl hbA h1 e1 (dk_of tL_law_7 6 rfl) ?_
  refine r_aload_n 1214 0 K (dk_of tL_law_7 7 rfl) rfl rfl ?_
  refine r_iload 1215 4 K (dk_of tL_law_7 8 rfl) rfl ?_
  refine r_iconst 1217 (2 : Int32) K (dk_of tL_law_7 9 rfl) (by decide) ?_
  refine r_iadd 1218 K (dk_of tL_law_7 10 rfl) ?_
  refine r_sldN 1219 K hX hbl hbA h2 e2 (dk_of tL_law_7 11 rfl) ?_
  refine r_aload_n 1220 3 K (dk_of tL_law_7 12 rfl) rfl rfl ?_
  obtain ⟨x1, σ2, δ3, ω4, hc, hR⟩ := o4 hR
  refine r_cSh (mc := 1) (ms := 6) (n := 4) 1221 [.ref as9, .int p1, .int p2, .ref au] [] x1 (wB γ h σ2 ++ (wB γ g τ ++ (wS as9 (h 0) (g 0) an aq (ad 0) (ap 0) ++ (wN an (h 0) ν ++ (wR aq (h 0) ++ (wD γ ad δ3 ++ (wP γ ap π ++ (wO γ au ω4 ++ (wM γ am μ ++ (r)))))))))) K (ct_L_clean hl hc.symm) w724 w725 w0 cwx_clean (by decide +kernel) ⟨rfl, rfl, rfl⟩ (dk_of tL_law_7 13 rfl) rfl rfl rfl ⟨hcs, hss⟩ ?_
  refine r_istore 1224 5 [some (.ref b), some (.ref as9), some (.ref (am 0)), some (.ref au), some (.int i), some (.int x1), none] K (dk_of tL_law_7 14 rfl) rfl rfl (by decide) ?_
  refine r_aload_n 1226 2 K (dk_of tL_law_7 15 rfl) rfl rfl ?_
  refine r_aload_n 1227 0 K (dk_of tL_law_7 16 rfl) rfl rfl ?_
  refine r_iload 1228 4 K (dk_of tL_law_7 17 rfl) rfl ?_
  refine r_iconst 1230 (1 : Int32) K (dk_of tL_law_7 18 rfl) (by decide) ?_
  refine r_iadd 1231 K (dk_of tL_law_7 19 rfl) ?_
  refine r_sldN 1232 K hX hbl hbA h1 e1 (dk_of tL_law_7 20 rfl) ?_
  refine r_aload_n 1233 0 K (dk_of tL_law_7 21 rfl) rfl rfl ?_
  refine r_iload 1234 4 K (dk_of tL_law_7 22 rfl) rfl ?_
  refine r_iconst 1236 (2 : Int32) K (dk_of tL_law_7 23 rfl) (by decide) ?_
  refine r_iadd 1237 K (dk_of tL_law_7 24 rfl) ?_
  refine r_sldN 1238 K hX hbl hbA h2 e2 (dk_of tL_law_7 25 rfl) ?_
  obtain ⟨x5, μ6, hc, hR⟩ := o2 hR
  refine r_perm (wM γ am μ ++ (wB γ h σ2 ++ (wB γ g τ ++ (wS as9 (h 0) (g 0) an aq (ad 0) (ap 0) ++ (wN an (h 0) ν ++ (wR aq (h 0) ++ (wD γ ad δ3 ++ (wP γ ap π ++ (wO γ au ω4 ++ (r)))))))))) (permF _ _ _ _ _ _ _ _ _ _) 1239 ?_
  refine r_cVi 1239 0 [.int p1, .int p2] [] x5 (wM γ am μ6 ++ (wB γ h σ2 ++ (wB γ g τ ++ (wS as9 (h 0) (g 0) an aq (ad 0) (ap 0) ++ (wN an (h 0) ν ++ (wR aq (h 0) ++ (wD γ ad δ3 ++ (wP γ ap π ++ (wO γ au ω4 ++ (r)))))))))) K (ct_X10_clean hl hc.symm) cs_L_175 ⟨rfl, rfl, rfl⟩ (dk_of tL_law_7 26 rfl) rfl rfl rfl rfl rfl (bb_ hcs hss) ?_
  refine r_perm (wB γ h σ2 ++ (wB γ g τ ++ (wS as9 (h 0) (g 0) an aq (ad 0) (ap 0) ++ (wN an (h 0) ν ++ (wR aq (h 0) ++ (wD γ ad δ3 ++ (wP γ ap π ++ (wO γ au ω4 ++ (wM γ am μ6 ++ (r)))))))))) (permB _ _ _ _ _ _ _ _ _ _) 1242 ?_
  refine r_istore 1242 6 [some (.ref b), some (.ref as9), some (.ref (am 0)), some (.ref au), some (.int i), some (.int x1), some (.int x5)] K (dk_of tL_law_7 27 rfl) rfl rfl (by decide) ?_
  refine r_aload_n 1244 2 K (dk_of tL_law_7 28 rfl) rfl rfl ?_
  obtain ⟨x7, hc, hR⟩ := o1 hR
  refine r_perm (wM γ am μ6 ++ (wB γ h σ2 ++ (wB γ g τ ++ (wS as9 (h 0) (g 0) an aq (ad 0) (ap 0) ++ (wN an (h 0) ν ++ (wR aq (h 0) ++ (wD γ ad δ3 ++ (wP γ ap π ++ (wO γ au ω4 ++ (r)))))))))) (permF _ _ _ _ _ _ _ _ _ _) 1245 ?_
  refine r_cVi 1245 0 [] [] x7 (wM γ am μ6 ++ (wB γ h σ2 ++ (wB γ g τ ++ (wS as9 (h 0) (g 0) an aq (ad 0) (ap 0) ++ (wN an (h 0) ν ++ (wR aq (h 0) ++ (wD γ ad δ3 ++ (wP γ ap π ++ (wO γ au ω4 ++ (r)))))))))) K (ct_X10_thrown hl hc.symm) cs_L_124 ⟨rfl, rfl, rfl⟩ (dk_of tL_law_7 29 rfl) rfl rfl rfl rfl rfl (bb_ hcs hss) ?_
  refine r_perm (wB γ h σ2 ++ (wB γ g τ ++ (wS as9 (h 0) (g 0) an aq (ad 0) (ap 0) ++ (wN an (h 0) ν ++ (wR aq (h 0) ++ (wD γ ad δ3 ++ (wP γ ap π ++ (wO γ au ω4 ++ (wM γ am μ6 ++ (r)))))))))) (permB _ _ _ _ _ _ _ _ _ _) 1248 ?_
  refine r_iload 1248 5 K (dk_of tL_law_7 30 rfl) rfl ?_
  refine r_ic_eq 1250 1255 K (dk_of tL_law_7 31 rfl) (by decide) hR (fun hR => ?_) (fun hR => ?_)
  · refine r_iload 1255 5 K (dk_of tL_law_7 34 rfl) rfl ?_
    refine r_if_ne 1257 1272 K (dk_of tL_law_7 35 rfl) (by decide) hR (fun hR => ?_) (fun hR => ?_)
    · refine r_aload_n 1260 3 K (dk_of tL_law_7 36 rfl) rfl rfl ?_
      refine r_iconst 1261 (0 : Int32) K (dk_of tL_law_7 37 rfl) (by decide) ?_
      refine r_lald 1262 60 K (dk_of tL_law_7 38 rfl) rfl (vpd (by decide)) ?_
      refine r_iload 1263 6 K (dk_of tL_law_7 39 rfl) rfl ?_
      refine r_i2l 1265 K (dk_of tL_law_7 40 rfl) ?_
      refine r_lcmp 1266 K (dk_of tL_law_7 41 rfl) ?_
      refine r_if_eq 1267 1272 K (dk_of tL_law_7 42 rfl) (by decide) hR (fun hR => ?_) (fun hR => ?_)
      · refine r_goto 1272 2278 K (dk_of tL_law_7 45 rfl) (by decide) ?_
        cases hR
        exact r_msk [true, true, true, true, true, false, false] [some (.ref b), some (.ref as9), some (.ref (am 0)), some (.ref au), some (.int i), none, none] rfl kk
      · exact nn_ hR
    · refine r_goto 1272 2278 K (dk_of tL_law_7 45 rfl) (by decide) ?_
      cases hR
      exact r_msk [true, true, true, true, true, false, false] [some (.ref b), some (.ref as9), some (.ref (am 0)), some (.ref au), some (.int i), none, none] rfl kk
  · exact nn_ hR

def st_16 (p1 : Int32) (p2 : Int32) (σ : St) (τ : St) (ν : (Nat → Int32)) (δ : St) (π : (St × Int64)) (ω : (Nat → Int64)) (μ : St) : Option S7 := b2 (sp_L_meanIs p1 p2 σ ω) (fun (x1 : Int32) (ω2 : (Nat → Int64)) => b2 (sp_X10_meanIs p1 p2 μ) (fun (x3 : Int32) (μ4 : St) => b1 (sp_X10_thrown μ4) (fun (x5 : Int32) => if x5 = x1 then (if x1 = 0 then (if (lg_cmp (ω2 (0 : Int32).toNatClampNeg) x3.toInt64) = 0 then (some (σ, τ, ν, δ, π, ω2, μ4)) else (none)) else (some (σ, τ, ν, δ, π, ω2, μ4))) else (none))))
set_option maxHeartbeats 4000000 in
set_option maxRecDepth 100000 in
theorem law_16 {l : Launch} (hl : l.stackTraces = false) {γ : Gd} {h g : Nat → Nat} {as9 an aq : Nat} {ad ap : Nat → Nat} {au : Nat} {am : Nat → Nat} {r : va_W} {σ : St} {τ : St} {ν : (Nat → Int32)} {δ : St} {π : (St × Int64)} {ω : (Nat → Int64)} {μ : St} {X : CX} {M : MX} {y : MethodName} {tb : List ExceptionTableEntry} {b n : Nat} {xs : Nat → Int32} {i p1 p2 : Int32} {cs ss : Nat} (K : KX l γ X M y cL_law RL 7 rmL (some .boolean) tb) (hX : va_X b n xs (ks X) (ks X).heap) (hbl : b < (ks X).heap.size) (hbA : ¬ Ax X M b) (h1 : ¬ (i + (1 : Int32) < 0 ∨ n ≤ (i + (1 : Int32)).toNatClampNeg)) (e1 : xs (i + (1 : Int32)).toNatClampNeg = p1) (h2 : ¬ (i + (2 : Int32) < 0 ∨ n ≤ (i + (2 : Int32)).toNatClampNeg)) (e2 : xs (i + (2 : Int32)).toNatClampNeg = p2) (hcs : cs + 1 ≤ 1124) (hss : ss + 6 ≤ 9915) {z9 : S7} (hR : some z9 = st_16 p1 p2 σ τ ν δ π ω μ)
    (kk : V l γ X M (wB γ h z9.1 ++ (wB γ g z9.2.1 ++ (wS as9 (h 0) (g 0) an aq (ad 0) (ap 0) ++ (wN an (h 0) z9.2.2.1 ++ (wR aq (h 0) ++ (wD γ ad z9.2.2.2.1 ++ (wP γ ap z9.2.2.2.2.1 ++ (wO γ au z9.2.2.2.2.2.1 ++ (wM γ am z9.2.2.2.2.2.2 ++ (r)))))))))) [some (.ref b), some (.ref as9), some (.ref (am 0)), some (.ref au), some (.int i), none, none] (cs + 1) (ss + 6) 2278 []) : V l γ X M (wB γ h σ ++ (wB γ g τ ++ (wS as9 (h 0) (g 0) an aq (ad 0) (ap 0) ++ (wN an (h 0) ν ++ (wR aq (h 0) ++ (wD γ ad δ ++ (wP γ ap π ++ (wO γ au ω ++ (wM γ am μ ++ (r)))))))))) [some (.ref b), some (.ref as9), some (.ref (am 0)), some (.ref au), some (.int i), none, none] cs ss 1275 [] := by
  unfold st_16 at hR
  refine r_aload_n 1275 1 K (dk_of tL_law_7 46 rfl) rfl rfl ?_
  refine r_aload_n 1276 0 K (dk_of tL_law_7 47 rfl) rfl rfl ?_
  refine r_iload 1277 4 K (dk_of tL_law_7 48 rfl) rfl ?_
  refine r_iconst 1279 (1 : Int32) K (dk_of tL_law_7 49 rfl) (by decide) ?_
  refine r_iadd 1280 K (dk_of tL_law_7 50 rfl) ?_
  refine r_sldN 1281 K hX hbl hbA h1 e1 (dk_of tL_law_7 51 rfl) ?_
  refine r_aload_n 1282 0 K (dk_of tL_law_7 52 rfl) rfl rfl ?_
  refine r_iload 1283 4 K (dk_of tL_law_7 53 rfl) rfl ?_
  refine r_iconst 1285 (2 : Int32) K (dk_of tL_law_7 54 rfl) (by decide) ?_
  refine r_iadd 1286 K (dk_of tL_law_7 55 rfl) ?_
  refine r_sldN 1287 K hX hbl hbA h2 e2 (dk_of tL_law_7 56 rfl) ?_
  refine r_aload_n 1288 3 K (dk_of tL_law_7 57 rfl) rfl rfl ?_
  obtain ⟨x1, ω2, hc, hR⟩ := o2 hR
  refine r_cSh (mc := 1) (ms := 6) (n := 4) 1289 [.ref as9, .int p1, .int p2, .ref au] [] x1 (wB γ h σ ++ (wB γ g τ ++ (wS as9 (h 0) (g 0) an aq (ad 0) (ap 0) ++ (wN an (h 0) ν ++ (wR aq (h 0) ++ (wD γ ad δ ++ (wP γ ap π ++ (wO γ au ω2 ++ (wM γ am μ ++ (r)))))))))) K (ct_L_meanIs hl hc.symm) w750 w751 w0 cwx_meanIs (by decide +kernel) ⟨rfl, rfl, rfl⟩ (dk_of tL_law_7 58 rfl) rfl rfl rfl ⟨hcs, hss⟩ ?_
  refine r_istore 1292 5 [some (.ref b), some (.ref as9), some (.ref (am 0)), some (.ref au), some (.int i), some (.int x1), none] K (dk_of tL_law_7 59 rfl) rfl rfl (by decide) ?_
  refine r_aload_n 1294 2 K (dk_of tL_law_7 60 rfl) rfl rfl ?_
  refine r_aload_n 1295 0 K (dk_of tL_law_7 61 rfl) rfl rfl ?_
  refine r_iload 1296 4 K (dk_of tL_law_7 62 rfl) rfl ?_
  refine r_iconst 1298 (1 : Int32) K (dk_of tL_law_7 63 rfl) (by decide) ?_
  refine r_iadd 1299 K (dk_of tL_law_7 64 rfl) ?_
  refine r_sldN 1300 K hX hbl hbA h1 e1 (dk_of tL_law_7 65 rfl) ?_
  refine r_aload_n 1301 0 K (dk_of tL_law_7 66 rfl) rfl rfl ?_
  refine r_iload 1302 4 K (dk_of tL_law_7 67 rfl) rfl ?_
  refine r_iconst 1304 (2 : Int32) K (dk_of tL_law_7 68 rfl) (by decide) ?_
  refine r_iadd 1305 K (dk_of tL_law_7 69 rfl) ?_
  refine r_sldN 1306 K hX hbl hbA h2 e2 (dk_of tL_law_7 70 rfl) ?_
  obtain ⟨x3, μ4, hc, hR⟩ := o2 hR
  refine r_perm (wM γ am μ ++ (wB γ h σ ++ (wB γ g τ ++ (wS as9 (h 0) (g 0) an aq (ad 0) (ap 0) ++ (wN an (h 0) ν ++ (wR aq (h 0) ++ (wD γ ad δ ++ (wP γ ap π ++ (wO γ au ω2 ++ (r)))))))))) (permF _ _ _ _ _ _ _ _ _ _) 1307 ?_
  refine r_cVi 1307 0 [.int p1, .int p2] [] x3 (wM γ am μ4 ++ (wB γ h σ ++ (wB γ g τ ++ (wS as9 (h 0) (g 0) an aq (ad 0) (ap 0) ++ (wN an (h 0) ν ++ (wR aq (h 0) ++ (wD γ ad δ ++ (wP γ ap π ++ (wO γ au ω2 ++ (r)))))))))) K (ct_X10_meanIs hl hc.symm) cs_L_178 ⟨rfl, rfl, rfl⟩ (dk_of tL_law_7 71 rfl) rfl rfl rfl rfl rfl (bb_ hcs hss) ?_
  refine r_perm (wB γ h σ ++ (wB γ g τ ++ (wS as9 (h 0) (g 0) an aq (ad 0) (ap 0) ++ (wN an (h 0) ν ++ (wR aq (h 0) ++ (wD γ ad δ ++ (wP γ ap π ++ (wO γ au ω2 ++ (wM γ am μ4 ++ (r)))))))))) (permB _ _ _ _ _ _ _ _ _ _) 1310 ?_
  refine r_istore 1310 6 [some (.ref b), some (.ref as9), some (.ref (am 0)), some (.ref au), some (.int i), some (.int x1), some (.int x3)] K (dk_of tL_law_7 72 rfl) rfl rfl (by decide) ?_
  refine r_aload_n 1312 2 K (dk_of tL_law_7 73 rfl) rfl rfl ?_
  obtain ⟨x5, hc, hR⟩ := o1 hR
  refine r_perm (wM γ am μ4 ++ (wB γ h σ ++ (wB γ g τ ++ (wS as9 (h 0) (g 0) an aq (ad 0) (ap 0) ++ (wN an (h 0) ν ++ (wR aq (h 0) ++ (wD γ ad δ ++ (wP γ ap π ++ (wO γ au ω2 ++ (r)))))))))) (permF _ _ _ _ _ _ _ _ _ _) 1313 ?_
  refine r_cVi 1313 0 [] [] x5 (wM γ am μ4 ++ (wB γ h σ ++ (wB γ g τ ++ (wS as9 (h 0) (g 0) an aq (ad 0) (ap 0) ++ (wN an (h 0) ν ++ (wR aq (h 0) ++ (wD γ ad δ ++ (wP γ ap π ++ (wO γ au ω2 ++ (r)))))))))) K (ct_X10_thrown hl hc.symm) cs_L_124 ⟨rfl, rfl, rfl⟩ (dk_of tL_law_7 74 rfl) rfl rfl rfl rfl rfl (bb_ hcs hss) ?_
  refine r_perm (wB γ h σ ++ (wB γ g τ ++ (wS as9 (h 0) (g 0) an aq (ad 0) (ap 0) ++ (wN an (h 0) ν ++ (wR aq (h 0) ++ (wD γ ad δ ++ (wP γ ap π ++ (wO γ au ω2 ++ (wM γ am μ4 ++ (r)))))))))) (permB _ _ _ _ _ _ _ _ _ _) 1316 ?_
  refine r_iload 1316 5 K (dk_of tL_law_7 75 rfl) rfl ?_
  refine r_ic_eq 1318 1323 K (dk_of tL_law_7 76 rfl) (by decide) hR (fun hR => ?_) (fun hR => ?_)
  · refine r_iload 1323 5 K (dk_of tL_law_7 79 rfl) rfl ?_
    refine r_if_ne 1325 1340 K (dk_of tL_law_7 80 rfl) (by decide) hR (fun hR => ?_) (fun hR => ?_)
    · refine r_aload_n 1328 3 K (dk_of tL_law_7 81 rfl) rfl rfl ?_
      refine r_iconst 1329 (0 : Int32) K (dk_of tL_law_7 82 rfl) (by decide) ?_
      refine r_lald 1330 60 K (dk_of tL_law_7 83 rfl) rfl (vpd (by decide)) ?_
      refine r_iload 1331 6 K (dk_of tL_law_7 84 rfl) rfl ?_
      refine r_i2l 1333 K (dk_of tL_law_7 85 rfl) ?_
      refine r_lcmp 1334 K (dk_of tL_law_7 86 rfl) ?_
      refine r_if_eq 1335 1340 K (dk_of tL_law_7 87 rfl) (by decide) hR (fun hR => ?_) (fun hR => ?_)
      · refine r_goto 1340 2278 K (dk_of tL_law_7 90 rfl) (by decide) ?_
        cases hR
        exact r_msk [true, true, true, true, true, false, false] [some (.ref b), some (.ref as9), some (.ref (am 0)), some (.ref au), some (.int i), none, none] rfl kk
      · exact nn_ hR
    · refine r_goto 1340 2278 K (dk_of tL_law_7 90 rfl) (by decide) ?_
      cases hR
      exact r_msk [true, true, true, true, true, false, false] [some (.ref b), some (.ref as9), some (.ref (am 0)), some (.ref au), some (.int i), none, none] rfl kk
  · exact nn_ hR

def st_17 (p1 : Int32) (p2 : Int32) (σ : St) (τ : St) (ν : (Nat → Int32)) (δ : St) (π : (St × Int64)) (ω : (Nat → Int64)) (μ : St) : Option S7 := b3 (sp_L_use p1 p2 σ ω) (fun (x1 : Int32) (σ2 : St) (ω3 : (Nat → Int64)) => b2 (sp_X10_use p1 p2 μ) (fun (x4 : Int32) (μ5 : St) => b1 (sp_X10_thrown μ5) (fun (x6 : Int32) => if x6 = x1 then (if x1 = 0 then (if (lg_cmp (ω3 (0 : Int32).toNatClampNeg) x4.toInt64) = 0 then (some (σ2, τ, ν, δ, π, ω3, μ5)) else (none)) else (some (σ2, τ, ν, δ, π, ω3, μ5))) else (none))))
set_option maxHeartbeats 4000000 in
set_option maxRecDepth 100000 in
theorem law_17 {l : Launch} (hl : l.stackTraces = false) {γ : Gd} {h g : Nat → Nat} {as9 an aq : Nat} {ad ap : Nat → Nat} {au : Nat} {am : Nat → Nat} {r : va_W} {σ : St} {τ : St} {ν : (Nat → Int32)} {δ : St} {π : (St × Int64)} {ω : (Nat → Int64)} {μ : St} {X : CX} {M : MX} {y : MethodName} {tb : List ExceptionTableEntry} {b n : Nat} {xs : Nat → Int32} {i p1 p2 : Int32} {cs ss : Nat} (K : KX l γ X M y cL_law RL 7 rmL (some .boolean) tb) (hX : va_X b n xs (ks X) (ks X).heap) (hbl : b < (ks X).heap.size) (hbA : ¬ Ax X M b) (h1 : ¬ (i + (1 : Int32) < 0 ∨ n ≤ (i + (1 : Int32)).toNatClampNeg)) (e1 : xs (i + (1 : Int32)).toNatClampNeg = p1) (h2 : ¬ (i + (2 : Int32) < 0 ∨ n ≤ (i + (2 : Int32)).toNatClampNeg)) (e2 : xs (i + (2 : Int32)).toNatClampNeg = p2) (hcs : cs + 1 ≤ 1124) (hss : ss + 6 ≤ 9915) {z9 : S7} (hR : some z9 = st_17 p1 p2 σ τ ν δ π ω μ)
    (kk : V l γ X M (wB γ h z9.1 ++ (wB γ g z9.2.1 ++ (wS as9 (h 0) (g 0) an aq (ad 0) (ap 0) ++ (wN an (h 0) z9.2.2.1 ++ (wR aq (h 0) ++ (wD γ ad z9.2.2.2.1 ++ (wP γ ap z9.2.2.2.2.1 ++ (wO γ au z9.2.2.2.2.2.1 ++ (wM γ am z9.2.2.2.2.2.2 ++ (r)))))))))) [some (.ref b), some (.ref as9), some (.ref (am 0)), some (.ref au), some (.int i), none, none] (cs + 1) (ss + 6) 2278 []) : V l γ X M (wB γ h σ ++ (wB γ g τ ++ (wS as9 (h 0) (g 0) an aq (ad 0) (ap 0) ++ (wN an (h 0) ν ++ (wR aq (h 0) ++ (wD γ ad δ ++ (wP γ ap π ++ (wO γ au ω ++ (wM γ am μ ++ (r)))))))))) [some (.ref b), some (.ref as9), some (.ref (am 0)), some (.ref au), some (.int i), none, none] cs ss 1343 [] := by
  unfold st_17 at hR
  refine r_aload_n 1343 1 K (dk_of tL_law_7 91 rfl) rfl rfl ?_
  refine r_aload_n 1344 0 K (dk_of tL_law_7 92 rfl) rfl rfl ?_
  refine r_iload 1345 4 K (dk_of tL_law_7 93 rfl) rfl ?_
  refine r_iconst 1347 (1 : Int32) K (dk_of tL_law_7 94 rfl) (by decide) ?_
  refine r_iadd 1348 K (dk_of tL_law_7 95 rfl) ?_
  refine r_sldN 1349 K hX hbl hbA h1 e1 (dk_of tL_law_7 96 rfl) ?_
  refine r_aload_n 1350 0 K (dk_of tL_law_7 97 rfl) rfl rfl ?_
  refine r_iload 1351 4 K (dk_of tL_law_7 98 rfl) rfl ?_
  refine r_iconst 1353 (2 : Int32) K (dk_of tL_law_7 99 rfl) (by decide) ?_
  refine r_iadd 1354 K (dk_of tL_law_8 0 rfl) ?_
  refine r_sldN 1355 K hX hbl hbA h2 e2 (dk_of tL_law_8 1 rfl) ?_
  refine r_aload_n 1356 3 K (dk_of tL_law_8 2 rfl) rfl rfl ?_
  obtain ⟨x1, σ2, ω3, hc, hR⟩ := o3 hR
  refine r_cSh (mc := 1) (ms := 6) (n := 4) 1357 [.ref as9, .int p1, .int p2, .ref au] [] x1 (wB γ h σ2 ++ (wB γ g τ ++ (wS as9 (h 0) (g 0) an aq (ad 0) (ap 0) ++ (wN an (h 0) ν ++ (wR aq (h 0) ++ (wD γ ad δ ++ (wP γ ap π ++ (wO γ au ω3 ++ (wM γ am μ ++ (r)))))))))) K (ct_L_use hl hc.symm) w757 w758 w0 cwx_use (by decide +kernel) ⟨rfl, rfl, rfl⟩ (dk_of tL_law_8 3 rfl) rfl rfl rfl ⟨hcs, hss⟩ ?_
  refine r_istore 1360 5 [some (.ref b), some (.ref as9), some (.ref (am 0)), some (.ref au), some (.int i), some (.int x1), none] K (dk_of tL_law_8 4 rfl) rfl rfl (by decide) ?_
  refine r_aload_n 1362 2 K (dk_of tL_law_8 5 rfl) rfl rfl ?_
  refine r_aload_n 1363 0 K (dk_of tL_law_8 6 rfl) rfl rfl ?_
  refine r_iload 1364 4 K (dk_of tL_law_8 7 rfl) rfl ?_
  refine r_iconst 1366 (1 : Int32) K (dk_of tL_law_8 8 rfl) (by decide) ?_
  refine r_iadd 1367 K (dk_of tL_law_8 9 rfl) ?_
  refine r_sldN 1368 K hX hbl hbA h1 e1 (dk_of tL_law_8 10 rfl) ?_
  refine r_aload_n 1369 0 K (dk_of tL_law_8 11 rfl) rfl rfl ?_
  refine r_iload 1370 4 K (dk_of tL_law_8 12 rfl) rfl ?_
  refine r_iconst 1372 (2 : Int32) K (dk_of tL_law_8 13 rfl) (by decide) ?_
  refine r_iadd 1373 K (dk_of tL_law_8 14 rfl) ?_
  refine r_sldN 1374 K hX hbl hbA h2 e2 (dk_of tL_law_8 15 rfl) ?_
  obtain ⟨x4, μ5, hc, hR⟩ := o2 hR
  refine r_perm (wM γ am μ ++ (wB γ h σ2 ++ (wB γ g τ ++ (wS as9 (h 0) (g 0) an aq (ad 0) (ap 0) ++ (wN an (h 0) ν ++ (wR aq (h 0) ++ (wD γ ad δ ++ (wP γ ap π ++ (wO γ au ω3 ++ (r)))))))))) (permF _ _ _ _ _ _ _ _ _ _) 1375 ?_
  refine r_cVi 1375 0 [.int p1, .int p2] [] x4 (wM γ am μ5 ++ (wB γ h σ2 ++ (wB γ g τ ++ (wS as9 (h 0) (g 0) an aq (ad 0) (ap 0) ++ (wN an (h 0) ν ++ (wR aq (h 0) ++ (wD γ ad δ ++ (wP γ ap π ++ (wO γ au ω3 ++ (r)))))))))) K (ct_X10_use hl hc.symm) cs_L_181 ⟨rfl, rfl, rfl⟩ (dk_of tL_law_8 16 rfl) rfl rfl rfl rfl rfl (bb_ hcs hss) ?_
  refine r_perm (wB γ h σ2 ++ (wB γ g τ ++ (wS as9 (h 0) (g 0) an aq (ad 0) (ap 0) ++ (wN an (h 0) ν ++ (wR aq (h 0) ++ (wD γ ad δ ++ (wP γ ap π ++ (wO γ au ω3 ++ (wM γ am μ5 ++ (r)))))))))) (permB _ _ _ _ _ _ _ _ _ _) 1378 ?_
  refine r_istore 1378 6 [some (.ref b), some (.ref as9), some (.ref (am 0)), some (.ref au), some (.int i), some (.int x1), some (.int x4)] K (dk_of tL_law_8 17 rfl) rfl rfl (by decide) ?_
  refine r_aload_n 1380 2 K (dk_of tL_law_8 18 rfl) rfl rfl ?_
  obtain ⟨x6, hc, hR⟩ := o1 hR
  refine r_perm (wM γ am μ5 ++ (wB γ h σ2 ++ (wB γ g τ ++ (wS as9 (h 0) (g 0) an aq (ad 0) (ap 0) ++ (wN an (h 0) ν ++ (wR aq (h 0) ++ (wD γ ad δ ++ (wP γ ap π ++ (wO γ au ω3 ++ (r)))))))))) (permF _ _ _ _ _ _ _ _ _ _) 1381 ?_
  refine r_cVi 1381 0 [] [] x6 (wM γ am μ5 ++ (wB γ h σ2 ++ (wB γ g τ ++ (wS as9 (h 0) (g 0) an aq (ad 0) (ap 0) ++ (wN an (h 0) ν ++ (wR aq (h 0) ++ (wD γ ad δ ++ (wP γ ap π ++ (wO γ au ω3 ++ (r)))))))))) K (ct_X10_thrown hl hc.symm) cs_L_124 ⟨rfl, rfl, rfl⟩ (dk_of tL_law_8 19 rfl) rfl rfl rfl rfl rfl (bb_ hcs hss) ?_
  refine r_perm (wB γ h σ2 ++ (wB γ g τ ++ (wS as9 (h 0) (g 0) an aq (ad 0) (ap 0) ++ (wN an (h 0) ν ++ (wR aq (h 0) ++ (wD γ ad δ ++ (wP γ ap π ++ (wO γ au ω3 ++ (wM γ am μ5 ++ (r)))))))))) (permB _ _ _ _ _ _ _ _ _ _) 1384 ?_
  refine r_iload 1384 5 K (dk_of tL_law_8 20 rfl) rfl ?_
  refine r_ic_eq 1386 1391 K (dk_of tL_law_8 21 rfl) (by decide) hR (fun hR => ?_) (fun hR => ?_)
  · refine r_iload 1391 5 K (dk_of tL_law_8 24 rfl) rfl ?_
    refine r_if_ne 1393 1408 K (dk_of tL_law_8 25 rfl) (by decide) hR (fun hR => ?_) (fun hR => ?_)
    · refine r_aload_n 1396 3 K (dk_of tL_law_8 26 rfl) rfl rfl ?_
      refine r_iconst 1397 (0 : Int32) K (dk_of tL_law_8 27 rfl) (by decide) ?_
      refine r_lald 1398 60 K (dk_of tL_law_8 28 rfl) rfl (vpd (by decide)) ?_
      refine r_iload 1399 6 K (dk_of tL_law_8 29 rfl) rfl ?_
      refine r_i2l 1401 K (dk_of tL_law_8 30 rfl) ?_
      refine r_lcmp 1402 K (dk_of tL_law_8 31 rfl) ?_
      refine r_if_eq 1403 1408 K (dk_of tL_law_8 32 rfl) (by decide) hR (fun hR => ?_) (fun hR => ?_)
      · refine r_goto 1408 2278 K (dk_of tL_law_8 35 rfl) (by decide) ?_
        cases hR
        exact r_msk [true, true, true, true, true, false, false] [some (.ref b), some (.ref as9), some (.ref (am 0)), some (.ref au), some (.int i), none, none] rfl kk
      · exact nn_ hR
    · refine r_goto 1408 2278 K (dk_of tL_law_8 35 rfl) (by decide) ?_
      cases hR
      exact r_msk [true, true, true, true, true, false, false] [some (.ref b), some (.ref as9), some (.ref (am 0)), some (.ref au), some (.int i), none, none] rfl kk
  · exact nn_ hR

def st_18 (p1 : Int32) (p2 : Int32) (p3 : Int32) (σ : St) (τ : St) (ν : (Nat → Int32)) (δ : St) (π : (St × Int64)) (ω : (Nat → Int64)) (μ : St) : Option S7 := b2 (sp_L_why p1 p2 p3 σ ω) (fun (x1 : Int32) (ω2 : (Nat → Int64)) => b2 (sp_X10_why p1 p2 p3 μ) (fun (x3 : Int32) (μ4 : St) => b1 (sp_X10_thrown μ4) (fun (x5 : Int32) => if x5 = x1 then (if x1 = 0 then (if (lg_cmp (ω2 (0 : Int32).toNatClampNeg) x3.toInt64) = 0 then (some (σ, τ, ν, δ, π, ω2, μ4)) else (none)) else (some (σ, τ, ν, δ, π, ω2, μ4))) else (none))))
set_option maxHeartbeats 4000000 in
set_option maxRecDepth 100000 in
theorem law_18 {l : Launch} (hl : l.stackTraces = false) {γ : Gd} {h g : Nat → Nat} {as9 an aq : Nat} {ad ap : Nat → Nat} {au : Nat} {am : Nat → Nat} {r : va_W} {σ : St} {τ : St} {ν : (Nat → Int32)} {δ : St} {π : (St × Int64)} {ω : (Nat → Int64)} {μ : St} {X : CX} {M : MX} {y : MethodName} {tb : List ExceptionTableEntry} {b n : Nat} {xs : Nat → Int32} {i p1 p2 p3 : Int32} {cs ss : Nat} (K : KX l γ X M y cL_law RL 7 rmL (some .boolean) tb) (hX : va_X b n xs (ks X) (ks X).heap) (hbl : b < (ks X).heap.size) (hbA : ¬ Ax X M b) (h1 : ¬ (i + (1 : Int32) < 0 ∨ n ≤ (i + (1 : Int32)).toNatClampNeg)) (e1 : xs (i + (1 : Int32)).toNatClampNeg = p1) (h2 : ¬ (i + (2 : Int32) < 0 ∨ n ≤ (i + (2 : Int32)).toNatClampNeg)) (e2 : xs (i + (2 : Int32)).toNatClampNeg = p2) (h3 : ¬ (i + (3 : Int32) < 0 ∨ n ≤ (i + (3 : Int32)).toNatClampNeg)) (e3 : xs (i + (3 : Int32)).toNatClampNeg = p3) (hcs : cs + 1 ≤ 1124) (hss : ss + 6 ≤ 9915) {z9 : S7} (hR : some z9 = st_18 p1 p2 p3 σ τ ν δ π ω μ)
    (kk : V l γ X M (wB γ h z9.1 ++ (wB γ g z9.2.1 ++ (wS as9 (h 0) (g 0) an aq (ad 0) (ap 0) ++ (wN an (h 0) z9.2.2.1 ++ (wR aq (h 0) ++ (wD γ ad z9.2.2.2.1 ++ (wP γ ap z9.2.2.2.2.1 ++ (wO γ au z9.2.2.2.2.2.1 ++ (wM γ am z9.2.2.2.2.2.2 ++ (r)))))))))) [some (.ref b), some (.ref as9), some (.ref (am 0)), some (.ref au), some (.int i), none, none] (cs + 1) (ss + 6) 2278 []) : V l γ X M (wB γ h σ ++ (wB γ g τ ++ (wS as9 (h 0) (g 0) an aq (ad 0) (ap 0) ++ (wN an (h 0) ν ++ (wR aq (h 0) ++ (wD γ ad δ ++ (wP γ ap π ++ (wO γ au ω ++ (wM γ am μ ++ (r)))))))))) [some (.ref b), some (.ref as9), some (.ref (am 0)), some (.ref au), some (.int i), none, none] cs ss 1411 [] := by
  unfold st_18 at hR
  refine r_aload_n 1411 1 K (dk_of tL_law_8 36 rfl) rfl rfl ?_
  refine r_aload_n 1412 0 K (dk_of tL_law_8 37 rfl) rfl rfl ?_
  refine r_iload 1413 4 K (dk_of tL_law_8 38 rfl) rfl ?_
  refine r_iconst 1415 (1 : Int32) K (dk_of tL_law_8 39 rfl) (by decide) ?_
  refine r_iadd 1416 K (dk_of tL_law_8 40 rfl) ?_
  refine r_sldN 1417 K hX hbl hbA h1 e1 (dk_of tL_law_8 41 rfl) ?_
  refine r_aload_n 1418 0 K (dk_of tL_law_8 42 rfl) rfl rfl ?_
  refine r_iload 1419 4 K (dk_of tL_law_8 43 rfl) rfl ?_
  refine r_iconst 1421 (2 : Int32) K (dk_of tL_law_8 44 rfl) (by decide) ?_
  refine r_iadd 1422 K (dk_of tL_law_8 45 rfl) ?_
  refine r_sldN 1423 K hX hbl hbA h2 e2 (dk_of tL_law_8 46 rfl) ?_
  refine r_aload_n 1424 0 K (dk_of tL_law_8 47 rfl) rfl rfl ?_
  refine r_iload 1425 4 K (dk_of tL_law_8 48 rfl) rfl ?_
  refine r_iconst 1427 (3 : Int32) K (dk_of tL_law_8 49 rfl) (by decide) ?_
  refine r_iadd 1428 K (dk_of tL_law_8 50 rfl) ?_
  refine r_sldN 1429 K hX hbl hbA h3 e3 (dk_of tL_law_8 51 rfl) ?_
  refine r_aload_n 1430 3 K (dk_of tL_law_8 52 rfl) rfl rfl ?_
  obtain ⟨x1, ω2, hc, hR⟩ := o2 hR
  refine r_cSh (mc := 1) (ms := 6) (n := 5) 1431 [.ref as9, .int p1, .int p2, .int p3, .ref au] [] x1 (wB γ h σ ++ (wB γ g τ ++ (wS as9 (h 0) (g 0) an aq (ad 0) (ap 0) ++ (wN an (h 0) ν ++ (wR aq (h 0) ++ (wD γ ad δ ++ (wP γ ap π ++ (wO γ au ω2 ++ (wM γ am μ ++ (r)))))))))) K (ct_L_why hl hc.symm) w789 w790 w0 cwx_why (by decide +kernel) ⟨rfl, rfl, rfl⟩ (dk_of tL_law_8 53 rfl) rfl rfl rfl ⟨hcs, hss⟩ ?_
  refine r_istore 1434 5 [some (.ref b), some (.ref as9), some (.ref (am 0)), some (.ref au), some (.int i), some (.int x1), none] K (dk_of tL_law_8 54 rfl) rfl rfl (by decide) ?_
  refine r_aload_n 1436 2 K (dk_of tL_law_8 55 rfl) rfl rfl ?_
  refine r_aload_n 1437 0 K (dk_of tL_law_8 56 rfl) rfl rfl ?_
  refine r_iload 1438 4 K (dk_of tL_law_8 57 rfl) rfl ?_
  refine r_iconst 1440 (1 : Int32) K (dk_of tL_law_8 58 rfl) (by decide) ?_
  refine r_iadd 1441 K (dk_of tL_law_8 59 rfl) ?_
  refine r_sldN 1442 K hX hbl hbA h1 e1 (dk_of tL_law_8 60 rfl) ?_
  refine r_aload_n 1443 0 K (dk_of tL_law_8 61 rfl) rfl rfl ?_
  refine r_iload 1444 4 K (dk_of tL_law_8 62 rfl) rfl ?_
  refine r_iconst 1446 (2 : Int32) K (dk_of tL_law_8 63 rfl) (by decide) ?_
  refine r_iadd 1447 K (dk_of tL_law_8 64 rfl) ?_
  refine r_sldN 1448 K hX hbl hbA h2 e2 (dk_of tL_law_8 65 rfl) ?_
  refine r_aload_n 1449 0 K (dk_of tL_law_8 66 rfl) rfl rfl ?_
  refine r_iload 1450 4 K (dk_of tL_law_8 67 rfl) rfl ?_
  refine r_iconst 1452 (3 : Int32) K (dk_of tL_law_8 68 rfl) (by decide) ?_
  refine r_iadd 1453 K (dk_of tL_law_8 69 rfl) ?_
  refine r_sldN 1454 K hX hbl hbA h3 e3 (dk_of tL_law_8 70 rfl) ?_
  obtain ⟨x3, μ4, hc, hR⟩ := o2 hR
  refine r_perm (wM γ am μ ++ (wB γ h σ ++ (wB γ g τ ++ (wS as9 (h 0) (g 0) an aq (ad 0) (ap 0) ++ (wN an (h 0) ν ++ (wR aq (h 0) ++ (wD γ ad δ ++ (wP γ ap π ++ (wO γ au ω2 ++ (r)))))))))) (permF _ _ _ _ _ _ _ _ _ _) 1455 ?_
  refine r_cVi 1455 0 [.int p1, .int p2, .int p3] [] x3 (wM γ am μ4 ++ (wB γ h σ ++ (wB γ g τ ++ (wS as9 (h 0) (g 0) an aq (ad 0) (ap 0) ++ (wN an (h 0) ν ++ (wR aq (h 0) ++ (wD γ ad δ ++ (wP γ ap π ++ (wO γ au ω2 ++ (r)))))))))) K (ct_X10_why hl hc.symm) cs_L_184 ⟨rfl, rfl, rfl⟩ (dk_of tL_law_8 71 rfl) rfl rfl rfl rfl rfl (bb_ hcs hss) ?_
  refine r_perm (wB γ h σ ++ (wB γ g τ ++ (wS as9 (h 0) (g 0) an aq (ad 0) (ap 0) ++ (wN an (h 0) ν ++ (wR aq (h 0) ++ (wD γ ad δ ++ (wP γ ap π ++ (wO γ au ω2 ++ (wM γ am μ4 ++ (r)))))))))) (permB _ _ _ _ _ _ _ _ _ _) 1458 ?_
  refine r_istore 1458 6 [some (.ref b), some (.ref as9), some (.ref (am 0)), some (.ref au), some (.int i), some (.int x1), some (.int x3)] K (dk_of tL_law_8 72 rfl) rfl rfl (by decide) ?_
  refine r_aload_n 1460 2 K (dk_of tL_law_8 73 rfl) rfl rfl ?_
  obtain ⟨x5, hc, hR⟩ := o1 hR
  refine r_perm (wM γ am μ4 ++ (wB γ h σ ++ (wB γ g τ ++ (wS as9 (h 0) (g 0) an aq (ad 0) (ap 0) ++ (wN an (h 0) ν ++ (wR aq (h 0) ++ (wD γ ad δ ++ (wP γ ap π ++ (wO γ au ω2 ++ (r)))))))))) (permF _ _ _ _ _ _ _ _ _ _) 1461 ?_
  refine r_cVi 1461 0 [] [] x5 (wM γ am μ4 ++ (wB γ h σ ++ (wB γ g τ ++ (wS as9 (h 0) (g 0) an aq (ad 0) (ap 0) ++ (wN an (h 0) ν ++ (wR aq (h 0) ++ (wD γ ad δ ++ (wP γ ap π ++ (wO γ au ω2 ++ (r)))))))))) K (ct_X10_thrown hl hc.symm) cs_L_124 ⟨rfl, rfl, rfl⟩ (dk_of tL_law_8 74 rfl) rfl rfl rfl rfl rfl (bb_ hcs hss) ?_
  refine r_perm (wB γ h σ ++ (wB γ g τ ++ (wS as9 (h 0) (g 0) an aq (ad 0) (ap 0) ++ (wN an (h 0) ν ++ (wR aq (h 0) ++ (wD γ ad δ ++ (wP γ ap π ++ (wO γ au ω2 ++ (wM γ am μ4 ++ (r)))))))))) (permB _ _ _ _ _ _ _ _ _ _) 1464 ?_
  refine r_iload 1464 5 K (dk_of tL_law_8 75 rfl) rfl ?_
  refine r_ic_eq 1466 1471 K (dk_of tL_law_8 76 rfl) (by decide) hR (fun hR => ?_) (fun hR => ?_)
  · refine r_iload 1471 5 K (dk_of tL_law_8 79 rfl) rfl ?_
    refine r_if_ne 1473 1488 K (dk_of tL_law_8 80 rfl) (by decide) hR (fun hR => ?_) (fun hR => ?_)
    · refine r_aload_n 1476 3 K (dk_of tL_law_8 81 rfl) rfl rfl ?_
      refine r_iconst 1477 (0 : Int32) K (dk_of tL_law_8 82 rfl) (by decide) ?_
      refine r_lald 1478 60 K (dk_of tL_law_8 83 rfl) rfl (vpd (by decide)) ?_
      refine r_iload 1479 6 K (dk_of tL_law_8 84 rfl) rfl ?_
      refine r_i2l 1481 K (dk_of tL_law_8 85 rfl) ?_
      refine r_lcmp 1482 K (dk_of tL_law_8 86 rfl) ?_
      refine r_if_eq 1483 1488 K (dk_of tL_law_8 87 rfl) (by decide) hR (fun hR => ?_) (fun hR => ?_)
      · refine r_goto 1488 2278 K (dk_of tL_law_8 90 rfl) (by decide) ?_
        cases hR
        exact r_msk [true, true, true, true, true, false, false] [some (.ref b), some (.ref as9), some (.ref (am 0)), some (.ref au), some (.int i), none, none] rfl kk
      · exact nn_ hR
    · refine r_goto 1488 2278 K (dk_of tL_law_8 90 rfl) (by decide) ?_
      cases hR
      exact r_msk [true, true, true, true, true, false, false] [some (.ref b), some (.ref as9), some (.ref (am 0)), some (.ref au), some (.int i), none, none] rfl kk
  · exact nn_ hR

def st_19 (p1 : Int32) (p2 : Int32) (σ : St) (τ : St) (ν : (Nat → Int32)) (δ : St) (π : (St × Int64)) (ω : (Nat → Int64)) (μ : St) : Option S7 := b3 (sp_L_birds p1 p2 σ ω) (fun (x1 : Int32) (σ2 : St) (ω3 : (Nat → Int64)) => b2 (sp_X10_birds p1 p2 μ) (fun (x4 : Int32) (μ5 : St) => b1 (sp_X10_thrown μ5) (fun (x6 : Int32) => if x6 = x1 then (if x1 = 0 then (if (lg_cmp (ω3 (0 : Int32).toNatClampNeg) x4.toInt64) = 0 then (some (σ2, τ, ν, δ, π, ω3, μ5)) else (none)) else (some (σ2, τ, ν, δ, π, ω3, μ5))) else (none))))
set_option maxHeartbeats 4000000 in
set_option maxRecDepth 100000 in
theorem law_19 {l : Launch} (hl : l.stackTraces = false) {γ : Gd} {h g : Nat → Nat} {as9 an aq : Nat} {ad ap : Nat → Nat} {au : Nat} {am : Nat → Nat} {r : va_W} {σ : St} {τ : St} {ν : (Nat → Int32)} {δ : St} {π : (St × Int64)} {ω : (Nat → Int64)} {μ : St} {X : CX} {M : MX} {y : MethodName} {tb : List ExceptionTableEntry} {b n : Nat} {xs : Nat → Int32} {i p1 p2 : Int32} {cs ss : Nat} (K : KX l γ X M y cL_law RL 7 rmL (some .boolean) tb) (hX : va_X b n xs (ks X) (ks X).heap) (hbl : b < (ks X).heap.size) (hbA : ¬ Ax X M b) (h1 : ¬ (i + (1 : Int32) < 0 ∨ n ≤ (i + (1 : Int32)).toNatClampNeg)) (e1 : xs (i + (1 : Int32)).toNatClampNeg = p1) (h2 : ¬ (i + (2 : Int32) < 0 ∨ n ≤ (i + (2 : Int32)).toNatClampNeg)) (e2 : xs (i + (2 : Int32)).toNatClampNeg = p2) (hcs : cs + 1 ≤ 1124) (hss : ss + 6 ≤ 9915) {z9 : S7} (hR : some z9 = st_19 p1 p2 σ τ ν δ π ω μ)
    (kk : V l γ X M (wB γ h z9.1 ++ (wB γ g z9.2.1 ++ (wS as9 (h 0) (g 0) an aq (ad 0) (ap 0) ++ (wN an (h 0) z9.2.2.1 ++ (wR aq (h 0) ++ (wD γ ad z9.2.2.2.1 ++ (wP γ ap z9.2.2.2.2.1 ++ (wO γ au z9.2.2.2.2.2.1 ++ (wM γ am z9.2.2.2.2.2.2 ++ (r)))))))))) [some (.ref b), some (.ref as9), some (.ref (am 0)), some (.ref au), some (.int i), none, none] (cs + 1) (ss + 6) 2278 []) : V l γ X M (wB γ h σ ++ (wB γ g τ ++ (wS as9 (h 0) (g 0) an aq (ad 0) (ap 0) ++ (wN an (h 0) ν ++ (wR aq (h 0) ++ (wD γ ad δ ++ (wP γ ap π ++ (wO γ au ω ++ (wM γ am μ ++ (r)))))))))) [some (.ref b), some (.ref as9), some (.ref (am 0)), some (.ref au), some (.int i), none, none] cs ss 1491 [] := by
  unfold st_19 at hR
  refine r_aload_n 1491 1 K (dk_of tL_law_8 91 rfl) rfl rfl ?_
  refine r_aload_n 1492 0 K (dk_of tL_law_8 92 rfl) rfl rfl ?_
  refine r_iload 1493 4 K (dk_of tL_law_8 93 rfl) rfl ?_
  refine r_iconst 1495 (1 : Int32) K (dk_of tL_law_8 94 rfl) (by decide) ?_
  refine r_iadd 1496 K (dk_of tL_law_8 95 rfl) ?_
  refine r_sldN 1497 K hX hbl hbA h1 e1 (dk_of tL_law_8 96 rfl) ?_
  refine r_aload_n 1498 0 K (dk_of tL_law_8 97 rfl) rfl rfl ?_
  refine r_iload 1499 4 K (dk_of tL_law_8 98 rfl) rfl ?_
  refine r_iconst 1501 (2 : Int32) K (dk_of tL_law_8 99 rfl) (by decide) ?_
  refine r_iadd 1502 K (dk_of tL_law_9 0 rfl) ?_
  refine r_sldN 1503 K hX hbl hbA h2 e2 (dk_of tL_law_9 1 rfl) ?_
  refine r_aload_n 1504 3 K (dk_of tL_law_9 2 rfl) rfl rfl ?_
  obtain ⟨x1, σ2, ω3, hc, hR⟩ := o3 hR
  refine r_cSh (mc := 1) (ms := 6) (n := 4) 1505 [.ref as9, .int p1, .int p2, .ref au] [] x1 (wB γ h σ2 ++ (wB γ g τ ++ (wS as9 (h 0) (g 0) an aq (ad 0) (ap 0) ++ (wN an (h 0) ν ++ (wR aq (h 0) ++ (wD γ ad δ ++ (wP γ ap π ++ (wO γ au ω3 ++ (wM γ am μ ++ (r)))))))))) K (ct_L_birds hl hc.symm) w804 w805 w0 cwx_birds (by decide +kernel) ⟨rfl, rfl, rfl⟩ (dk_of tL_law_9 3 rfl) rfl rfl rfl ⟨hcs, hss⟩ ?_
  refine r_istore 1508 5 [some (.ref b), some (.ref as9), some (.ref (am 0)), some (.ref au), some (.int i), some (.int x1), none] K (dk_of tL_law_9 4 rfl) rfl rfl (by decide) ?_
  refine r_aload_n 1510 2 K (dk_of tL_law_9 5 rfl) rfl rfl ?_
  refine r_aload_n 1511 0 K (dk_of tL_law_9 6 rfl) rfl rfl ?_
  refine r_iload 1512 4 K (dk_of tL_law_9 7 rfl) rfl ?_
  refine r_iconst 1514 (1 : Int32) K (dk_of tL_law_9 8 rfl) (by decide) ?_
  refine r_iadd 1515 K (dk_of tL_law_9 9 rfl) ?_
  refine r_sldN 1516 K hX hbl hbA h1 e1 (dk_of tL_law_9 10 rfl) ?_
  refine r_aload_n 1517 0 K (dk_of tL_law_9 11 rfl) rfl rfl ?_
  refine r_iload 1518 4 K (dk_of tL_law_9 12 rfl) rfl ?_
  refine r_iconst 1520 (2 : Int32) K (dk_of tL_law_9 13 rfl) (by decide) ?_
  refine r_iadd 1521 K (dk_of tL_law_9 14 rfl) ?_
  refine r_sldN 1522 K hX hbl hbA h2 e2 (dk_of tL_law_9 15 rfl) ?_
  obtain ⟨x4, μ5, hc, hR⟩ := o2 hR
  refine r_perm (wM γ am μ ++ (wB γ h σ2 ++ (wB γ g τ ++ (wS as9 (h 0) (g 0) an aq (ad 0) (ap 0) ++ (wN an (h 0) ν ++ (wR aq (h 0) ++ (wD γ ad δ ++ (wP γ ap π ++ (wO γ au ω3 ++ (r)))))))))) (permF _ _ _ _ _ _ _ _ _ _) 1523 ?_
  refine r_cVi 1523 0 [.int p1, .int p2] [] x4 (wM γ am μ5 ++ (wB γ h σ2 ++ (wB γ g τ ++ (wS as9 (h 0) (g 0) an aq (ad 0) (ap 0) ++ (wN an (h 0) ν ++ (wR aq (h 0) ++ (wD γ ad δ ++ (wP γ ap π ++ (wO γ au ω3 ++ (r)))))))))) K (ct_X10_birds hl hc.symm) cs_L_187 ⟨rfl, rfl, rfl⟩ (dk_of tL_law_9 16 rfl) rfl rfl rfl rfl rfl (bb_ hcs hss) ?_
  refine r_perm (wB γ h σ2 ++ (wB γ g τ ++ (wS as9 (h 0) (g 0) an aq (ad 0) (ap 0) ++ (wN an (h 0) ν ++ (wR aq (h 0) ++ (wD γ ad δ ++ (wP γ ap π ++ (wO γ au ω3 ++ (wM γ am μ5 ++ (r)))))))))) (permB _ _ _ _ _ _ _ _ _ _) 1526 ?_
  refine r_istore 1526 6 [some (.ref b), some (.ref as9), some (.ref (am 0)), some (.ref au), some (.int i), some (.int x1), some (.int x4)] K (dk_of tL_law_9 17 rfl) rfl rfl (by decide) ?_
  refine r_aload_n 1528 2 K (dk_of tL_law_9 18 rfl) rfl rfl ?_
  obtain ⟨x6, hc, hR⟩ := o1 hR
  refine r_perm (wM γ am μ5 ++ (wB γ h σ2 ++ (wB γ g τ ++ (wS as9 (h 0) (g 0) an aq (ad 0) (ap 0) ++ (wN an (h 0) ν ++ (wR aq (h 0) ++ (wD γ ad δ ++ (wP γ ap π ++ (wO γ au ω3 ++ (r)))))))))) (permF _ _ _ _ _ _ _ _ _ _) 1529 ?_
  refine r_cVi 1529 0 [] [] x6 (wM γ am μ5 ++ (wB γ h σ2 ++ (wB γ g τ ++ (wS as9 (h 0) (g 0) an aq (ad 0) (ap 0) ++ (wN an (h 0) ν ++ (wR aq (h 0) ++ (wD γ ad δ ++ (wP γ ap π ++ (wO γ au ω3 ++ (r)))))))))) K (ct_X10_thrown hl hc.symm) cs_L_124 ⟨rfl, rfl, rfl⟩ (dk_of tL_law_9 19 rfl) rfl rfl rfl rfl rfl (bb_ hcs hss) ?_
  refine r_perm (wB γ h σ2 ++ (wB γ g τ ++ (wS as9 (h 0) (g 0) an aq (ad 0) (ap 0) ++ (wN an (h 0) ν ++ (wR aq (h 0) ++ (wD γ ad δ ++ (wP γ ap π ++ (wO γ au ω3 ++ (wM γ am μ5 ++ (r)))))))))) (permB _ _ _ _ _ _ _ _ _ _) 1532 ?_
  refine r_iload 1532 5 K (dk_of tL_law_9 20 rfl) rfl ?_
  refine r_ic_eq 1534 1539 K (dk_of tL_law_9 21 rfl) (by decide) hR (fun hR => ?_) (fun hR => ?_)
  · refine r_iload 1539 5 K (dk_of tL_law_9 24 rfl) rfl ?_
    refine r_if_ne 1541 1556 K (dk_of tL_law_9 25 rfl) (by decide) hR (fun hR => ?_) (fun hR => ?_)
    · refine r_aload_n 1544 3 K (dk_of tL_law_9 26 rfl) rfl rfl ?_
      refine r_iconst 1545 (0 : Int32) K (dk_of tL_law_9 27 rfl) (by decide) ?_
      refine r_lald 1546 60 K (dk_of tL_law_9 28 rfl) rfl (vpd (by decide)) ?_
      refine r_iload 1547 6 K (dk_of tL_law_9 29 rfl) rfl ?_
      refine r_i2l 1549 K (dk_of tL_law_9 30 rfl) ?_
      refine r_lcmp 1550 K (dk_of tL_law_9 31 rfl) ?_
      refine r_if_eq 1551 1556 K (dk_of tL_law_9 32 rfl) (by decide) hR (fun hR => ?_) (fun hR => ?_)
      · refine r_goto 1556 2278 K (dk_of tL_law_9 35 rfl) (by decide) ?_
        cases hR
        exact r_msk [true, true, true, true, true, false, false] [some (.ref b), some (.ref as9), some (.ref (am 0)), some (.ref au), some (.int i), none, none] rfl kk
      · exact nn_ hR
    · refine r_goto 1556 2278 K (dk_of tL_law_9 35 rfl) (by decide) ?_
      cases hR
      exact r_msk [true, true, true, true, true, false, false] [some (.ref b), some (.ref as9), some (.ref (am 0)), some (.ref au), some (.int i), none, none] rfl kk
  · exact nn_ hR

def st_20 (p1 : Int32) (p2 : Int32) (σ : St) (τ : St) (ν : (Nat → Int32)) (δ : St) (π : (St × Int64)) (ω : (Nat → Int64)) (μ : St) : Option S7 := b3 (sp_L_wash p1 p2 σ ω) (fun (x1 : Int32) (σ2 : St) (ω3 : (Nat → Int64)) => b2 (sp_X10_wash p1 p2 μ) (fun (x4 : Int32) (μ5 : St) => b1 (sp_X10_thrown μ5) (fun (x6 : Int32) => if x6 = x1 then (if x1 = 0 then (if (lg_cmp (ω3 (0 : Int32).toNatClampNeg) x4.toInt64) = 0 then (some (σ2, τ, ν, δ, π, ω3, μ5)) else (none)) else (some (σ2, τ, ν, δ, π, ω3, μ5))) else (none))))
set_option maxHeartbeats 4000000 in
set_option maxRecDepth 100000 in
theorem law_20 {l : Launch} (hl : l.stackTraces = false) {γ : Gd} {h g : Nat → Nat} {as9 an aq : Nat} {ad ap : Nat → Nat} {au : Nat} {am : Nat → Nat} {r : va_W} {σ : St} {τ : St} {ν : (Nat → Int32)} {δ : St} {π : (St × Int64)} {ω : (Nat → Int64)} {μ : St} {X : CX} {M : MX} {y : MethodName} {tb : List ExceptionTableEntry} {b n : Nat} {xs : Nat → Int32} {i p1 p2 : Int32} {cs ss : Nat} (K : KX l γ X M y cL_law RL 7 rmL (some .boolean) tb) (hX : va_X b n xs (ks X) (ks X).heap) (hbl : b < (ks X).heap.size) (hbA : ¬ Ax X M b) (h1 : ¬ (i + (1 : Int32) < 0 ∨ n ≤ (i + (1 : Int32)).toNatClampNeg)) (e1 : xs (i + (1 : Int32)).toNatClampNeg = p1) (h2 : ¬ (i + (2 : Int32) < 0 ∨ n ≤ (i + (2 : Int32)).toNatClampNeg)) (e2 : xs (i + (2 : Int32)).toNatClampNeg = p2) (hcs : cs + 1 ≤ 1124) (hss : ss + 6 ≤ 9915) {z9 : S7} (hR : some z9 = st_20 p1 p2 σ τ ν δ π ω μ)
    (kk : V l γ X M (wB γ h z9.1 ++ (wB γ g z9.2.1 ++ (wS as9 (h 0) (g 0) an aq (ad 0) (ap 0) ++ (wN an (h 0) z9.2.2.1 ++ (wR aq (h 0) ++ (wD γ ad z9.2.2.2.1 ++ (wP γ ap z9.2.2.2.2.1 ++ (wO γ au z9.2.2.2.2.2.1 ++ (wM γ am z9.2.2.2.2.2.2 ++ (r)))))))))) [some (.ref b), some (.ref as9), some (.ref (am 0)), some (.ref au), some (.int i), none, none] (cs + 1) (ss + 6) 2278 []) : V l γ X M (wB γ h σ ++ (wB γ g τ ++ (wS as9 (h 0) (g 0) an aq (ad 0) (ap 0) ++ (wN an (h 0) ν ++ (wR aq (h 0) ++ (wD γ ad δ ++ (wP γ ap π ++ (wO γ au ω ++ (wM γ am μ ++ (r)))))))))) [some (.ref b), some (.ref as9), some (.ref (am 0)), some (.ref au), some (.int i), none, none] cs ss 1559 [] := by
  unfold st_20 at hR
  refine r_aload_n 1559 1 K (dk_of tL_law_9 36 rfl) rfl rfl ?_
  refine r_aload_n 1560 0 K (dk_of tL_law_9 37 rfl) rfl rfl ?_
  refine r_iload 1561 4 K (dk_of tL_law_9 38 rfl) rfl ?_
  refine r_iconst 1563 (1 : Int32) K (dk_of tL_law_9 39 rfl) (by decide) ?_
  refine r_iadd 1564 K (dk_of tL_law_9 40 rfl) ?_
  refine r_sldN 1565 K hX hbl hbA h1 e1 (dk_of tL_law_9 41 rfl) ?_
  refine r_aload_n 1566 0 K (dk_of tL_law_9 42 rfl) rfl rfl ?_
  refine r_iload 1567 4 K (dk_of tL_law_9 43 rfl) rfl ?_
  refine r_iconst 1569 (2 : Int32) K (dk_of tL_law_9 44 rfl) (by decide) ?_
  refine r_iadd 1570 K (dk_of tL_law_9 45 rfl) ?_
  refine r_sldN 1571 K hX hbl hbA h2 e2 (dk_of tL_law_9 46 rfl) ?_
  refine r_aload_n 1572 3 K (dk_of tL_law_9 47 rfl) rfl rfl ?_
  obtain ⟨x1, σ2, ω3, hc, hR⟩ := o3 hR
  refine r_cSh (mc := 1) (ms := 6) (n := 4) 1573 [.ref as9, .int p1, .int p2, .ref au] [] x1 (wB γ h σ2 ++ (wB γ g τ ++ (wS as9 (h 0) (g 0) an aq (ad 0) (ap 0) ++ (wN an (h 0) ν ++ (wR aq (h 0) ++ (wD γ ad δ ++ (wP γ ap π ++ (wO γ au ω3 ++ (wM γ am μ ++ (r)))))))))) K (ct_L_wash hl hc.symm) w812 w813 w0 cwx_wash (by decide +kernel) ⟨rfl, rfl, rfl⟩ (dk_of tL_law_9 48 rfl) rfl rfl rfl ⟨hcs, hss⟩ ?_
  refine r_istore 1576 5 [some (.ref b), some (.ref as9), some (.ref (am 0)), some (.ref au), some (.int i), some (.int x1), none] K (dk_of tL_law_9 49 rfl) rfl rfl (by decide) ?_
  refine r_aload_n 1578 2 K (dk_of tL_law_9 50 rfl) rfl rfl ?_
  refine r_aload_n 1579 0 K (dk_of tL_law_9 51 rfl) rfl rfl ?_
  refine r_iload 1580 4 K (dk_of tL_law_9 52 rfl) rfl ?_
  refine r_iconst 1582 (1 : Int32) K (dk_of tL_law_9 53 rfl) (by decide) ?_
  refine r_iadd 1583 K (dk_of tL_law_9 54 rfl) ?_
  refine r_sldN 1584 K hX hbl hbA h1 e1 (dk_of tL_law_9 55 rfl) ?_
  refine r_aload_n 1585 0 K (dk_of tL_law_9 56 rfl) rfl rfl ?_
  refine r_iload 1586 4 K (dk_of tL_law_9 57 rfl) rfl ?_
  refine r_iconst 1588 (2 : Int32) K (dk_of tL_law_9 58 rfl) (by decide) ?_
  refine r_iadd 1589 K (dk_of tL_law_9 59 rfl) ?_
  refine r_sldN 1590 K hX hbl hbA h2 e2 (dk_of tL_law_9 60 rfl) ?_
  obtain ⟨x4, μ5, hc, hR⟩ := o2 hR
  refine r_perm (wM γ am μ ++ (wB γ h σ2 ++ (wB γ g τ ++ (wS as9 (h 0) (g 0) an aq (ad 0) (ap 0) ++ (wN an (h 0) ν ++ (wR aq (h 0) ++ (wD γ ad δ ++ (wP γ ap π ++ (wO γ au ω3 ++ (r)))))))))) (permF _ _ _ _ _ _ _ _ _ _) 1591 ?_
  refine r_cVi 1591 0 [.int p1, .int p2] [] x4 (wM γ am μ5 ++ (wB γ h σ2 ++ (wB γ g τ ++ (wS as9 (h 0) (g 0) an aq (ad 0) (ap 0) ++ (wN an (h 0) ν ++ (wR aq (h 0) ++ (wD γ ad δ ++ (wP γ ap π ++ (wO γ au ω3 ++ (r)))))))))) K (ct_X10_wash hl hc.symm) cs_L_190 ⟨rfl, rfl, rfl⟩ (dk_of tL_law_9 61 rfl) rfl rfl rfl rfl rfl (bb_ hcs hss) ?_
  refine r_perm (wB γ h σ2 ++ (wB γ g τ ++ (wS as9 (h 0) (g 0) an aq (ad 0) (ap 0) ++ (wN an (h 0) ν ++ (wR aq (h 0) ++ (wD γ ad δ ++ (wP γ ap π ++ (wO γ au ω3 ++ (wM γ am μ5 ++ (r)))))))))) (permB _ _ _ _ _ _ _ _ _ _) 1594 ?_
  refine r_istore 1594 6 [some (.ref b), some (.ref as9), some (.ref (am 0)), some (.ref au), some (.int i), some (.int x1), some (.int x4)] K (dk_of tL_law_9 62 rfl) rfl rfl (by decide) ?_
  refine r_aload_n 1596 2 K (dk_of tL_law_9 63 rfl) rfl rfl ?_
  obtain ⟨x6, hc, hR⟩ := o1 hR
  refine r_perm (wM γ am μ5 ++ (wB γ h σ2 ++ (wB γ g τ ++ (wS as9 (h 0) (g 0) an aq (ad 0) (ap 0) ++ (wN an (h 0) ν ++ (wR aq (h 0) ++ (wD γ ad δ ++ (wP γ ap π ++ (wO γ au ω3 ++ (r)))))))))) (permF _ _ _ _ _ _ _ _ _ _) 1597 ?_
  refine r_cVi 1597 0 [] [] x6 (wM γ am μ5 ++ (wB γ h σ2 ++ (wB γ g τ ++ (wS as9 (h 0) (g 0) an aq (ad 0) (ap 0) ++ (wN an (h 0) ν ++ (wR aq (h 0) ++ (wD γ ad δ ++ (wP γ ap π ++ (wO γ au ω3 ++ (r)))))))))) K (ct_X10_thrown hl hc.symm) cs_L_124 ⟨rfl, rfl, rfl⟩ (dk_of tL_law_9 64 rfl) rfl rfl rfl rfl rfl (bb_ hcs hss) ?_
  refine r_perm (wB γ h σ2 ++ (wB γ g τ ++ (wS as9 (h 0) (g 0) an aq (ad 0) (ap 0) ++ (wN an (h 0) ν ++ (wR aq (h 0) ++ (wD γ ad δ ++ (wP γ ap π ++ (wO γ au ω3 ++ (wM γ am μ5 ++ (r)))))))))) (permB _ _ _ _ _ _ _ _ _ _) 1600 ?_
  refine r_iload 1600 5 K (dk_of tL_law_9 65 rfl) rfl ?_
  refine r_ic_eq 1602 1607 K (dk_of tL_law_9 66 rfl) (by decide) hR (fun hR => ?_) (fun hR => ?_)
  · refine r_iload 1607 5 K (dk_of tL_law_9 69 rfl) rfl ?_
    refine r_if_ne 1609 1624 K (dk_of tL_law_9 70 rfl) (by decide) hR (fun hR => ?_) (fun hR => ?_)
    · refine r_aload_n 1612 3 K (dk_of tL_law_9 71 rfl) rfl rfl ?_
      refine r_iconst 1613 (0 : Int32) K (dk_of tL_law_9 72 rfl) (by decide) ?_
      refine r_lald 1614 60 K (dk_of tL_law_9 73 rfl) rfl (vpd (by decide)) ?_
      refine r_iload 1615 6 K (dk_of tL_law_9 74 rfl) rfl ?_
      refine r_i2l 1617 K (dk_of tL_law_9 75 rfl) ?_
      refine r_lcmp 1618 K (dk_of tL_law_9 76 rfl) ?_
      refine r_if_eq 1619 1624 K (dk_of tL_law_9 77 rfl) (by decide) hR (fun hR => ?_) (fun hR => ?_)
      · refine r_goto 1624 2278 K (dk_of tL_law_9 80 rfl) (by decide) ?_
        cases hR
        exact r_msk [true, true, true, true, true, false, false] [some (.ref b), some (.ref as9), some (.ref (am 0)), some (.ref au), some (.int i), none, none] rfl kk
      · exact nn_ hR
    · refine r_goto 1624 2278 K (dk_of tL_law_9 80 rfl) (by decide) ?_
      cases hR
      exact r_msk [true, true, true, true, true, false, false] [some (.ref b), some (.ref as9), some (.ref (am 0)), some (.ref au), some (.int i), none, none] rfl kk
  · exact nn_ hR

def st_21 (p1 : Int32) (p2 : Int32) (σ : St) (τ : St) (ν : (Nat → Int32)) (δ : St) (π : (St × Int64)) (ω : (Nat → Int64)) (μ : St) : Option S7 := b3 (sp_L_sign p1 p2 σ ω) (fun (x1 : Int32) (σ2 : St) (ω3 : (Nat → Int64)) => b2 (sp_X10_sign p1 p2 μ) (fun (x4 : Int32) (μ5 : St) => b1 (sp_X10_thrown μ5) (fun (x6 : Int32) => if x6 = x1 then (if x1 = 0 then (if x4 = 0 then (if (lg_cmp (ω3 (0 : Int32).toNatClampNeg) (0 : Int64)) = 0 then (some (σ2, τ, ν, δ, π, ω3, μ5)) else (none)) else (if (lg_cmp (ω3 (0 : Int32).toNatClampNeg) (1 : Int64)) = 0 then (some (σ2, τ, ν, δ, π, ω3, μ5)) else (none))) else (some (σ2, τ, ν, δ, π, ω3, μ5))) else (none))))
set_option maxHeartbeats 4000000 in
set_option maxRecDepth 100000 in
theorem law_21 {l : Launch} (hl : l.stackTraces = false) {γ : Gd} {h g : Nat → Nat} {as9 an aq : Nat} {ad ap : Nat → Nat} {au : Nat} {am : Nat → Nat} {r : va_W} {σ : St} {τ : St} {ν : (Nat → Int32)} {δ : St} {π : (St × Int64)} {ω : (Nat → Int64)} {μ : St} {X : CX} {M : MX} {y : MethodName} {tb : List ExceptionTableEntry} {b n : Nat} {xs : Nat → Int32} {i p1 p2 : Int32} {cs ss : Nat} (K : KX l γ X M y cL_law RL 7 rmL (some .boolean) tb) (hX : va_X b n xs (ks X) (ks X).heap) (hbl : b < (ks X).heap.size) (hbA : ¬ Ax X M b) (h1 : ¬ (i + (1 : Int32) < 0 ∨ n ≤ (i + (1 : Int32)).toNatClampNeg)) (e1 : xs (i + (1 : Int32)).toNatClampNeg = p1) (h2 : ¬ (i + (2 : Int32) < 0 ∨ n ≤ (i + (2 : Int32)).toNatClampNeg)) (e2 : xs (i + (2 : Int32)).toNatClampNeg = p2) (hcs : cs + 1 ≤ 1124) (hss : ss + 6 ≤ 9915) {z9 : S7} (hR : some z9 = st_21 p1 p2 σ τ ν δ π ω μ)
    (kk : V l γ X M (wB γ h z9.1 ++ (wB γ g z9.2.1 ++ (wS as9 (h 0) (g 0) an aq (ad 0) (ap 0) ++ (wN an (h 0) z9.2.2.1 ++ (wR aq (h 0) ++ (wD γ ad z9.2.2.2.1 ++ (wP γ ap z9.2.2.2.2.1 ++ (wO γ au z9.2.2.2.2.2.1 ++ (wM γ am z9.2.2.2.2.2.2 ++ (r)))))))))) [some (.ref b), some (.ref as9), some (.ref (am 0)), some (.ref au), some (.int i), none, none] (cs + 1) (ss + 6) 2278 []) : V l γ X M (wB γ h σ ++ (wB γ g τ ++ (wS as9 (h 0) (g 0) an aq (ad 0) (ap 0) ++ (wN an (h 0) ν ++ (wR aq (h 0) ++ (wD γ ad δ ++ (wP γ ap π ++ (wO γ au ω ++ (wM γ am μ ++ (r)))))))))) [some (.ref b), some (.ref as9), some (.ref (am 0)), some (.ref au), some (.int i), none, none] cs ss 1627 [] := by
  unfold st_21 at hR
  refine r_aload_n 1627 1 K (dk_of tL_law_9 81 rfl) rfl rfl ?_
  refine r_aload_n 1628 0 K (dk_of tL_law_9 82 rfl) rfl rfl ?_
  refine r_iload 1629 4 K (dk_of tL_law_9 83 rfl) rfl ?_
  refine r_iconst 1631 (1 : Int32) K (dk_of tL_law_9 84 rfl) (by decide) ?_
  refine r_iadd 1632 K (dk_of tL_law_9 85 rfl) ?_
  refine r_sldN 1633 K hX hbl hbA h1 e1 (dk_of tL_law_9 86 rfl) ?_
  refine r_aload_n 1634 0 K (dk_of tL_law_9 87 rfl) rfl rfl ?_
  refine r_iload 1635 4 K (dk_of tL_law_9 88 rfl) rfl ?_
  refine r_iconst 1637 (2 : Int32) K (dk_of tL_law_9 89 rfl) (by decide) ?_
  refine r_iadd 1638 K (dk_of tL_law_9 90 rfl) ?_
  refine r_sldN 1639 K hX hbl hbA h2 e2 (dk_of tL_law_9 91 rfl) ?_
  refine r_aload_n 1640 3 K (dk_of tL_law_9 92 rfl) rfl rfl ?_
  obtain ⟨x1, σ2, ω3, hc, hR⟩ := o3 hR
  refine r_cSh (mc := 1) (ms := 6) (n := 4) 1641 [.ref as9, .int p1, .int p2, .ref au] [] x1 (wB γ h σ2 ++ (wB γ g τ ++ (wS as9 (h 0) (g 0) an aq (ad 0) (ap 0) ++ (wN an (h 0) ν ++ (wR aq (h 0) ++ (wD γ ad δ ++ (wP γ ap π ++ (wO γ au ω3 ++ (wM γ am μ ++ (r)))))))))) K (ct_L_sign hl hc.symm) w819 w820 w0 cwx_sign (by decide +kernel) ⟨rfl, rfl, rfl⟩ (dk_of tL_law_9 93 rfl) rfl rfl rfl ⟨hcs, hss⟩ ?_
  refine r_istore 1644 5 [some (.ref b), some (.ref as9), some (.ref (am 0)), some (.ref au), some (.int i), some (.int x1), none] K (dk_of tL_law_9 94 rfl) rfl rfl (by decide) ?_
  refine r_aload_n 1646 2 K (dk_of tL_law_9 95 rfl) rfl rfl ?_
  refine r_aload_n 1647 0 K (dk_of tL_law_9 96 rfl) rfl rfl ?_
  refine r_iload 1648 4 K (dk_of tL_law_9 97 rfl) rfl ?_
  refine r_iconst 1650 (1 : Int32) K (dk_of tL_law_9 98 rfl) (by decide) ?_
  refine r_iadd 1651 K (dk_of tL_law_9 99 rfl) ?_
  refine r_sldN 1652 K hX hbl hbA h1 e1 (dk_of tL_law_10 0 rfl) ?_
  refine r_aload_n 1653 0 K (dk_of tL_law_10 1 rfl) rfl rfl ?_
  refine r_iload 1654 4 K (dk_of tL_law_10 2 rfl) rfl ?_
  refine r_iconst 1656 (2 : Int32) K (dk_of tL_law_10 3 rfl) (by decide) ?_
  refine r_iadd 1657 K (dk_of tL_law_10 4 rfl) ?_
  refine r_sldN 1658 K hX hbl hbA h2 e2 (dk_of tL_law_10 5 rfl) ?_
  obtain ⟨x4, μ5, hc, hR⟩ := o2 hR
  refine r_perm (wM γ am μ ++ (wB γ h σ2 ++ (wB γ g τ ++ (wS as9 (h 0) (g 0) an aq (ad 0) (ap 0) ++ (wN an (h 0) ν ++ (wR aq (h 0) ++ (wD γ ad δ ++ (wP γ ap π ++ (wO γ au ω3 ++ (r)))))))))) (permF _ _ _ _ _ _ _ _ _ _) 1659 ?_
  refine r_cVi 1659 0 [.int p1, .int p2] [] x4 (wM γ am μ5 ++ (wB γ h σ2 ++ (wB γ g τ ++ (wS as9 (h 0) (g 0) an aq (ad 0) (ap 0) ++ (wN an (h 0) ν ++ (wR aq (h 0) ++ (wD γ ad δ ++ (wP γ ap π ++ (wO γ au ω3 ++ (r)))))))))) K (ct_X10_sign hl hc.symm) cs_L_193 ⟨rfl, rfl, rfl⟩ (dk_of tL_law_10 6 rfl) rfl rfl rfl rfl rfl (bb_ hcs hss) ?_
  refine r_perm (wB γ h σ2 ++ (wB γ g τ ++ (wS as9 (h 0) (g 0) an aq (ad 0) (ap 0) ++ (wN an (h 0) ν ++ (wR aq (h 0) ++ (wD γ ad δ ++ (wP γ ap π ++ (wO γ au ω3 ++ (wM γ am μ5 ++ (r)))))))))) (permB _ _ _ _ _ _ _ _ _ _) 1662 ?_
  refine r_istore 1662 6 [some (.ref b), some (.ref as9), some (.ref (am 0)), some (.ref au), some (.int i), some (.int x1), some (.int x4)] K (dk_of tL_law_10 7 rfl) rfl rfl (by decide) ?_
  refine r_aload_n 1664 2 K (dk_of tL_law_10 8 rfl) rfl rfl ?_
  obtain ⟨x6, hc, hR⟩ := o1 hR
  refine r_perm (wM γ am μ5 ++ (wB γ h σ2 ++ (wB γ g τ ++ (wS as9 (h 0) (g 0) an aq (ad 0) (ap 0) ++ (wN an (h 0) ν ++ (wR aq (h 0) ++ (wD γ ad δ ++ (wP γ ap π ++ (wO γ au ω3 ++ (r)))))))))) (permF _ _ _ _ _ _ _ _ _ _) 1665 ?_
  refine r_cVi 1665 0 [] [] x6 (wM γ am μ5 ++ (wB γ h σ2 ++ (wB γ g τ ++ (wS as9 (h 0) (g 0) an aq (ad 0) (ap 0) ++ (wN an (h 0) ν ++ (wR aq (h 0) ++ (wD γ ad δ ++ (wP γ ap π ++ (wO γ au ω3 ++ (r)))))))))) K (ct_X10_thrown hl hc.symm) cs_L_124 ⟨rfl, rfl, rfl⟩ (dk_of tL_law_10 9 rfl) rfl rfl rfl rfl rfl (bb_ hcs hss) ?_
  refine r_perm (wB γ h σ2 ++ (wB γ g τ ++ (wS as9 (h 0) (g 0) an aq (ad 0) (ap 0) ++ (wN an (h 0) ν ++ (wR aq (h 0) ++ (wD γ ad δ ++ (wP γ ap π ++ (wO γ au ω3 ++ (wM γ am μ5 ++ (r)))))))))) (permB _ _ _ _ _ _ _ _ _ _) 1668 ?_
  refine r_iload 1668 5 K (dk_of tL_law_10 10 rfl) rfl ?_
  refine r_ic_eq 1670 1675 K (dk_of tL_law_10 11 rfl) (by decide) hR (fun hR => ?_) (fun hR => ?_)
  · refine r_iload 1675 5 K (dk_of tL_law_10 14 rfl) rfl ?_
    refine r_if_ne 1677 1699 K (dk_of tL_law_10 15 rfl) (by decide) hR (fun hR => ?_) (fun hR => ?_)
    · refine r_aload_n 1680 3 K (dk_of tL_law_10 16 rfl) rfl rfl ?_
      refine r_iconst 1681 (0 : Int32) K (dk_of tL_law_10 17 rfl) (by decide) ?_
      refine r_lald 1682 60 K (dk_of tL_law_10 18 rfl) rfl (vpd (by decide)) ?_
      refine r_iload 1683 6 K (dk_of tL_law_10 19 rfl) rfl ?_
      refine r_if_eq 1685 1692 K (dk_of tL_law_10 20 rfl) (by decide) hR (fun hR => ?_) (fun hR => ?_)
      · refine r_lconst 1692 0 K (dk_of tL_law_10 23 rfl) (by decide) ?_
        refine r_lcmp 1693 K (dk_of tL_law_10 24 rfl) ?_
        refine r_if_eq 1694 1699 K (dk_of tL_law_10 25 rfl) (by decide) hR (fun hR => ?_) (fun hR => ?_)
        · refine r_goto 1699 2278 K (dk_of tL_law_10 28 rfl) (by decide) ?_
          cases hR
          exact r_msk [true, true, true, true, true, false, false] [some (.ref b), some (.ref as9), some (.ref (am 0)), some (.ref au), some (.int i), none, none] rfl kk
        · exact nn_ hR
      · refine r_lconst 1688 1 K (dk_of tL_law_10 21 rfl) (by decide) ?_
        refine r_goto 1689 1693 K (dk_of tL_law_10 22 rfl) (by decide) ?_
        refine r_lcmp 1693 K (dk_of tL_law_10 24 rfl) ?_
        refine r_if_eq 1694 1699 K (dk_of tL_law_10 25 rfl) (by decide) hR (fun hR => ?_) (fun hR => ?_)
        · refine r_goto 1699 2278 K (dk_of tL_law_10 28 rfl) (by decide) ?_
          cases hR
          exact r_msk [true, true, true, true, true, false, false] [some (.ref b), some (.ref as9), some (.ref (am 0)), some (.ref au), some (.int i), none, none] rfl kk
        · exact nn_ hR
    · refine r_goto 1699 2278 K (dk_of tL_law_10 28 rfl) (by decide) ?_
      cases hR
      exact r_msk [true, true, true, true, true, false, false] [some (.ref b), some (.ref as9), some (.ref (am 0)), some (.ref au), some (.int i), none, none] rfl kk
  · exact nn_ hR

def st_22 (p1 : Int32) (p2 : Int32) (σ : St) (τ : St) (ν : (Nat → Int32)) (δ : St) (π : (St × Int64)) (ω : (Nat → Int64)) (μ : St) : Option S7 := b3 (sp_L_site p1 p2 δ ω) (fun (x1 : Int32) (δ2 : St) (ω3 : (Nat → Int64)) => b2 (sp_X10_site p1 p2 μ) (fun (x4 : Int32) (μ5 : St) => b1 (sp_X10_thrown μ5) (fun (x6 : Int32) => if x6 = x1 then (if x1 = 0 then (if (lg_cmp (ω3 (0 : Int32).toNatClampNeg) x4.toInt64) = 0 then (some (σ, τ, ν, δ2, π, ω3, μ5)) else (none)) else (some (σ, τ, ν, δ2, π, ω3, μ5))) else (none))))
set_option maxHeartbeats 4000000 in
set_option maxRecDepth 100000 in
theorem law_22 {l : Launch} (hl : l.stackTraces = false) {γ : Gd} {h g : Nat → Nat} {as9 an aq : Nat} {ad ap : Nat → Nat} {au : Nat} {am : Nat → Nat} {r : va_W} {σ : St} {τ : St} {ν : (Nat → Int32)} {δ : St} {π : (St × Int64)} {ω : (Nat → Int64)} {μ : St} {X : CX} {M : MX} {y : MethodName} {tb : List ExceptionTableEntry} {b n : Nat} {xs : Nat → Int32} {i p1 p2 : Int32} {cs ss : Nat} (K : KX l γ X M y cL_law RL 7 rmL (some .boolean) tb) (hX : va_X b n xs (ks X) (ks X).heap) (hbl : b < (ks X).heap.size) (hbA : ¬ Ax X M b) (h1 : ¬ (i + (1 : Int32) < 0 ∨ n ≤ (i + (1 : Int32)).toNatClampNeg)) (e1 : xs (i + (1 : Int32)).toNatClampNeg = p1) (h2 : ¬ (i + (2 : Int32) < 0 ∨ n ≤ (i + (2 : Int32)).toNatClampNeg)) (e2 : xs (i + (2 : Int32)).toNatClampNeg = p2) (hcs : cs + 1 ≤ 1124) (hss : ss + 6 ≤ 9915) {z9 : S7} (hR : some z9 = st_22 p1 p2 σ τ ν δ π ω μ)
    (kk : V l γ X M (wB γ h z9.1 ++ (wB γ g z9.2.1 ++ (wS as9 (h 0) (g 0) an aq (ad 0) (ap 0) ++ (wN an (h 0) z9.2.2.1 ++ (wR aq (h 0) ++ (wD γ ad z9.2.2.2.1 ++ (wP γ ap z9.2.2.2.2.1 ++ (wO γ au z9.2.2.2.2.2.1 ++ (wM γ am z9.2.2.2.2.2.2 ++ (r)))))))))) [some (.ref b), some (.ref as9), some (.ref (am 0)), some (.ref au), some (.int i), none, none] (cs + 1) (ss + 6) 2278 []) : V l γ X M (wB γ h σ ++ (wB γ g τ ++ (wS as9 (h 0) (g 0) an aq (ad 0) (ap 0) ++ (wN an (h 0) ν ++ (wR aq (h 0) ++ (wD γ ad δ ++ (wP γ ap π ++ (wO γ au ω ++ (wM γ am μ ++ (r)))))))))) [some (.ref b), some (.ref as9), some (.ref (am 0)), some (.ref au), some (.int i), none, none] cs ss 1702 [] := by
  unfold st_22 at hR
  refine r_aload_n 1702 1 K (dk_of tL_law_10 29 rfl) rfl rfl ?_
  refine r_aload_n 1703 0 K (dk_of tL_law_10 30 rfl) rfl rfl ?_
  refine r_iload 1704 4 K (dk_of tL_law_10 31 rfl) rfl ?_
  refine r_iconst 1706 (1 : Int32) K (dk_of tL_law_10 32 rfl) (by decide) ?_
  refine r_iadd 1707 K (dk_of tL_law_10 33 rfl) ?_
  refine r_sldN 1708 K hX hbl hbA h1 e1 (dk_of tL_law_10 34 rfl) ?_
  refine r_aload_n 1709 0 K (dk_of tL_law_10 35 rfl) rfl rfl ?_
  refine r_iload 1710 4 K (dk_of tL_law_10 36 rfl) rfl ?_
  refine r_iconst 1712 (2 : Int32) K (dk_of tL_law_10 37 rfl) (by decide) ?_
  refine r_iadd 1713 K (dk_of tL_law_10 38 rfl) ?_
  refine r_sldN 1714 K hX hbl hbA h2 e2 (dk_of tL_law_10 39 rfl) ?_
  refine r_aload_n 1715 3 K (dk_of tL_law_10 40 rfl) rfl rfl ?_
  obtain ⟨x1, δ2, ω3, hc, hR⟩ := o3 hR
  refine r_cSh (mc := 1) (ms := 6) (n := 4) 1716 [.ref as9, .int p1, .int p2, .ref au] [] x1 (wB γ h σ ++ (wB γ g τ ++ (wS as9 (h 0) (g 0) an aq (ad 0) (ap 0) ++ (wN an (h 0) ν ++ (wR aq (h 0) ++ (wD γ ad δ2 ++ (wP γ ap π ++ (wO γ au ω3 ++ (wM γ am μ ++ (r)))))))))) K (ct_L_site hl hc.symm) w829 w830 w0 cwx_site (by decide +kernel) ⟨rfl, rfl, rfl⟩ (dk_of tL_law_10 41 rfl) rfl rfl rfl ⟨hcs, hss⟩ ?_
  refine r_istore 1719 5 [some (.ref b), some (.ref as9), some (.ref (am 0)), some (.ref au), some (.int i), some (.int x1), none] K (dk_of tL_law_10 42 rfl) rfl rfl (by decide) ?_
  refine r_aload_n 1721 2 K (dk_of tL_law_10 43 rfl) rfl rfl ?_
  refine r_aload_n 1722 0 K (dk_of tL_law_10 44 rfl) rfl rfl ?_
  refine r_iload 1723 4 K (dk_of tL_law_10 45 rfl) rfl ?_
  refine r_iconst 1725 (1 : Int32) K (dk_of tL_law_10 46 rfl) (by decide) ?_
  refine r_iadd 1726 K (dk_of tL_law_10 47 rfl) ?_
  refine r_sldN 1727 K hX hbl hbA h1 e1 (dk_of tL_law_10 48 rfl) ?_
  refine r_aload_n 1728 0 K (dk_of tL_law_10 49 rfl) rfl rfl ?_
  refine r_iload 1729 4 K (dk_of tL_law_10 50 rfl) rfl ?_
  refine r_iconst 1731 (2 : Int32) K (dk_of tL_law_10 51 rfl) (by decide) ?_
  refine r_iadd 1732 K (dk_of tL_law_10 52 rfl) ?_
  refine r_sldN 1733 K hX hbl hbA h2 e2 (dk_of tL_law_10 53 rfl) ?_
  obtain ⟨x4, μ5, hc, hR⟩ := o2 hR
  refine r_perm (wM γ am μ ++ (wB γ h σ ++ (wB γ g τ ++ (wS as9 (h 0) (g 0) an aq (ad 0) (ap 0) ++ (wN an (h 0) ν ++ (wR aq (h 0) ++ (wD γ ad δ2 ++ (wP γ ap π ++ (wO γ au ω3 ++ (r)))))))))) (permF _ _ _ _ _ _ _ _ _ _) 1734 ?_
  refine r_cVi 1734 0 [.int p1, .int p2] [] x4 (wM γ am μ5 ++ (wB γ h σ ++ (wB γ g τ ++ (wS as9 (h 0) (g 0) an aq (ad 0) (ap 0) ++ (wN an (h 0) ν ++ (wR aq (h 0) ++ (wD γ ad δ2 ++ (wP γ ap π ++ (wO γ au ω3 ++ (r)))))))))) K (ct_X10_site hl hc.symm) cs_L_196 ⟨rfl, rfl, rfl⟩ (dk_of tL_law_10 54 rfl) rfl rfl rfl rfl rfl (bb_ hcs hss) ?_
  refine r_perm (wB γ h σ ++ (wB γ g τ ++ (wS as9 (h 0) (g 0) an aq (ad 0) (ap 0) ++ (wN an (h 0) ν ++ (wR aq (h 0) ++ (wD γ ad δ2 ++ (wP γ ap π ++ (wO γ au ω3 ++ (wM γ am μ5 ++ (r)))))))))) (permB _ _ _ _ _ _ _ _ _ _) 1737 ?_
  refine r_istore 1737 6 [some (.ref b), some (.ref as9), some (.ref (am 0)), some (.ref au), some (.int i), some (.int x1), some (.int x4)] K (dk_of tL_law_10 55 rfl) rfl rfl (by decide) ?_
  refine r_aload_n 1739 2 K (dk_of tL_law_10 56 rfl) rfl rfl ?_
  obtain ⟨x6, hc, hR⟩ := o1 hR
  refine r_perm (wM γ am μ5 ++ (wB γ h σ ++ (wB γ g τ ++ (wS as9 (h 0) (g 0) an aq (ad 0) (ap 0) ++ (wN an (h 0) ν ++ (wR aq (h 0) ++ (wD γ ad δ2 ++ (wP γ ap π ++ (wO γ au ω3 ++ (r)))))))))) (permF _ _ _ _ _ _ _ _ _ _) 1740 ?_
  refine r_cVi 1740 0 [] [] x6 (wM γ am μ5 ++ (wB γ h σ ++ (wB γ g τ ++ (wS as9 (h 0) (g 0) an aq (ad 0) (ap 0) ++ (wN an (h 0) ν ++ (wR aq (h 0) ++ (wD γ ad δ2 ++ (wP γ ap π ++ (wO γ au ω3 ++ (r)))))))))) K (ct_X10_thrown hl hc.symm) cs_L_124 ⟨rfl, rfl, rfl⟩ (dk_of tL_law_10 57 rfl) rfl rfl rfl rfl rfl (bb_ hcs hss) ?_
  refine r_perm (wB γ h σ ++ (wB γ g τ ++ (wS as9 (h 0) (g 0) an aq (ad 0) (ap 0) ++ (wN an (h 0) ν ++ (wR aq (h 0) ++ (wD γ ad δ2 ++ (wP γ ap π ++ (wO γ au ω3 ++ (wM γ am μ5 ++ (r)))))))))) (permB _ _ _ _ _ _ _ _ _ _) 1743 ?_
  refine r_iload 1743 5 K (dk_of tL_law_10 58 rfl) rfl ?_
  refine r_ic_eq 1745 1750 K (dk_of tL_law_10 59 rfl) (by decide) hR (fun hR => ?_) (fun hR => ?_)
  · refine r_iload 1750 5 K (dk_of tL_law_10 62 rfl) rfl ?_
    refine r_if_ne 1752 1767 K (dk_of tL_law_10 63 rfl) (by decide) hR (fun hR => ?_) (fun hR => ?_)
    · refine r_aload_n 1755 3 K (dk_of tL_law_10 64 rfl) rfl rfl ?_
      refine r_iconst 1756 (0 : Int32) K (dk_of tL_law_10 65 rfl) (by decide) ?_
      refine r_lald 1757 60 K (dk_of tL_law_10 66 rfl) rfl (vpd (by decide)) ?_
      refine r_iload 1758 6 K (dk_of tL_law_10 67 rfl) rfl ?_
      refine r_i2l 1760 K (dk_of tL_law_10 68 rfl) ?_
      refine r_lcmp 1761 K (dk_of tL_law_10 69 rfl) ?_
      refine r_if_eq 1762 1767 K (dk_of tL_law_10 70 rfl) (by decide) hR (fun hR => ?_) (fun hR => ?_)
      · refine r_goto 1767 2278 K (dk_of tL_law_10 73 rfl) (by decide) ?_
        cases hR
        exact r_msk [true, true, true, true, true, false, false] [some (.ref b), some (.ref as9), some (.ref (am 0)), some (.ref au), some (.int i), none, none] rfl kk
      · exact nn_ hR
    · refine r_goto 1767 2278 K (dk_of tL_law_10 73 rfl) (by decide) ?_
      cases hR
      exact r_msk [true, true, true, true, true, false, false] [some (.ref b), some (.ref as9), some (.ref (am 0)), some (.ref au), some (.int i), none, none] rfl kk
  · exact nn_ hR

def st_23 (p1 : Int32) (p2 : Int32) (p3 : Int32) (σ : St) (τ : St) (ν : (Nat → Int32)) (δ : St) (π : (St × Int64)) (ω : (Nat → Int64)) (μ : St) : Option S7 := b3 (sp_L_deliver p1 p2 p3 δ ω) (fun (x1 : Int32) (δ2 : St) (ω3 : (Nat → Int64)) => b2 (sp_X10_deliver p1 p2 p3 μ) (fun (x4 : Int32) (μ5 : St) => b1 (sp_X10_thrown μ5) (fun (x6 : Int32) => if x6 = x1 then (if x1 = 0 then (if (lg_cmp (ω3 (0 : Int32).toNatClampNeg) x4.toInt64) = 0 then (some (σ, τ, ν, δ2, π, ω3, μ5)) else (none)) else (some (σ, τ, ν, δ2, π, ω3, μ5))) else (none))))
set_option maxHeartbeats 4000000 in
set_option maxRecDepth 100000 in
theorem law_23 {l : Launch} (hl : l.stackTraces = false) {γ : Gd} {h g : Nat → Nat} {as9 an aq : Nat} {ad ap : Nat → Nat} {au : Nat} {am : Nat → Nat} {r : va_W} {σ : St} {τ : St} {ν : (Nat → Int32)} {δ : St} {π : (St × Int64)} {ω : (Nat → Int64)} {μ : St} {X : CX} {M : MX} {y : MethodName} {tb : List ExceptionTableEntry} {b n : Nat} {xs : Nat → Int32} {i p1 p2 p3 : Int32} {cs ss : Nat} (K : KX l γ X M y cL_law RL 7 rmL (some .boolean) tb) (hX : va_X b n xs (ks X) (ks X).heap) (hbl : b < (ks X).heap.size) (hbA : ¬ Ax X M b) (h1 : ¬ (i + (1 : Int32) < 0 ∨ n ≤ (i + (1 : Int32)).toNatClampNeg)) (e1 : xs (i + (1 : Int32)).toNatClampNeg = p1) (h2 : ¬ (i + (2 : Int32) < 0 ∨ n ≤ (i + (2 : Int32)).toNatClampNeg)) (e2 : xs (i + (2 : Int32)).toNatClampNeg = p2) (h3 : ¬ (i + (3 : Int32) < 0 ∨ n ≤ (i + (3 : Int32)).toNatClampNeg)) (e3 : xs (i + (3 : Int32)).toNatClampNeg = p3) (hcs : cs + 1 ≤ 1124) (hss : ss + 6 ≤ 9915) {z9 : S7} (hR : some z9 = st_23 p1 p2 p3 σ τ ν δ π ω μ)
    (kk : V l γ X M (wB γ h z9.1 ++ (wB γ g z9.2.1 ++ (wS as9 (h 0) (g 0) an aq (ad 0) (ap 0) ++ (wN an (h 0) z9.2.2.1 ++ (wR aq (h 0) ++ (wD γ ad z9.2.2.2.1 ++ (wP γ ap z9.2.2.2.2.1 ++ (wO γ au z9.2.2.2.2.2.1 ++ (wM γ am z9.2.2.2.2.2.2 ++ (r)))))))))) [some (.ref b), some (.ref as9), some (.ref (am 0)), some (.ref au), some (.int i), none, none] (cs + 1) (ss + 6) 2278 []) : V l γ X M (wB γ h σ ++ (wB γ g τ ++ (wS as9 (h 0) (g 0) an aq (ad 0) (ap 0) ++ (wN an (h 0) ν ++ (wR aq (h 0) ++ (wD γ ad δ ++ (wP γ ap π ++ (wO γ au ω ++ (wM γ am μ ++ (r)))))))))) [some (.ref b), some (.ref as9), some (.ref (am 0)), some (.ref au), some (.int i), none, none] cs ss 1770 [] := by
  unfold st_23 at hR
  refine r_aload_n 1770 1 K (dk_of tL_law_10 74 rfl) rfl rfl ?_
  refine r_aload_n 1771 0 K (dk_of tL_law_10 75 rfl) rfl rfl ?_
  refine r_iload 1772 4 K (dk_of tL_law_10 76 rfl) rfl ?_
  refine r_iconst 1774 (1 : Int32) K (dk_of tL_law_10 77 rfl) (by decide) ?_
  refine r_iadd 1775 K (dk_of tL_law_10 78 rfl) ?_
  refine r_sldN 1776 K hX hbl hbA h1 e1 (dk_of tL_law_10 79 rfl) ?_
  refine r_aload_n 1777 0 K (dk_of tL_law_10 80 rfl) rfl rfl ?_
  refine r_iload 1778 4 K (dk_of tL_law_10 81 rfl) rfl ?_
  refine r_iconst 1780 (2 : Int32) K (dk_of tL_law_10 82 rfl) (by decide) ?_
  refine r_iadd 1781 K (dk_of tL_law_10 83 rfl) ?_
  refine r_sldN 1782 K hX hbl hbA h2 e2 (dk_of tL_law_10 84 rfl) ?_
  refine r_aload_n 1783 0 K (dk_of tL_law_10 85 rfl) rfl rfl ?_
  refine r_iload 1784 4 K (dk_of tL_law_10 86 rfl) rfl ?_
  refine r_iconst 1786 (3 : Int32) K (dk_of tL_law_10 87 rfl) (by decide) ?_
  refine r_iadd 1787 K (dk_of tL_law_10 88 rfl) ?_
  refine r_sldN 1788 K hX hbl hbA h3 e3 (dk_of tL_law_10 89 rfl) ?_
  refine r_aload_n 1789 3 K (dk_of tL_law_10 90 rfl) rfl rfl ?_
  obtain ⟨x1, δ2, ω3, hc, hR⟩ := o3 hR
  refine r_cSh (mc := 1) (ms := 6) (n := 5) 1790 [.ref as9, .int p1, .int p2, .int p3, .ref au] [] x1 (wB γ h σ ++ (wB γ g τ ++ (wS as9 (h 0) (g 0) an aq (ad 0) (ap 0) ++ (wN an (h 0) ν ++ (wR aq (h 0) ++ (wD γ ad δ2 ++ (wP γ ap π ++ (wO γ au ω3 ++ (wM γ am μ ++ (r)))))))))) K (ct_L_deliver hl hc.symm) w841 w842 w0 cwx_deliver (by decide +kernel) ⟨rfl, rfl, rfl⟩ (dk_of tL_law_10 91 rfl) rfl rfl rfl ⟨hcs, hss⟩ ?_
  refine r_istore 1793 5 [some (.ref b), some (.ref as9), some (.ref (am 0)), some (.ref au), some (.int i), some (.int x1), none] K (dk_of tL_law_10 92 rfl) rfl rfl (by decide) ?_
  refine r_aload_n 1795 2 K (dk_of tL_law_10 93 rfl) rfl rfl ?_
  refine r_aload_n 1796 0 K (dk_of tL_law_10 94 rfl) rfl rfl ?_
  refine r_iload 1797 4 K (dk_of tL_law_10 95 rfl) rfl ?_
  refine r_iconst 1799 (1 : Int32) K (dk_of tL_law_10 96 rfl) (by decide) ?_
  refine r_iadd 1800 K (dk_of tL_law_10 97 rfl) ?_
  refine r_sldN 1801 K hX hbl hbA h1 e1 (dk_of tL_law_10 98 rfl) ?_
  refine r_aload_n 1802 0 K (dk_of tL_law_10 99 rfl) rfl rfl ?_
  refine r_iload 1803 4 K (dk_of tL_law_11 0 rfl) rfl ?_
  refine r_iconst 1805 (2 : Int32) K (dk_of tL_law_11 1 rfl) (by decide) ?_
  refine r_iadd 1806 K (dk_of tL_law_11 2 rfl) ?_
  refine r_sldN 1807 K hX hbl hbA h2 e2 (dk_of tL_law_11 3 rfl) ?_
  refine r_aload_n 1808 0 K (dk_of tL_law_11 4 rfl) rfl rfl ?_
  refine r_iload 1809 4 K (dk_of tL_law_11 5 rfl) rfl ?_
  refine r_iconst 1811 (3 : Int32) K (dk_of tL_law_11 6 rfl) (by decide) ?_
  refine r_iadd 1812 K (dk_of tL_law_11 7 rfl) ?_
  refine r_sldN 1813 K hX hbl hbA h3 e3 (dk_of tL_law_11 8 rfl) ?_
  obtain ⟨x4, μ5, hc, hR⟩ := o2 hR
  refine r_perm (wM γ am μ ++ (wB γ h σ ++ (wB γ g τ ++ (wS as9 (h 0) (g 0) an aq (ad 0) (ap 0) ++ (wN an (h 0) ν ++ (wR aq (h 0) ++ (wD γ ad δ2 ++ (wP γ ap π ++ (wO γ au ω3 ++ (r)))))))))) (permF _ _ _ _ _ _ _ _ _ _) 1814 ?_
  refine r_cVi 1814 0 [.int p1, .int p2, .int p3] [] x4 (wM γ am μ5 ++ (wB γ h σ ++ (wB γ g τ ++ (wS as9 (h 0) (g 0) an aq (ad 0) (ap 0) ++ (wN an (h 0) ν ++ (wR aq (h 0) ++ (wD γ ad δ2 ++ (wP γ ap π ++ (wO γ au ω3 ++ (r)))))))))) K (ct_X10_deliver hl hc.symm) cs_L_199 ⟨rfl, rfl, rfl⟩ (dk_of tL_law_11 9 rfl) rfl rfl rfl rfl rfl (bb_ hcs hss) ?_
  refine r_perm (wB γ h σ ++ (wB γ g τ ++ (wS as9 (h 0) (g 0) an aq (ad 0) (ap 0) ++ (wN an (h 0) ν ++ (wR aq (h 0) ++ (wD γ ad δ2 ++ (wP γ ap π ++ (wO γ au ω3 ++ (wM γ am μ5 ++ (r)))))))))) (permB _ _ _ _ _ _ _ _ _ _) 1817 ?_
  refine r_istore 1817 6 [some (.ref b), some (.ref as9), some (.ref (am 0)), some (.ref au), some (.int i), some (.int x1), some (.int x4)] K (dk_of tL_law_11 10 rfl) rfl rfl (by decide) ?_
  refine r_aload_n 1819 2 K (dk_of tL_law_11 11 rfl) rfl rfl ?_
  obtain ⟨x6, hc, hR⟩ := o1 hR
  refine r_perm (wM γ am μ5 ++ (wB γ h σ ++ (wB γ g τ ++ (wS as9 (h 0) (g 0) an aq (ad 0) (ap 0) ++ (wN an (h 0) ν ++ (wR aq (h 0) ++ (wD γ ad δ2 ++ (wP γ ap π ++ (wO γ au ω3 ++ (r)))))))))) (permF _ _ _ _ _ _ _ _ _ _) 1820 ?_
  refine r_cVi 1820 0 [] [] x6 (wM γ am μ5 ++ (wB γ h σ ++ (wB γ g τ ++ (wS as9 (h 0) (g 0) an aq (ad 0) (ap 0) ++ (wN an (h 0) ν ++ (wR aq (h 0) ++ (wD γ ad δ2 ++ (wP γ ap π ++ (wO γ au ω3 ++ (r)))))))))) K (ct_X10_thrown hl hc.symm) cs_L_124 ⟨rfl, rfl, rfl⟩ (dk_of tL_law_11 12 rfl) rfl rfl rfl rfl rfl (bb_ hcs hss) ?_
  refine r_perm (wB γ h σ ++ (wB γ g τ ++ (wS as9 (h 0) (g 0) an aq (ad 0) (ap 0) ++ (wN an (h 0) ν ++ (wR aq (h 0) ++ (wD γ ad δ2 ++ (wP γ ap π ++ (wO γ au ω3 ++ (wM γ am μ5 ++ (r)))))))))) (permB _ _ _ _ _ _ _ _ _ _) 1823 ?_
  refine r_iload 1823 5 K (dk_of tL_law_11 13 rfl) rfl ?_
  refine r_ic_eq 1825 1830 K (dk_of tL_law_11 14 rfl) (by decide) hR (fun hR => ?_) (fun hR => ?_)
  · refine r_iload 1830 5 K (dk_of tL_law_11 17 rfl) rfl ?_
    refine r_if_ne 1832 1847 K (dk_of tL_law_11 18 rfl) (by decide) hR (fun hR => ?_) (fun hR => ?_)
    · refine r_aload_n 1835 3 K (dk_of tL_law_11 19 rfl) rfl rfl ?_
      refine r_iconst 1836 (0 : Int32) K (dk_of tL_law_11 20 rfl) (by decide) ?_
      refine r_lald 1837 60 K (dk_of tL_law_11 21 rfl) rfl (vpd (by decide)) ?_
      refine r_iload 1838 6 K (dk_of tL_law_11 22 rfl) rfl ?_
      refine r_i2l 1840 K (dk_of tL_law_11 23 rfl) ?_
      refine r_lcmp 1841 K (dk_of tL_law_11 24 rfl) ?_
      refine r_if_eq 1842 1847 K (dk_of tL_law_11 25 rfl) (by decide) hR (fun hR => ?_) (fun hR => ?_)
      · refine r_goto 1847 2278 K (dk_of tL_law_11 28 rfl) (by decide) ?_
        cases hR
        exact r_msk [true, true, true, true, true, false, false] [some (.ref b), some (.ref as9), some (.ref (am 0)), some (.ref au), some (.int i), none, none] rfl kk
      · exact nn_ hR
    · refine r_goto 1847 2278 K (dk_of tL_law_11 28 rfl) (by decide) ?_
      cases hR
      exact r_msk [true, true, true, true, true, false, false] [some (.ref b), some (.ref as9), some (.ref (am 0)), some (.ref au), some (.int i), none, none] rfl kk
  · exact nn_ hR

def st_24 (p1 : Int32) (σ : St) (τ : St) (ν : (Nat → Int32)) (δ : St) (π : (St × Int64)) (ω : (Nat → Int64)) (μ : St) : Option S7 := b2 (sp_L_waste p1 δ ω) (fun (x1 : Int32) (ω2 : (Nat → Int64)) => b2 (sp_X10_waste p1 μ) (fun (x3 : Int32) (μ4 : St) => b1 (sp_X10_thrown μ4) (fun (x5 : Int32) => if x5 = x1 then (if x1 = 0 then (if (lg_cmp (ω2 (0 : Int32).toNatClampNeg) x3.toInt64) = 0 then (some (σ, τ, ν, δ, π, ω2, μ4)) else (none)) else (some (σ, τ, ν, δ, π, ω2, μ4))) else (none))))
set_option maxHeartbeats 4000000 in
set_option maxRecDepth 100000 in
theorem law_24 {l : Launch} (hl : l.stackTraces = false) {γ : Gd} {h g : Nat → Nat} {as9 an aq : Nat} {ad ap : Nat → Nat} {au : Nat} {am : Nat → Nat} {r : va_W} {σ : St} {τ : St} {ν : (Nat → Int32)} {δ : St} {π : (St × Int64)} {ω : (Nat → Int64)} {μ : St} {X : CX} {M : MX} {y : MethodName} {tb : List ExceptionTableEntry} {b n : Nat} {xs : Nat → Int32} {i p1 : Int32} {cs ss : Nat} (K : KX l γ X M y cL_law RL 7 rmL (some .boolean) tb) (hX : va_X b n xs (ks X) (ks X).heap) (hbl : b < (ks X).heap.size) (hbA : ¬ Ax X M b) (h1 : ¬ (i + (1 : Int32) < 0 ∨ n ≤ (i + (1 : Int32)).toNatClampNeg)) (e1 : xs (i + (1 : Int32)).toNatClampNeg = p1) (hcs : cs + 1 ≤ 1124) (hss : ss + 6 ≤ 9915) {z9 : S7} (hR : some z9 = st_24 p1 σ τ ν δ π ω μ)
    (kk : V l γ X M (wB γ h z9.1 ++ (wB γ g z9.2.1 ++ (wS as9 (h 0) (g 0) an aq (ad 0) (ap 0) ++ (wN an (h 0) z9.2.2.1 ++ (wR aq (h 0) ++ (wD γ ad z9.2.2.2.1 ++ (wP γ ap z9.2.2.2.2.1 ++ (wO γ au z9.2.2.2.2.2.1 ++ (wM γ am z9.2.2.2.2.2.2 ++ (r)))))))))) [some (.ref b), some (.ref as9), some (.ref (am 0)), some (.ref au), some (.int i), none, none] (cs + 1) (ss + 6) 2278 []) : V l γ X M (wB γ h σ ++ (wB γ g τ ++ (wS as9 (h 0) (g 0) an aq (ad 0) (ap 0) ++ (wN an (h 0) ν ++ (wR aq (h 0) ++ (wD γ ad δ ++ (wP γ ap π ++ (wO γ au ω ++ (wM γ am μ ++ (r)))))))))) [some (.ref b), some (.ref as9), some (.ref (am 0)), some (.ref au), some (.int i), none, none] cs ss 1850 [] := by
  unfold st_24 at hR
  refine r_aload_n 1850 1 K (dk_of tL_law_11 29 rfl) rfl rfl ?_
  refine r_aload_n 1851 0 K (dk_of tL_law_11 30 rfl) rfl rfl ?_
  refine r_iload 1852 4 K (dk_of tL_law_11 31 rfl) rfl ?_
  refine r_iconst 1854 (1 : Int32) K (dk_of tL_law_11 32 rfl) (by decide) ?_
  refine r_iadd 1855 K (dk_of tL_law_11 33 rfl) ?_
  refine r_sldN 1856 K hX hbl hbA h1 e1 (dk_of tL_law_11 34 rfl) ?_
  refine r_aload_n 1857 3 K (dk_of tL_law_11 35 rfl) rfl rfl ?_
  obtain ⟨x1, ω2, hc, hR⟩ := o2 hR
  refine r_cSh (mc := 1) (ms := 6) (n := 3) 1858 [.ref as9, .int p1, .ref au] [] x1 (wB γ h σ ++ (wB γ g τ ++ (wS as9 (h 0) (g 0) an aq (ad 0) (ap 0) ++ (wN an (h 0) ν ++ (wR aq (h 0) ++ (wD γ ad δ ++ (wP γ ap π ++ (wO γ au ω2 ++ (wM γ am μ ++ (r)))))))))) K (ct_L_waste hl hc.symm) w857 w858 w0 cwx_waste (by decide +kernel) ⟨rfl, rfl, rfl⟩ (dk_of tL_law_11 36 rfl) rfl rfl rfl ⟨hcs, hss⟩ ?_
  refine r_istore 1861 5 [some (.ref b), some (.ref as9), some (.ref (am 0)), some (.ref au), some (.int i), some (.int x1), none] K (dk_of tL_law_11 37 rfl) rfl rfl (by decide) ?_
  refine r_aload_n 1863 2 K (dk_of tL_law_11 38 rfl) rfl rfl ?_
  refine r_aload_n 1864 0 K (dk_of tL_law_11 39 rfl) rfl rfl ?_
  refine r_iload 1865 4 K (dk_of tL_law_11 40 rfl) rfl ?_
  refine r_iconst 1867 (1 : Int32) K (dk_of tL_law_11 41 rfl) (by decide) ?_
  refine r_iadd 1868 K (dk_of tL_law_11 42 rfl) ?_
  refine r_sldN 1869 K hX hbl hbA h1 e1 (dk_of tL_law_11 43 rfl) ?_
  obtain ⟨x3, μ4, hc, hR⟩ := o2 hR
  refine r_perm (wM γ am μ ++ (wB γ h σ ++ (wB γ g τ ++ (wS as9 (h 0) (g 0) an aq (ad 0) (ap 0) ++ (wN an (h 0) ν ++ (wR aq (h 0) ++ (wD γ ad δ ++ (wP γ ap π ++ (wO γ au ω2 ++ (r)))))))))) (permF _ _ _ _ _ _ _ _ _ _) 1870 ?_
  refine r_cVi 1870 0 [.int p1] [] x3 (wM γ am μ4 ++ (wB γ h σ ++ (wB γ g τ ++ (wS as9 (h 0) (g 0) an aq (ad 0) (ap 0) ++ (wN an (h 0) ν ++ (wR aq (h 0) ++ (wD γ ad δ ++ (wP γ ap π ++ (wO γ au ω2 ++ (r)))))))))) K (ct_X10_waste hl hc.symm) cs_L_202 ⟨rfl, rfl, rfl⟩ (dk_of tL_law_11 44 rfl) rfl rfl rfl rfl rfl (bb_ hcs hss) ?_
  refine r_perm (wB γ h σ ++ (wB γ g τ ++ (wS as9 (h 0) (g 0) an aq (ad 0) (ap 0) ++ (wN an (h 0) ν ++ (wR aq (h 0) ++ (wD γ ad δ ++ (wP γ ap π ++ (wO γ au ω2 ++ (wM γ am μ4 ++ (r)))))))))) (permB _ _ _ _ _ _ _ _ _ _) 1873 ?_
  refine r_istore 1873 6 [some (.ref b), some (.ref as9), some (.ref (am 0)), some (.ref au), some (.int i), some (.int x1), some (.int x3)] K (dk_of tL_law_11 45 rfl) rfl rfl (by decide) ?_
  refine r_aload_n 1875 2 K (dk_of tL_law_11 46 rfl) rfl rfl ?_
  obtain ⟨x5, hc, hR⟩ := o1 hR
  refine r_perm (wM γ am μ4 ++ (wB γ h σ ++ (wB γ g τ ++ (wS as9 (h 0) (g 0) an aq (ad 0) (ap 0) ++ (wN an (h 0) ν ++ (wR aq (h 0) ++ (wD γ ad δ ++ (wP γ ap π ++ (wO γ au ω2 ++ (r)))))))))) (permF _ _ _ _ _ _ _ _ _ _) 1876 ?_
  refine r_cVi 1876 0 [] [] x5 (wM γ am μ4 ++ (wB γ h σ ++ (wB γ g τ ++ (wS as9 (h 0) (g 0) an aq (ad 0) (ap 0) ++ (wN an (h 0) ν ++ (wR aq (h 0) ++ (wD γ ad δ ++ (wP γ ap π ++ (wO γ au ω2 ++ (r)))))))))) K (ct_X10_thrown hl hc.symm) cs_L_124 ⟨rfl, rfl, rfl⟩ (dk_of tL_law_11 47 rfl) rfl rfl rfl rfl rfl (bb_ hcs hss) ?_
  refine r_perm (wB γ h σ ++ (wB γ g τ ++ (wS as9 (h 0) (g 0) an aq (ad 0) (ap 0) ++ (wN an (h 0) ν ++ (wR aq (h 0) ++ (wD γ ad δ ++ (wP γ ap π ++ (wO γ au ω2 ++ (wM γ am μ4 ++ (r)))))))))) (permB _ _ _ _ _ _ _ _ _ _) 1879 ?_
  refine r_iload 1879 5 K (dk_of tL_law_11 48 rfl) rfl ?_
  refine r_ic_eq 1881 1886 K (dk_of tL_law_11 49 rfl) (by decide) hR (fun hR => ?_) (fun hR => ?_)
  · refine r_iload 1886 5 K (dk_of tL_law_11 52 rfl) rfl ?_
    refine r_if_ne 1888 1903 K (dk_of tL_law_11 53 rfl) (by decide) hR (fun hR => ?_) (fun hR => ?_)
    · refine r_aload_n 1891 3 K (dk_of tL_law_11 54 rfl) rfl rfl ?_
      refine r_iconst 1892 (0 : Int32) K (dk_of tL_law_11 55 rfl) (by decide) ?_
      refine r_lald 1893 60 K (dk_of tL_law_11 56 rfl) rfl (vpd (by decide)) ?_
      refine r_iload 1894 6 K (dk_of tL_law_11 57 rfl) rfl ?_
      refine r_i2l 1896 K (dk_of tL_law_11 58 rfl) ?_
      refine r_lcmp 1897 K (dk_of tL_law_11 59 rfl) ?_
      refine r_if_eq 1898 1903 K (dk_of tL_law_11 60 rfl) (by decide) hR (fun hR => ?_) (fun hR => ?_)
      · refine r_goto 1903 2278 K (dk_of tL_law_11 63 rfl) (by decide) ?_
        cases hR
        exact r_msk [true, true, true, true, true, false, false] [some (.ref b), some (.ref as9), some (.ref (am 0)), some (.ref au), some (.int i), none, none] rfl kk
      · exact nn_ hR
    · refine r_goto 1903 2278 K (dk_of tL_law_11 63 rfl) (by decide) ?_
      cases hR
      exact r_msk [true, true, true, true, true, false, false] [some (.ref b), some (.ref as9), some (.ref (am 0)), some (.ref au), some (.int i), none, none] rfl kk
  · exact nn_ hR

def st_25 (p1 : Int32) (σ : St) (τ : St) (ν : (Nat → Int32)) (δ : St) (π : (St × Int64)) (ω : (Nat → Int64)) (μ : St) : Option S7 := b3 (sp_L_claim p1 π ω) (fun (x1 : Int32) (π2 : (St × Int64)) (ω3 : (Nat → Int64)) => b2 (sp_X10_claim p1 μ) (fun (x4 : Int32) (μ5 : St) => b1 (sp_X10_thrown μ5) (fun (x6 : Int32) => if x6 = x1 then (if x1 = 0 then (if (lg_cmp (ω3 (0 : Int32).toNatClampNeg) x4.toInt64) = 0 then (some (σ, τ, ν, δ, π2, ω3, μ5)) else (none)) else (some (σ, τ, ν, δ, π2, ω3, μ5))) else (none))))
set_option maxHeartbeats 4000000 in
set_option maxRecDepth 100000 in
theorem law_25 {l : Launch} (hl : l.stackTraces = false) {γ : Gd} {h g : Nat → Nat} {as9 an aq : Nat} {ad ap : Nat → Nat} {au : Nat} {am : Nat → Nat} {r : va_W} {σ : St} {τ : St} {ν : (Nat → Int32)} {δ : St} {π : (St × Int64)} {ω : (Nat → Int64)} {μ : St} {X : CX} {M : MX} {y : MethodName} {tb : List ExceptionTableEntry} {b n : Nat} {xs : Nat → Int32} {i p1 : Int32} {cs ss : Nat} (K : KX l γ X M y cL_law RL 7 rmL (some .boolean) tb) (hX : va_X b n xs (ks X) (ks X).heap) (hbl : b < (ks X).heap.size) (hbA : ¬ Ax X M b) (h1 : ¬ (i + (1 : Int32) < 0 ∨ n ≤ (i + (1 : Int32)).toNatClampNeg)) (e1 : xs (i + (1 : Int32)).toNatClampNeg = p1) (hcs : cs + 1 ≤ 1124) (hss : ss + 6 ≤ 9915) {z9 : S7} (hR : some z9 = st_25 p1 σ τ ν δ π ω μ)
    (kk : V l γ X M (wB γ h z9.1 ++ (wB γ g z9.2.1 ++ (wS as9 (h 0) (g 0) an aq (ad 0) (ap 0) ++ (wN an (h 0) z9.2.2.1 ++ (wR aq (h 0) ++ (wD γ ad z9.2.2.2.1 ++ (wP γ ap z9.2.2.2.2.1 ++ (wO γ au z9.2.2.2.2.2.1 ++ (wM γ am z9.2.2.2.2.2.2 ++ (r)))))))))) [some (.ref b), some (.ref as9), some (.ref (am 0)), some (.ref au), some (.int i), none, none] (cs + 1) (ss + 6) 2278 []) : V l γ X M (wB γ h σ ++ (wB γ g τ ++ (wS as9 (h 0) (g 0) an aq (ad 0) (ap 0) ++ (wN an (h 0) ν ++ (wR aq (h 0) ++ (wD γ ad δ ++ (wP γ ap π ++ (wO γ au ω ++ (wM γ am μ ++ (r)))))))))) [some (.ref b), some (.ref as9), some (.ref (am 0)), some (.ref au), some (.int i), none, none] cs ss 1906 [] := by
  unfold st_25 at hR
  refine r_aload_n 1906 1 K (dk_of tL_law_11 64 rfl) rfl rfl ?_
  refine r_aload_n 1907 0 K (dk_of tL_law_11 65 rfl) rfl rfl ?_
  refine r_iload 1908 4 K (dk_of tL_law_11 66 rfl) rfl ?_
  refine r_iconst 1910 (1 : Int32) K (dk_of tL_law_11 67 rfl) (by decide) ?_
  refine r_iadd 1911 K (dk_of tL_law_11 68 rfl) ?_
  refine r_sldN 1912 K hX hbl hbA h1 e1 (dk_of tL_law_11 69 rfl) ?_
  refine r_aload_n 1913 3 K (dk_of tL_law_11 70 rfl) rfl rfl ?_
  obtain ⟨x1, π2, ω3, hc, hR⟩ := o3 hR
  refine r_cSh (mc := 1) (ms := 6) (n := 3) 1914 [.ref as9, .int p1, .ref au] [] x1 (wB γ h σ ++ (wB γ g τ ++ (wS as9 (h 0) (g 0) an aq (ad 0) (ap 0) ++ (wN an (h 0) ν ++ (wR aq (h 0) ++ (wD γ ad δ ++ (wP γ ap π2 ++ (wO γ au ω3 ++ (wM γ am μ ++ (r)))))))))) K (ct_L_claim hl hc.symm) w864 w865 w0 cwx_claim (by decide +kernel) ⟨rfl, rfl, rfl⟩ (dk_of tL_law_11 71 rfl) rfl rfl rfl ⟨hcs, hss⟩ ?_
  refine r_istore 1917 5 [some (.ref b), some (.ref as9), some (.ref (am 0)), some (.ref au), some (.int i), some (.int x1), none] K (dk_of tL_law_11 72 rfl) rfl rfl (by decide) ?_
  refine r_aload_n 1919 2 K (dk_of tL_law_11 73 rfl) rfl rfl ?_
  refine r_aload_n 1920 0 K (dk_of tL_law_11 74 rfl) rfl rfl ?_
  refine r_iload 1921 4 K (dk_of tL_law_11 75 rfl) rfl ?_
  refine r_iconst 1923 (1 : Int32) K (dk_of tL_law_11 76 rfl) (by decide) ?_
  refine r_iadd 1924 K (dk_of tL_law_11 77 rfl) ?_
  refine r_sldN 1925 K hX hbl hbA h1 e1 (dk_of tL_law_11 78 rfl) ?_
  obtain ⟨x4, μ5, hc, hR⟩ := o2 hR
  refine r_perm (wM γ am μ ++ (wB γ h σ ++ (wB γ g τ ++ (wS as9 (h 0) (g 0) an aq (ad 0) (ap 0) ++ (wN an (h 0) ν ++ (wR aq (h 0) ++ (wD γ ad δ ++ (wP γ ap π2 ++ (wO γ au ω3 ++ (r)))))))))) (permF _ _ _ _ _ _ _ _ _ _) 1926 ?_
  refine r_cVi 1926 0 [.int p1] [] x4 (wM γ am μ5 ++ (wB γ h σ ++ (wB γ g τ ++ (wS as9 (h 0) (g 0) an aq (ad 0) (ap 0) ++ (wN an (h 0) ν ++ (wR aq (h 0) ++ (wD γ ad δ ++ (wP γ ap π2 ++ (wO γ au ω3 ++ (r)))))))))) K (ct_X10_claim hl hc.symm) cs_L_205 ⟨rfl, rfl, rfl⟩ (dk_of tL_law_11 79 rfl) rfl rfl rfl rfl rfl (bb_ hcs hss) ?_
  refine r_perm (wB γ h σ ++ (wB γ g τ ++ (wS as9 (h 0) (g 0) an aq (ad 0) (ap 0) ++ (wN an (h 0) ν ++ (wR aq (h 0) ++ (wD γ ad δ ++ (wP γ ap π2 ++ (wO γ au ω3 ++ (wM γ am μ5 ++ (r)))))))))) (permB _ _ _ _ _ _ _ _ _ _) 1929 ?_
  refine r_istore 1929 6 [some (.ref b), some (.ref as9), some (.ref (am 0)), some (.ref au), some (.int i), some (.int x1), some (.int x4)] K (dk_of tL_law_11 80 rfl) rfl rfl (by decide) ?_
  refine r_aload_n 1931 2 K (dk_of tL_law_11 81 rfl) rfl rfl ?_
  obtain ⟨x6, hc, hR⟩ := o1 hR
  refine r_perm (wM γ am μ5 ++ (wB γ h σ ++ (wB γ g τ ++ (wS as9 (h 0) (g 0) an aq (ad 0) (ap 0) ++ (wN an (h 0) ν ++ (wR aq (h 0) ++ (wD γ ad δ ++ (wP γ ap π2 ++ (wO γ au ω3 ++ (r)))))))))) (permF _ _ _ _ _ _ _ _ _ _) 1932 ?_
  refine r_cVi 1932 0 [] [] x6 (wM γ am μ5 ++ (wB γ h σ ++ (wB γ g τ ++ (wS as9 (h 0) (g 0) an aq (ad 0) (ap 0) ++ (wN an (h 0) ν ++ (wR aq (h 0) ++ (wD γ ad δ ++ (wP γ ap π2 ++ (wO γ au ω3 ++ (r)))))))))) K (ct_X10_thrown hl hc.symm) cs_L_124 ⟨rfl, rfl, rfl⟩ (dk_of tL_law_11 82 rfl) rfl rfl rfl rfl rfl (bb_ hcs hss) ?_
  refine r_perm (wB γ h σ ++ (wB γ g τ ++ (wS as9 (h 0) (g 0) an aq (ad 0) (ap 0) ++ (wN an (h 0) ν ++ (wR aq (h 0) ++ (wD γ ad δ ++ (wP γ ap π2 ++ (wO γ au ω3 ++ (wM γ am μ5 ++ (r)))))))))) (permB _ _ _ _ _ _ _ _ _ _) 1935 ?_
  refine r_iload 1935 5 K (dk_of tL_law_11 83 rfl) rfl ?_
  refine r_ic_eq 1937 1942 K (dk_of tL_law_11 84 rfl) (by decide) hR (fun hR => ?_) (fun hR => ?_)
  · refine r_iload 1942 5 K (dk_of tL_law_11 87 rfl) rfl ?_
    refine r_if_ne 1944 1959 K (dk_of tL_law_11 88 rfl) (by decide) hR (fun hR => ?_) (fun hR => ?_)
    · refine r_aload_n 1947 3 K (dk_of tL_law_11 89 rfl) rfl rfl ?_
      refine r_iconst 1948 (0 : Int32) K (dk_of tL_law_11 90 rfl) (by decide) ?_
      refine r_lald 1949 60 K (dk_of tL_law_11 91 rfl) rfl (vpd (by decide)) ?_
      refine r_iload 1950 6 K (dk_of tL_law_11 92 rfl) rfl ?_
      refine r_i2l 1952 K (dk_of tL_law_11 93 rfl) ?_
      refine r_lcmp 1953 K (dk_of tL_law_11 94 rfl) ?_
      refine r_if_eq 1954 1959 K (dk_of tL_law_11 95 rfl) (by decide) hR (fun hR => ?_) (fun hR => ?_)
      · refine r_goto 1959 2278 K (dk_of tL_law_11 98 rfl) (by decide) ?_
        cases hR
        exact r_msk [true, true, true, true, true, false, false] [some (.ref b), some (.ref as9), some (.ref (am 0)), some (.ref au), some (.int i), none, none] rfl kk
      · exact nn_ hR
    · refine r_goto 1959 2278 K (dk_of tL_law_11 98 rfl) (by decide) ?_
      cases hR
      exact r_msk [true, true, true, true, true, false, false] [some (.ref b), some (.ref as9), some (.ref (am 0)), some (.ref au), some (.int i), none, none] rfl kk
  · exact nn_ hR

def st_26 (p1 : Int32) (p2 : Int32) (σ : St) (τ : St) (ν : (Nat → Int32)) (δ : St) (π : (St × Int64)) (ω : (Nat → Int64)) (μ : St) : Option S7 := b3 (sp_L_layers p1 p2 π ω) (fun (x1 : Int32) (π2 : (St × Int64)) (ω3 : (Nat → Int64)) => b2 (sp_X10_layers p1 p2 μ) (fun (x4 : Int32) (μ5 : St) => b1 (sp_X10_thrown μ5) (fun (x6 : Int32) => if x6 = x1 then (if x1 = 0 then (if (lg_cmp (ω3 (0 : Int32).toNatClampNeg) x4.toInt64) = 0 then (some (σ, τ, ν, δ, π2, ω3, μ5)) else (none)) else (some (σ, τ, ν, δ, π2, ω3, μ5))) else (none))))
set_option maxHeartbeats 4000000 in
set_option maxRecDepth 100000 in
theorem law_26 {l : Launch} (hl : l.stackTraces = false) {γ : Gd} {h g : Nat → Nat} {as9 an aq : Nat} {ad ap : Nat → Nat} {au : Nat} {am : Nat → Nat} {r : va_W} {σ : St} {τ : St} {ν : (Nat → Int32)} {δ : St} {π : (St × Int64)} {ω : (Nat → Int64)} {μ : St} {X : CX} {M : MX} {y : MethodName} {tb : List ExceptionTableEntry} {b n : Nat} {xs : Nat → Int32} {i p1 p2 : Int32} {cs ss : Nat} (K : KX l γ X M y cL_law RL 7 rmL (some .boolean) tb) (hX : va_X b n xs (ks X) (ks X).heap) (hbl : b < (ks X).heap.size) (hbA : ¬ Ax X M b) (h1 : ¬ (i + (1 : Int32) < 0 ∨ n ≤ (i + (1 : Int32)).toNatClampNeg)) (e1 : xs (i + (1 : Int32)).toNatClampNeg = p1) (h2 : ¬ (i + (2 : Int32) < 0 ∨ n ≤ (i + (2 : Int32)).toNatClampNeg)) (e2 : xs (i + (2 : Int32)).toNatClampNeg = p2) (hcs : cs + 1 ≤ 1124) (hss : ss + 6 ≤ 9915) {z9 : S7} (hR : some z9 = st_26 p1 p2 σ τ ν δ π ω μ)
    (kk : V l γ X M (wB γ h z9.1 ++ (wB γ g z9.2.1 ++ (wS as9 (h 0) (g 0) an aq (ad 0) (ap 0) ++ (wN an (h 0) z9.2.2.1 ++ (wR aq (h 0) ++ (wD γ ad z9.2.2.2.1 ++ (wP γ ap z9.2.2.2.2.1 ++ (wO γ au z9.2.2.2.2.2.1 ++ (wM γ am z9.2.2.2.2.2.2 ++ (r)))))))))) [some (.ref b), some (.ref as9), some (.ref (am 0)), some (.ref au), some (.int i), none, none] (cs + 1) (ss + 6) 2278 []) : V l γ X M (wB γ h σ ++ (wB γ g τ ++ (wS as9 (h 0) (g 0) an aq (ad 0) (ap 0) ++ (wN an (h 0) ν ++ (wR aq (h 0) ++ (wD γ ad δ ++ (wP γ ap π ++ (wO γ au ω ++ (wM γ am μ ++ (r)))))))))) [some (.ref b), some (.ref as9), some (.ref (am 0)), some (.ref au), some (.int i), none, none] cs ss 1962 [] := by
  unfold st_26 at hR
  refine r_aload_n 1962 1 K (dk_of tL_law_11 99 rfl) rfl rfl ?_
  refine r_aload_n 1963 0 K (dk_of tL_law_12 0 rfl) rfl rfl ?_
  refine r_iload 1964 4 K (dk_of tL_law_12 1 rfl) rfl ?_
  refine r_iconst 1966 (1 : Int32) K (dk_of tL_law_12 2 rfl) (by decide) ?_
  refine r_iadd 1967 K (dk_of tL_law_12 3 rfl) ?_
  refine r_sldN 1968 K hX hbl hbA h1 e1 (dk_of tL_law_12 4 rfl) ?_
  refine r_aload_n 1969 0 K (dk_of tL_law_12 5 rfl) rfl rfl ?_
  refine r_iload 1970 4 K (dk_of tL_law_12 6 rfl) rfl ?_
  refine r_iconst 1972 (2 : Int32) K (dk_of tL_law_12 7 rfl) (by decide) ?_
  refine r_iadd 1973 K (dk_of tL_law_12 8 rfl) ?_
  refine r_sldN 1974 K hX hbl hbA h2 e2 (dk_of tL_law_12 9 rfl) ?_
  refine r_aload_n 1975 3 K (dk_of tL_law_12 10 rfl) rfl rfl ?_
  obtain ⟨x1, π2, ω3, hc, hR⟩ := o3 hR
  refine r_cSh (mc := 1) (ms := 6) (n := 4) 1976 [.ref as9, .int p1, .int p2, .ref au] [] x1 (wB γ h σ ++ (wB γ g τ ++ (wS as9 (h 0) (g 0) an aq (ad 0) (ap 0) ++ (wN an (h 0) ν ++ (wR aq (h 0) ++ (wD γ ad δ ++ (wP γ ap π2 ++ (wO γ au ω3 ++ (wM γ am μ ++ (r)))))))))) K (ct_L_layers hl hc.symm) w877 w878 w0 cwx_layers (by decide +kernel) ⟨rfl, rfl, rfl⟩ (dk_of tL_law_12 11 rfl) rfl rfl rfl ⟨hcs, hss⟩ ?_
  refine r_istore 1979 5 [some (.ref b), some (.ref as9), some (.ref (am 0)), some (.ref au), some (.int i), some (.int x1), none] K (dk_of tL_law_12 12 rfl) rfl rfl (by decide) ?_
  refine r_aload_n 1981 2 K (dk_of tL_law_12 13 rfl) rfl rfl ?_
  refine r_aload_n 1982 0 K (dk_of tL_law_12 14 rfl) rfl rfl ?_
  refine r_iload 1983 4 K (dk_of tL_law_12 15 rfl) rfl ?_
  refine r_iconst 1985 (1 : Int32) K (dk_of tL_law_12 16 rfl) (by decide) ?_
  refine r_iadd 1986 K (dk_of tL_law_12 17 rfl) ?_
  refine r_sldN 1987 K hX hbl hbA h1 e1 (dk_of tL_law_12 18 rfl) ?_
  refine r_aload_n 1988 0 K (dk_of tL_law_12 19 rfl) rfl rfl ?_
  refine r_iload 1989 4 K (dk_of tL_law_12 20 rfl) rfl ?_
  refine r_iconst 1991 (2 : Int32) K (dk_of tL_law_12 21 rfl) (by decide) ?_
  refine r_iadd 1992 K (dk_of tL_law_12 22 rfl) ?_
  refine r_sldN 1993 K hX hbl hbA h2 e2 (dk_of tL_law_12 23 rfl) ?_
  obtain ⟨x4, μ5, hc, hR⟩ := o2 hR
  refine r_perm (wM γ am μ ++ (wB γ h σ ++ (wB γ g τ ++ (wS as9 (h 0) (g 0) an aq (ad 0) (ap 0) ++ (wN an (h 0) ν ++ (wR aq (h 0) ++ (wD γ ad δ ++ (wP γ ap π2 ++ (wO γ au ω3 ++ (r)))))))))) (permF _ _ _ _ _ _ _ _ _ _) 1994 ?_
  refine r_cVi 1994 0 [.int p1, .int p2] [] x4 (wM γ am μ5 ++ (wB γ h σ ++ (wB γ g τ ++ (wS as9 (h 0) (g 0) an aq (ad 0) (ap 0) ++ (wN an (h 0) ν ++ (wR aq (h 0) ++ (wD γ ad δ ++ (wP γ ap π2 ++ (wO γ au ω3 ++ (r)))))))))) K (ct_X10_layers hl hc.symm) cs_L_208 ⟨rfl, rfl, rfl⟩ (dk_of tL_law_12 24 rfl) rfl rfl rfl rfl rfl (bb_ hcs hss) ?_
  refine r_perm (wB γ h σ ++ (wB γ g τ ++ (wS as9 (h 0) (g 0) an aq (ad 0) (ap 0) ++ (wN an (h 0) ν ++ (wR aq (h 0) ++ (wD γ ad δ ++ (wP γ ap π2 ++ (wO γ au ω3 ++ (wM γ am μ5 ++ (r)))))))))) (permB _ _ _ _ _ _ _ _ _ _) 1997 ?_
  refine r_istore 1997 6 [some (.ref b), some (.ref as9), some (.ref (am 0)), some (.ref au), some (.int i), some (.int x1), some (.int x4)] K (dk_of tL_law_12 25 rfl) rfl rfl (by decide) ?_
  refine r_aload_n 1999 2 K (dk_of tL_law_12 26 rfl) rfl rfl ?_
  obtain ⟨x6, hc, hR⟩ := o1 hR
  refine r_perm (wM γ am μ5 ++ (wB γ h σ ++ (wB γ g τ ++ (wS as9 (h 0) (g 0) an aq (ad 0) (ap 0) ++ (wN an (h 0) ν ++ (wR aq (h 0) ++ (wD γ ad δ ++ (wP γ ap π2 ++ (wO γ au ω3 ++ (r)))))))))) (permF _ _ _ _ _ _ _ _ _ _) 2000 ?_
  refine r_cVi 2000 0 [] [] x6 (wM γ am μ5 ++ (wB γ h σ ++ (wB γ g τ ++ (wS as9 (h 0) (g 0) an aq (ad 0) (ap 0) ++ (wN an (h 0) ν ++ (wR aq (h 0) ++ (wD γ ad δ ++ (wP γ ap π2 ++ (wO γ au ω3 ++ (r)))))))))) K (ct_X10_thrown hl hc.symm) cs_L_124 ⟨rfl, rfl, rfl⟩ (dk_of tL_law_12 27 rfl) rfl rfl rfl rfl rfl (bb_ hcs hss) ?_
  refine r_perm (wB γ h σ ++ (wB γ g τ ++ (wS as9 (h 0) (g 0) an aq (ad 0) (ap 0) ++ (wN an (h 0) ν ++ (wR aq (h 0) ++ (wD γ ad δ ++ (wP γ ap π2 ++ (wO γ au ω3 ++ (wM γ am μ5 ++ (r)))))))))) (permB _ _ _ _ _ _ _ _ _ _) 2003 ?_
  refine r_iload 2003 5 K (dk_of tL_law_12 28 rfl) rfl ?_
  refine r_ic_eq 2005 2010 K (dk_of tL_law_12 29 rfl) (by decide) hR (fun hR => ?_) (fun hR => ?_)
  · refine r_iload 2010 5 K (dk_of tL_law_12 32 rfl) rfl ?_
    refine r_if_ne 2012 2027 K (dk_of tL_law_12 33 rfl) (by decide) hR (fun hR => ?_) (fun hR => ?_)
    · refine r_aload_n 2015 3 K (dk_of tL_law_12 34 rfl) rfl rfl ?_
      refine r_iconst 2016 (0 : Int32) K (dk_of tL_law_12 35 rfl) (by decide) ?_
      refine r_lald 2017 60 K (dk_of tL_law_12 36 rfl) rfl (vpd (by decide)) ?_
      refine r_iload 2018 6 K (dk_of tL_law_12 37 rfl) rfl ?_
      refine r_i2l 2020 K (dk_of tL_law_12 38 rfl) ?_
      refine r_lcmp 2021 K (dk_of tL_law_12 39 rfl) ?_
      refine r_if_eq 2022 2027 K (dk_of tL_law_12 40 rfl) (by decide) hR (fun hR => ?_) (fun hR => ?_)
      · refine r_goto 2027 2278 K (dk_of tL_law_12 43 rfl) (by decide) ?_
        cases hR
        exact r_msk [true, true, true, true, true, false, false] [some (.ref b), some (.ref as9), some (.ref (am 0)), some (.ref au), some (.int i), none, none] rfl kk
      · exact nn_ hR
    · refine r_goto 2027 2278 K (dk_of tL_law_12 43 rfl) (by decide) ?_
      cases hR
      exact r_msk [true, true, true, true, true, false, false] [some (.ref b), some (.ref as9), some (.ref (am 0)), some (.ref au), some (.int i), none, none] rfl kk
  · exact nn_ hR

def st_27 (p1 : Int32) (p2 : Int32) (σ : St) (τ : St) (ν : (Nat → Int32)) (δ : St) (π : (St × Int64)) (ω : (Nat → Int64)) (μ : St) : Option S7 := b2 (sp_L_due p1 p2 π ω) (fun (x1 : Int32) (ω2 : (Nat → Int64)) => b2 (sp_X10_due p1 p2 μ) (fun (x3 : Int32) (μ4 : St) => b1 (sp_X10_thrown μ4) (fun (x5 : Int32) => if x5 = x1 then (if x1 = 0 then (if (lg_cmp (ω2 (0 : Int32).toNatClampNeg) x3.toInt64) = 0 then (some (σ, τ, ν, δ, π, ω2, μ4)) else (none)) else (some (σ, τ, ν, δ, π, ω2, μ4))) else (none))))
set_option maxHeartbeats 4000000 in
set_option maxRecDepth 100000 in
theorem law_27 {l : Launch} (hl : l.stackTraces = false) {γ : Gd} {h g : Nat → Nat} {as9 an aq : Nat} {ad ap : Nat → Nat} {au : Nat} {am : Nat → Nat} {r : va_W} {σ : St} {τ : St} {ν : (Nat → Int32)} {δ : St} {π : (St × Int64)} {ω : (Nat → Int64)} {μ : St} {X : CX} {M : MX} {y : MethodName} {tb : List ExceptionTableEntry} {b n : Nat} {xs : Nat → Int32} {i p1 p2 : Int32} {cs ss : Nat} (K : KX l γ X M y cL_law RL 7 rmL (some .boolean) tb) (hX : va_X b n xs (ks X) (ks X).heap) (hbl : b < (ks X).heap.size) (hbA : ¬ Ax X M b) (h1 : ¬ (i + (1 : Int32) < 0 ∨ n ≤ (i + (1 : Int32)).toNatClampNeg)) (e1 : xs (i + (1 : Int32)).toNatClampNeg = p1) (h2 : ¬ (i + (2 : Int32) < 0 ∨ n ≤ (i + (2 : Int32)).toNatClampNeg)) (e2 : xs (i + (2 : Int32)).toNatClampNeg = p2) (hcs : cs + 1 ≤ 1124) (hss : ss + 6 ≤ 9915) {z9 : S7} (hR : some z9 = st_27 p1 p2 σ τ ν δ π ω μ)
    (kk : V l γ X M (wB γ h z9.1 ++ (wB γ g z9.2.1 ++ (wS as9 (h 0) (g 0) an aq (ad 0) (ap 0) ++ (wN an (h 0) z9.2.2.1 ++ (wR aq (h 0) ++ (wD γ ad z9.2.2.2.1 ++ (wP γ ap z9.2.2.2.2.1 ++ (wO γ au z9.2.2.2.2.2.1 ++ (wM γ am z9.2.2.2.2.2.2 ++ (r)))))))))) [some (.ref b), some (.ref as9), some (.ref (am 0)), some (.ref au), some (.int i), none, none] (cs + 1) (ss + 6) 2278 []) : V l γ X M (wB γ h σ ++ (wB γ g τ ++ (wS as9 (h 0) (g 0) an aq (ad 0) (ap 0) ++ (wN an (h 0) ν ++ (wR aq (h 0) ++ (wD γ ad δ ++ (wP γ ap π ++ (wO γ au ω ++ (wM γ am μ ++ (r)))))))))) [some (.ref b), some (.ref as9), some (.ref (am 0)), some (.ref au), some (.int i), none, none] cs ss 2030 [] := by
  unfold st_27 at hR
  refine r_aload_n 2030 1 K (dk_of tL_law_12 44 rfl) rfl rfl ?_
  refine r_aload_n 2031 0 K (dk_of tL_law_12 45 rfl) rfl rfl ?_
  refine r_iload 2032 4 K (dk_of tL_law_12 46 rfl) rfl ?_
  refine r_iconst 2034 (1 : Int32) K (dk_of tL_law_12 47 rfl) (by decide) ?_
  refine r_iadd 2035 K (dk_of tL_law_12 48 rfl) ?_
  refine r_sldN 2036 K hX hbl hbA h1 e1 (dk_of tL_law_12 49 rfl) ?_
  refine r_aload_n 2037 0 K (dk_of tL_law_12 50 rfl) rfl rfl ?_
  refine r_iload 2038 4 K (dk_of tL_law_12 51 rfl) rfl ?_
  refine r_iconst 2040 (2 : Int32) K (dk_of tL_law_12 52 rfl) (by decide) ?_
  refine r_iadd 2041 K (dk_of tL_law_12 53 rfl) ?_
  refine r_sldN 2042 K hX hbl hbA h2 e2 (dk_of tL_law_12 54 rfl) ?_
  refine r_aload_n 2043 3 K (dk_of tL_law_12 55 rfl) rfl rfl ?_
  obtain ⟨x1, ω2, hc, hR⟩ := o2 hR
  refine r_cSh (mc := 1) (ms := 6) (n := 4) 2044 [.ref as9, .int p1, .int p2, .ref au] [] x1 (wB γ h σ ++ (wB γ g τ ++ (wS as9 (h 0) (g 0) an aq (ad 0) (ap 0) ++ (wN an (h 0) ν ++ (wR aq (h 0) ++ (wD γ ad δ ++ (wP γ ap π ++ (wO γ au ω2 ++ (wM γ am μ ++ (r)))))))))) K (ct_L_due hl hc.symm) w885 w886 w0 cwx_due (by decide +kernel) ⟨rfl, rfl, rfl⟩ (dk_of tL_law_12 56 rfl) rfl rfl rfl ⟨hcs, hss⟩ ?_
  refine r_istore 2047 5 [some (.ref b), some (.ref as9), some (.ref (am 0)), some (.ref au), some (.int i), some (.int x1), none] K (dk_of tL_law_12 57 rfl) rfl rfl (by decide) ?_
  refine r_aload_n 2049 2 K (dk_of tL_law_12 58 rfl) rfl rfl ?_
  refine r_aload_n 2050 0 K (dk_of tL_law_12 59 rfl) rfl rfl ?_
  refine r_iload 2051 4 K (dk_of tL_law_12 60 rfl) rfl ?_
  refine r_iconst 2053 (1 : Int32) K (dk_of tL_law_12 61 rfl) (by decide) ?_
  refine r_iadd 2054 K (dk_of tL_law_12 62 rfl) ?_
  refine r_sldN 2055 K hX hbl hbA h1 e1 (dk_of tL_law_12 63 rfl) ?_
  refine r_aload_n 2056 0 K (dk_of tL_law_12 64 rfl) rfl rfl ?_
  refine r_iload 2057 4 K (dk_of tL_law_12 65 rfl) rfl ?_
  refine r_iconst 2059 (2 : Int32) K (dk_of tL_law_12 66 rfl) (by decide) ?_
  refine r_iadd 2060 K (dk_of tL_law_12 67 rfl) ?_
  refine r_sldN 2061 K hX hbl hbA h2 e2 (dk_of tL_law_12 68 rfl) ?_
  obtain ⟨x3, μ4, hc, hR⟩ := o2 hR
  refine r_perm (wM γ am μ ++ (wB γ h σ ++ (wB γ g τ ++ (wS as9 (h 0) (g 0) an aq (ad 0) (ap 0) ++ (wN an (h 0) ν ++ (wR aq (h 0) ++ (wD γ ad δ ++ (wP γ ap π ++ (wO γ au ω2 ++ (r)))))))))) (permF _ _ _ _ _ _ _ _ _ _) 2062 ?_
  refine r_cVi 2062 0 [.int p1, .int p2] [] x3 (wM γ am μ4 ++ (wB γ h σ ++ (wB γ g τ ++ (wS as9 (h 0) (g 0) an aq (ad 0) (ap 0) ++ (wN an (h 0) ν ++ (wR aq (h 0) ++ (wD γ ad δ ++ (wP γ ap π ++ (wO γ au ω2 ++ (r)))))))))) K (ct_X10_due hl hc.symm) cs_L_211 ⟨rfl, rfl, rfl⟩ (dk_of tL_law_12 69 rfl) rfl rfl rfl rfl rfl (bb_ hcs hss) ?_
  refine r_perm (wB γ h σ ++ (wB γ g τ ++ (wS as9 (h 0) (g 0) an aq (ad 0) (ap 0) ++ (wN an (h 0) ν ++ (wR aq (h 0) ++ (wD γ ad δ ++ (wP γ ap π ++ (wO γ au ω2 ++ (wM γ am μ4 ++ (r)))))))))) (permB _ _ _ _ _ _ _ _ _ _) 2065 ?_
  refine r_istore 2065 6 [some (.ref b), some (.ref as9), some (.ref (am 0)), some (.ref au), some (.int i), some (.int x1), some (.int x3)] K (dk_of tL_law_12 70 rfl) rfl rfl (by decide) ?_
  refine r_aload_n 2067 2 K (dk_of tL_law_12 71 rfl) rfl rfl ?_
  obtain ⟨x5, hc, hR⟩ := o1 hR
  refine r_perm (wM γ am μ4 ++ (wB γ h σ ++ (wB γ g τ ++ (wS as9 (h 0) (g 0) an aq (ad 0) (ap 0) ++ (wN an (h 0) ν ++ (wR aq (h 0) ++ (wD γ ad δ ++ (wP γ ap π ++ (wO γ au ω2 ++ (r)))))))))) (permF _ _ _ _ _ _ _ _ _ _) 2068 ?_
  refine r_cVi 2068 0 [] [] x5 (wM γ am μ4 ++ (wB γ h σ ++ (wB γ g τ ++ (wS as9 (h 0) (g 0) an aq (ad 0) (ap 0) ++ (wN an (h 0) ν ++ (wR aq (h 0) ++ (wD γ ad δ ++ (wP γ ap π ++ (wO γ au ω2 ++ (r)))))))))) K (ct_X10_thrown hl hc.symm) cs_L_124 ⟨rfl, rfl, rfl⟩ (dk_of tL_law_12 72 rfl) rfl rfl rfl rfl rfl (bb_ hcs hss) ?_
  refine r_perm (wB γ h σ ++ (wB γ g τ ++ (wS as9 (h 0) (g 0) an aq (ad 0) (ap 0) ++ (wN an (h 0) ν ++ (wR aq (h 0) ++ (wD γ ad δ ++ (wP γ ap π ++ (wO γ au ω2 ++ (wM γ am μ4 ++ (r)))))))))) (permB _ _ _ _ _ _ _ _ _ _) 2071 ?_
  refine r_iload 2071 5 K (dk_of tL_law_12 73 rfl) rfl ?_
  refine r_ic_eq 2073 2078 K (dk_of tL_law_12 74 rfl) (by decide) hR (fun hR => ?_) (fun hR => ?_)
  · refine r_iload 2078 5 K (dk_of tL_law_12 77 rfl) rfl ?_
    refine r_if_ne 2080 2095 K (dk_of tL_law_12 78 rfl) (by decide) hR (fun hR => ?_) (fun hR => ?_)
    · refine r_aload_n 2083 3 K (dk_of tL_law_12 79 rfl) rfl rfl ?_
      refine r_iconst 2084 (0 : Int32) K (dk_of tL_law_12 80 rfl) (by decide) ?_
      refine r_lald 2085 60 K (dk_of tL_law_12 81 rfl) rfl (vpd (by decide)) ?_
      refine r_iload 2086 6 K (dk_of tL_law_12 82 rfl) rfl ?_
      refine r_i2l 2088 K (dk_of tL_law_12 83 rfl) ?_
      refine r_lcmp 2089 K (dk_of tL_law_12 84 rfl) ?_
      refine r_if_eq 2090 2095 K (dk_of tL_law_12 85 rfl) (by decide) hR (fun hR => ?_) (fun hR => ?_)
      · refine r_goto 2095 2278 K (dk_of tL_law_12 88 rfl) (by decide) ?_
        cases hR
        exact r_msk [true, true, true, true, true, false, false] [some (.ref b), some (.ref as9), some (.ref (am 0)), some (.ref au), some (.int i), none, none] rfl kk
      · exact nn_ hR
    · refine r_goto 2095 2278 K (dk_of tL_law_12 88 rfl) (by decide) ?_
      cases hR
      exact r_msk [true, true, true, true, true, false, false] [some (.ref b), some (.ref as9), some (.ref (am 0)), some (.ref au), some (.int i), none, none] rfl kk
  · exact nn_ hR

def st_28 (p1 : Int32) (p2 : Int32) (σ : St) (τ : St) (ν : (Nat → Int32)) (δ : St) (π : (St × Int64)) (ω : (Nat → Int64)) (μ : St) : Option S7 := b3 (sp_L_ahead p1 p2 σ τ ω) (fun (x1 : Int32) (τ2 : St) (ω3 : (Nat → Int64)) => b2 (sp_X10_ahead p1 p2 μ) (fun (x4 : Int32) (μ5 : St) => b1 (sp_X10_thrown μ5) (fun (x6 : Int32) => if x6 = x1 then (if x1 = 0 then (if (lg_cmp (ω3 (0 : Int32).toNatClampNeg) x4.toInt64) = 0 then (some (σ, τ2, ν, δ, π, ω3, μ5)) else (none)) else (some (σ, τ2, ν, δ, π, ω3, μ5))) else (none))))
set_option maxHeartbeats 4000000 in
set_option maxRecDepth 100000 in
theorem law_28 {l : Launch} (hl : l.stackTraces = false) {γ : Gd} {h g : Nat → Nat} {as9 an aq : Nat} {ad ap : Nat → Nat} {au : Nat} {am : Nat → Nat} {r : va_W} {σ : St} {τ : St} {ν : (Nat → Int32)} {δ : St} {π : (St × Int64)} {ω : (Nat → Int64)} {μ : St} {X : CX} {M : MX} {y : MethodName} {tb : List ExceptionTableEntry} {b n : Nat} {xs : Nat → Int32} {i p1 p2 : Int32} {cs ss : Nat} (K : KX l γ X M y cL_law RL 7 rmL (some .boolean) tb) (hX : va_X b n xs (ks X) (ks X).heap) (hbl : b < (ks X).heap.size) (hbA : ¬ Ax X M b) (h1 : ¬ (i + (1 : Int32) < 0 ∨ n ≤ (i + (1 : Int32)).toNatClampNeg)) (e1 : xs (i + (1 : Int32)).toNatClampNeg = p1) (h2 : ¬ (i + (2 : Int32) < 0 ∨ n ≤ (i + (2 : Int32)).toNatClampNeg)) (e2 : xs (i + (2 : Int32)).toNatClampNeg = p2) (hcs : cs + 1 ≤ 1124) (hss : ss + 6 ≤ 9915) {z9 : S7} (hR : some z9 = st_28 p1 p2 σ τ ν δ π ω μ)
    (kk : V l γ X M (wB γ h z9.1 ++ (wB γ g z9.2.1 ++ (wS as9 (h 0) (g 0) an aq (ad 0) (ap 0) ++ (wN an (h 0) z9.2.2.1 ++ (wR aq (h 0) ++ (wD γ ad z9.2.2.2.1 ++ (wP γ ap z9.2.2.2.2.1 ++ (wO γ au z9.2.2.2.2.2.1 ++ (wM γ am z9.2.2.2.2.2.2 ++ (r)))))))))) [some (.ref b), some (.ref as9), some (.ref (am 0)), some (.ref au), some (.int i), none, none] (cs + 1) (ss + 6) 2278 []) : V l γ X M (wB γ h σ ++ (wB γ g τ ++ (wS as9 (h 0) (g 0) an aq (ad 0) (ap 0) ++ (wN an (h 0) ν ++ (wR aq (h 0) ++ (wD γ ad δ ++ (wP γ ap π ++ (wO γ au ω ++ (wM γ am μ ++ (r)))))))))) [some (.ref b), some (.ref as9), some (.ref (am 0)), some (.ref au), some (.int i), none, none] cs ss 2098 [] := by
  unfold st_28 at hR
  refine r_aload_n 2098 1 K (dk_of tL_law_12 89 rfl) rfl rfl ?_
  refine r_aload_n 2099 0 K (dk_of tL_law_12 90 rfl) rfl rfl ?_
  refine r_iload 2100 4 K (dk_of tL_law_12 91 rfl) rfl ?_
  refine r_iconst 2102 (1 : Int32) K (dk_of tL_law_12 92 rfl) (by decide) ?_
  refine r_iadd 2103 K (dk_of tL_law_12 93 rfl) ?_
  refine r_sldN 2104 K hX hbl hbA h1 e1 (dk_of tL_law_12 94 rfl) ?_
  refine r_aload_n 2105 0 K (dk_of tL_law_12 95 rfl) rfl rfl ?_
  refine r_iload 2106 4 K (dk_of tL_law_12 96 rfl) rfl ?_
  refine r_iconst 2108 (2 : Int32) K (dk_of tL_law_12 97 rfl) (by decide) ?_
  refine r_iadd 2109 K (dk_of tL_law_12 98 rfl) ?_
  refine r_sldN 2110 K hX hbl hbA h2 e2 (dk_of tL_law_12 99 rfl) ?_
  refine r_aload_n 2111 3 K (dk_of tL_law_13 0 rfl) rfl rfl ?_
  obtain ⟨x1, τ2, ω3, hc, hR⟩ := o3 hR
  refine r_cSh (mc := 1) (ms := 6) (n := 4) 2112 [.ref as9, .int p1, .int p2, .ref au] [] x1 (wB γ h σ ++ (wB γ g τ2 ++ (wS as9 (h 0) (g 0) an aq (ad 0) (ap 0) ++ (wN an (h 0) ν ++ (wR aq (h 0) ++ (wD γ ad δ ++ (wP γ ap π ++ (wO γ au ω3 ++ (wM γ am μ ++ (r)))))))))) K (ct_L_ahead hl hc.symm) w907 w908 w0 cwx_ahead (by decide +kernel) ⟨rfl, rfl, rfl⟩ (dk_of tL_law_13 1 rfl) rfl rfl rfl ⟨hcs, hss⟩ ?_
  refine r_istore 2115 5 [some (.ref b), some (.ref as9), some (.ref (am 0)), some (.ref au), some (.int i), some (.int x1), none] K (dk_of tL_law_13 2 rfl) rfl rfl (by decide) ?_
  refine r_aload_n 2117 2 K (dk_of tL_law_13 3 rfl) rfl rfl ?_
  refine r_aload_n 2118 0 K (dk_of tL_law_13 4 rfl) rfl rfl ?_
  refine r_iload 2119 4 K (dk_of tL_law_13 5 rfl) rfl ?_
  refine r_iconst 2121 (1 : Int32) K (dk_of tL_law_13 6 rfl) (by decide) ?_
  refine r_iadd 2122 K (dk_of tL_law_13 7 rfl) ?_
  refine r_sldN 2123 K hX hbl hbA h1 e1 (dk_of tL_law_13 8 rfl) ?_
  refine r_aload_n 2124 0 K (dk_of tL_law_13 9 rfl) rfl rfl ?_
  refine r_iload 2125 4 K (dk_of tL_law_13 10 rfl) rfl ?_
  refine r_iconst 2127 (2 : Int32) K (dk_of tL_law_13 11 rfl) (by decide) ?_
  refine r_iadd 2128 K (dk_of tL_law_13 12 rfl) ?_
  refine r_sldN 2129 K hX hbl hbA h2 e2 (dk_of tL_law_13 13 rfl) ?_
  obtain ⟨x4, μ5, hc, hR⟩ := o2 hR
  refine r_perm (wM γ am μ ++ (wB γ h σ ++ (wB γ g τ2 ++ (wS as9 (h 0) (g 0) an aq (ad 0) (ap 0) ++ (wN an (h 0) ν ++ (wR aq (h 0) ++ (wD γ ad δ ++ (wP γ ap π ++ (wO γ au ω3 ++ (r)))))))))) (permF _ _ _ _ _ _ _ _ _ _) 2130 ?_
  refine r_cVi 2130 0 [.int p1, .int p2] [] x4 (wM γ am μ5 ++ (wB γ h σ ++ (wB γ g τ2 ++ (wS as9 (h 0) (g 0) an aq (ad 0) (ap 0) ++ (wN an (h 0) ν ++ (wR aq (h 0) ++ (wD γ ad δ ++ (wP γ ap π ++ (wO γ au ω3 ++ (r)))))))))) K (ct_X10_ahead hl hc.symm) cs_L_214 ⟨rfl, rfl, rfl⟩ (dk_of tL_law_13 14 rfl) rfl rfl rfl rfl rfl (bb_ hcs hss) ?_
  refine r_perm (wB γ h σ ++ (wB γ g τ2 ++ (wS as9 (h 0) (g 0) an aq (ad 0) (ap 0) ++ (wN an (h 0) ν ++ (wR aq (h 0) ++ (wD γ ad δ ++ (wP γ ap π ++ (wO γ au ω3 ++ (wM γ am μ5 ++ (r)))))))))) (permB _ _ _ _ _ _ _ _ _ _) 2133 ?_
  refine r_istore 2133 6 [some (.ref b), some (.ref as9), some (.ref (am 0)), some (.ref au), some (.int i), some (.int x1), some (.int x4)] K (dk_of tL_law_13 15 rfl) rfl rfl (by decide) ?_
  refine r_aload_n 2135 2 K (dk_of tL_law_13 16 rfl) rfl rfl ?_
  obtain ⟨x6, hc, hR⟩ := o1 hR
  refine r_perm (wM γ am μ5 ++ (wB γ h σ ++ (wB γ g τ2 ++ (wS as9 (h 0) (g 0) an aq (ad 0) (ap 0) ++ (wN an (h 0) ν ++ (wR aq (h 0) ++ (wD γ ad δ ++ (wP γ ap π ++ (wO γ au ω3 ++ (r)))))))))) (permF _ _ _ _ _ _ _ _ _ _) 2136 ?_
  refine r_cVi 2136 0 [] [] x6 (wM γ am μ5 ++ (wB γ h σ ++ (wB γ g τ2 ++ (wS as9 (h 0) (g 0) an aq (ad 0) (ap 0) ++ (wN an (h 0) ν ++ (wR aq (h 0) ++ (wD γ ad δ ++ (wP γ ap π ++ (wO γ au ω3 ++ (r)))))))))) K (ct_X10_thrown hl hc.symm) cs_L_124 ⟨rfl, rfl, rfl⟩ (dk_of tL_law_13 17 rfl) rfl rfl rfl rfl rfl (bb_ hcs hss) ?_
  refine r_perm (wB γ h σ ++ (wB γ g τ2 ++ (wS as9 (h 0) (g 0) an aq (ad 0) (ap 0) ++ (wN an (h 0) ν ++ (wR aq (h 0) ++ (wD γ ad δ ++ (wP γ ap π ++ (wO γ au ω3 ++ (wM γ am μ5 ++ (r)))))))))) (permB _ _ _ _ _ _ _ _ _ _) 2139 ?_
  refine r_iload 2139 5 K (dk_of tL_law_13 18 rfl) rfl ?_
  refine r_ic_eq 2141 2146 K (dk_of tL_law_13 19 rfl) (by decide) hR (fun hR => ?_) (fun hR => ?_)
  · refine r_iload 2146 5 K (dk_of tL_law_13 22 rfl) rfl ?_
    refine r_if_ne 2148 2163 K (dk_of tL_law_13 23 rfl) (by decide) hR (fun hR => ?_) (fun hR => ?_)
    · refine r_aload_n 2151 3 K (dk_of tL_law_13 24 rfl) rfl rfl ?_
      refine r_iconst 2152 (0 : Int32) K (dk_of tL_law_13 25 rfl) (by decide) ?_
      refine r_lald 2153 60 K (dk_of tL_law_13 26 rfl) rfl (vpd (by decide)) ?_
      refine r_iload 2154 6 K (dk_of tL_law_13 27 rfl) rfl ?_
      refine r_i2l 2156 K (dk_of tL_law_13 28 rfl) ?_
      refine r_lcmp 2157 K (dk_of tL_law_13 29 rfl) ?_
      refine r_if_eq 2158 2163 K (dk_of tL_law_13 30 rfl) (by decide) hR (fun hR => ?_) (fun hR => ?_)
      · refine r_goto 2163 2278 K (dk_of tL_law_13 33 rfl) (by decide) ?_
        cases hR
        exact r_msk [true, true, true, true, true, false, false] [some (.ref b), some (.ref as9), some (.ref (am 0)), some (.ref au), some (.int i), none, none] rfl kk
      · exact nn_ hR
    · refine r_goto 2163 2278 K (dk_of tL_law_13 33 rfl) (by decide) ?_
      cases hR
      exact r_msk [true, true, true, true, true, false, false] [some (.ref b), some (.ref as9), some (.ref (am 0)), some (.ref au), some (.int i), none, none] rfl kk
  · exact nn_ hR

def st_29 (p1 : Int32) (σ : St) (τ : St) (ν : (Nat → Int32)) (δ : St) (π : (St × Int64)) (ω : (Nat → Int64)) (μ : St) : Option S7 := b3 (sp_L_nextAnew p1 σ ν ω) (fun (x1 : Int32) (ν2 : (Nat → Int32)) (ω3 : (Nat → Int64)) => b2 (sp_X10_nextAnew p1 μ) (fun (x4 : Int32) (μ5 : St) => b1 (sp_X10_thrown μ5) (fun (x6 : Int32) => if x6 = x1 then (if x1 = 0 then (if (lg_cmp (ω3 (0 : Int32).toNatClampNeg) x4.toInt64) = 0 then (some (σ, τ, ν2, δ, π, ω3, μ5)) else (none)) else (some (σ, τ, ν2, δ, π, ω3, μ5))) else (none))))
set_option maxHeartbeats 4000000 in
set_option maxRecDepth 100000 in
theorem law_29 {l : Launch} (hl : l.stackTraces = false) {γ : Gd} {h g : Nat → Nat} {as9 an aq : Nat} {ad ap : Nat → Nat} {au : Nat} {am : Nat → Nat} {r : va_W} {σ : St} {τ : St} {ν : (Nat → Int32)} {δ : St} {π : (St × Int64)} {ω : (Nat → Int64)} {μ : St} {X : CX} {M : MX} {y : MethodName} {tb : List ExceptionTableEntry} {b n : Nat} {xs : Nat → Int32} {i p1 : Int32} {cs ss : Nat} (K : KX l γ X M y cL_law RL 7 rmL (some .boolean) tb) (hX : va_X b n xs (ks X) (ks X).heap) (hbl : b < (ks X).heap.size) (hbA : ¬ Ax X M b) (h1 : ¬ (i + (1 : Int32) < 0 ∨ n ≤ (i + (1 : Int32)).toNatClampNeg)) (e1 : xs (i + (1 : Int32)).toNatClampNeg = p1) (hcs : cs + 1 ≤ 1124) (hss : ss + 6 ≤ 9915) {z9 : S7} (hR : some z9 = st_29 p1 σ τ ν δ π ω μ)
    (kk : V l γ X M (wB γ h z9.1 ++ (wB γ g z9.2.1 ++ (wS as9 (h 0) (g 0) an aq (ad 0) (ap 0) ++ (wN an (h 0) z9.2.2.1 ++ (wR aq (h 0) ++ (wD γ ad z9.2.2.2.1 ++ (wP γ ap z9.2.2.2.2.1 ++ (wO γ au z9.2.2.2.2.2.1 ++ (wM γ am z9.2.2.2.2.2.2 ++ (r)))))))))) [some (.ref b), some (.ref as9), some (.ref (am 0)), some (.ref au), some (.int i), none, none] (cs + 1) (ss + 6) 2278 []) : V l γ X M (wB γ h σ ++ (wB γ g τ ++ (wS as9 (h 0) (g 0) an aq (ad 0) (ap 0) ++ (wN an (h 0) ν ++ (wR aq (h 0) ++ (wD γ ad δ ++ (wP γ ap π ++ (wO γ au ω ++ (wM γ am μ ++ (r)))))))))) [some (.ref b), some (.ref as9), some (.ref (am 0)), some (.ref au), some (.int i), none, none] cs ss 2166 [] := by
  unfold st_29 at hR
  refine r_aload_n 2166 1 K (dk_of tL_law_13 34 rfl) rfl rfl ?_
  refine r_aload_n 2167 0 K (dk_of tL_law_13 35 rfl) rfl rfl ?_
  refine r_iload 2168 4 K (dk_of tL_law_13 36 rfl) rfl ?_
  refine r_iconst 2170 (1 : Int32) K (dk_of tL_law_13 37 rfl) (by decide) ?_
  refine r_iadd 2171 K (dk_of tL_law_13 38 rfl) ?_
  refine r_sldN 2172 K hX hbl hbA h1 e1 (dk_of tL_law_13 39 rfl) ?_
  refine r_aload_n 2173 3 K (dk_of tL_law_13 40 rfl) rfl rfl ?_
  obtain ⟨x1, ν2, ω3, hc, hR⟩ := o3 hR
  refine r_cSh (mc := 1) (ms := 6) (n := 3) 2174 [.ref as9, .int p1, .ref au] [] x1 (wB γ h σ ++ (wB γ g τ ++ (wS as9 (h 0) (g 0) an aq (ad 0) (ap 0) ++ (wN an (h 0) ν2 ++ (wR aq (h 0) ++ (wD γ ad δ ++ (wP γ ap π ++ (wO γ au ω3 ++ (wM γ am μ ++ (r)))))))))) K (ct_L_nextAnew hl hc.symm) w939 w940 w0 cwx_nextAnew (by decide +kernel) ⟨rfl, rfl, rfl⟩ (dk_of tL_law_13 41 rfl) rfl rfl rfl ⟨hcs, hss⟩ ?_
  refine r_istore 2177 5 [some (.ref b), some (.ref as9), some (.ref (am 0)), some (.ref au), some (.int i), some (.int x1), none] K (dk_of tL_law_13 42 rfl) rfl rfl (by decide) ?_
  refine r_aload_n 2179 2 K (dk_of tL_law_13 43 rfl) rfl rfl ?_
  refine r_aload_n 2180 0 K (dk_of tL_law_13 44 rfl) rfl rfl ?_
  refine r_iload 2181 4 K (dk_of tL_law_13 45 rfl) rfl ?_
  refine r_iconst 2183 (1 : Int32) K (dk_of tL_law_13 46 rfl) (by decide) ?_
  refine r_iadd 2184 K (dk_of tL_law_13 47 rfl) ?_
  refine r_sldN 2185 K hX hbl hbA h1 e1 (dk_of tL_law_13 48 rfl) ?_
  obtain ⟨x4, μ5, hc, hR⟩ := o2 hR
  refine r_perm (wM γ am μ ++ (wB γ h σ ++ (wB γ g τ ++ (wS as9 (h 0) (g 0) an aq (ad 0) (ap 0) ++ (wN an (h 0) ν2 ++ (wR aq (h 0) ++ (wD γ ad δ ++ (wP γ ap π ++ (wO γ au ω3 ++ (r)))))))))) (permF _ _ _ _ _ _ _ _ _ _) 2186 ?_
  refine r_cVi 2186 0 [.int p1] [] x4 (wM γ am μ5 ++ (wB γ h σ ++ (wB γ g τ ++ (wS as9 (h 0) (g 0) an aq (ad 0) (ap 0) ++ (wN an (h 0) ν2 ++ (wR aq (h 0) ++ (wD γ ad δ ++ (wP γ ap π ++ (wO γ au ω3 ++ (r)))))))))) K (ct_X10_nextAnew hl hc.symm) cs_L_217 ⟨rfl, rfl, rfl⟩ (dk_of tL_law_13 49 rfl) rfl rfl rfl rfl rfl (bb_ hcs hss) ?_
  refine r_perm (wB γ h σ ++ (wB γ g τ ++ (wS as9 (h 0) (g 0) an aq (ad 0) (ap 0) ++ (wN an (h 0) ν2 ++ (wR aq (h 0) ++ (wD γ ad δ ++ (wP γ ap π ++ (wO γ au ω3 ++ (wM γ am μ5 ++ (r)))))))))) (permB _ _ _ _ _ _ _ _ _ _) 2189 ?_
  refine r_istore 2189 6 [some (.ref b), some (.ref as9), some (.ref (am 0)), some (.ref au), some (.int i), some (.int x1), some (.int x4)] K (dk_of tL_law_13 50 rfl) rfl rfl (by decide) ?_
  refine r_aload_n 2191 2 K (dk_of tL_law_13 51 rfl) rfl rfl ?_
  obtain ⟨x6, hc, hR⟩ := o1 hR
  refine r_perm (wM γ am μ5 ++ (wB γ h σ ++ (wB γ g τ ++ (wS as9 (h 0) (g 0) an aq (ad 0) (ap 0) ++ (wN an (h 0) ν2 ++ (wR aq (h 0) ++ (wD γ ad δ ++ (wP γ ap π ++ (wO γ au ω3 ++ (r)))))))))) (permF _ _ _ _ _ _ _ _ _ _) 2192 ?_
  refine r_cVi 2192 0 [] [] x6 (wM γ am μ5 ++ (wB γ h σ ++ (wB γ g τ ++ (wS as9 (h 0) (g 0) an aq (ad 0) (ap 0) ++ (wN an (h 0) ν2 ++ (wR aq (h 0) ++ (wD γ ad δ ++ (wP γ ap π ++ (wO γ au ω3 ++ (r)))))))))) K (ct_X10_thrown hl hc.symm) cs_L_124 ⟨rfl, rfl, rfl⟩ (dk_of tL_law_13 52 rfl) rfl rfl rfl rfl rfl (bb_ hcs hss) ?_
  refine r_perm (wB γ h σ ++ (wB γ g τ ++ (wS as9 (h 0) (g 0) an aq (ad 0) (ap 0) ++ (wN an (h 0) ν2 ++ (wR aq (h 0) ++ (wD γ ad δ ++ (wP γ ap π ++ (wO γ au ω3 ++ (wM γ am μ5 ++ (r)))))))))) (permB _ _ _ _ _ _ _ _ _ _) 2195 ?_
  refine r_iload 2195 5 K (dk_of tL_law_13 53 rfl) rfl ?_
  refine r_ic_eq 2197 2202 K (dk_of tL_law_13 54 rfl) (by decide) hR (fun hR => ?_) (fun hR => ?_)
  · refine r_iload 2202 5 K (dk_of tL_law_13 57 rfl) rfl ?_
    refine r_if_ne 2204 2219 K (dk_of tL_law_13 58 rfl) (by decide) hR (fun hR => ?_) (fun hR => ?_)
    · refine r_aload_n 2207 3 K (dk_of tL_law_13 59 rfl) rfl rfl ?_
      refine r_iconst 2208 (0 : Int32) K (dk_of tL_law_13 60 rfl) (by decide) ?_
      refine r_lald 2209 60 K (dk_of tL_law_13 61 rfl) rfl (vpd (by decide)) ?_
      refine r_iload 2210 6 K (dk_of tL_law_13 62 rfl) rfl ?_
      refine r_i2l 2212 K (dk_of tL_law_13 63 rfl) ?_
      refine r_lcmp 2213 K (dk_of tL_law_13 64 rfl) ?_
      refine r_if_eq 2214 2219 K (dk_of tL_law_13 65 rfl) (by decide) hR (fun hR => ?_) (fun hR => ?_)
      · refine r_goto 2219 2278 K (dk_of tL_law_13 68 rfl) (by decide) ?_
        cases hR
        exact r_msk [true, true, true, true, true, false, false] [some (.ref b), some (.ref as9), some (.ref (am 0)), some (.ref au), some (.int i), none, none] rfl kk
      · exact nn_ hR
    · refine r_goto 2219 2278 K (dk_of tL_law_13 68 rfl) (by decide) ?_
      cases hR
      exact r_msk [true, true, true, true, true, false, false] [some (.ref b), some (.ref as9), some (.ref (am 0)), some (.ref au), some (.int i), none, none] rfl kk
  · exact nn_ hR

def st_30 (p1 : Int32) (σ : St) (τ : St) (ν : (Nat → Int32)) (δ : St) (π : (St × Int64)) (ω : (Nat → Int64)) (μ : St) : Option S7 := b2 (sp_L_sum p1 σ δ ω) (fun (x1 : Int32) (ω2 : (Nat → Int64)) => b2 (sp_X10_sum p1 μ) (fun (x3 : Int32) (μ4 : St) => b1 (sp_X10_thrown μ4) (fun (x5 : Int32) => if x5 = x1 then (if x1 = 0 then (if (lg_cmp (ω2 (0 : Int32).toNatClampNeg) x3.toInt64) = 0 then (some (σ, τ, ν, δ, π, ω2, μ4)) else (none)) else (some (σ, τ, ν, δ, π, ω2, μ4))) else (none))))
set_option maxHeartbeats 4000000 in
set_option maxRecDepth 100000 in
theorem law_30 {l : Launch} (hl : l.stackTraces = false) {γ : Gd} {h g : Nat → Nat} {as9 an aq : Nat} {ad ap : Nat → Nat} {au : Nat} {am : Nat → Nat} {r : va_W} {σ : St} {τ : St} {ν : (Nat → Int32)} {δ : St} {π : (St × Int64)} {ω : (Nat → Int64)} {μ : St} {X : CX} {M : MX} {y : MethodName} {tb : List ExceptionTableEntry} {b n : Nat} {xs : Nat → Int32} {i p1 : Int32} {cs ss : Nat} (K : KX l γ X M y cL_law RL 7 rmL (some .boolean) tb) (hX : va_X b n xs (ks X) (ks X).heap) (hbl : b < (ks X).heap.size) (hbA : ¬ Ax X M b) (h1 : ¬ (i + (1 : Int32) < 0 ∨ n ≤ (i + (1 : Int32)).toNatClampNeg)) (e1 : xs (i + (1 : Int32)).toNatClampNeg = p1) (hcs : cs + 1 ≤ 1124) (hss : ss + 6 ≤ 9915) {z9 : S7} (hR : some z9 = st_30 p1 σ τ ν δ π ω μ)
    (kk : V l γ X M (wB γ h z9.1 ++ (wB γ g z9.2.1 ++ (wS as9 (h 0) (g 0) an aq (ad 0) (ap 0) ++ (wN an (h 0) z9.2.2.1 ++ (wR aq (h 0) ++ (wD γ ad z9.2.2.2.1 ++ (wP γ ap z9.2.2.2.2.1 ++ (wO γ au z9.2.2.2.2.2.1 ++ (wM γ am z9.2.2.2.2.2.2 ++ (r)))))))))) [some (.ref b), some (.ref as9), some (.ref (am 0)), some (.ref au), some (.int i), none, none] (cs + 1) (ss + 6) 2278 []) : V l γ X M (wB γ h σ ++ (wB γ g τ ++ (wS as9 (h 0) (g 0) an aq (ad 0) (ap 0) ++ (wN an (h 0) ν ++ (wR aq (h 0) ++ (wD γ ad δ ++ (wP γ ap π ++ (wO γ au ω ++ (wM γ am μ ++ (r)))))))))) [some (.ref b), some (.ref as9), some (.ref (am 0)), some (.ref au), some (.int i), none, none] cs ss 2222 [] := by
  unfold st_30 at hR
  refine r_aload_n 2222 1 K (dk_of tL_law_13 69 rfl) rfl rfl ?_
  refine r_aload_n 2223 0 K (dk_of tL_law_13 70 rfl) rfl rfl ?_
  refine r_iload 2224 4 K (dk_of tL_law_13 71 rfl) rfl ?_
  refine r_iconst 2226 (1 : Int32) K (dk_of tL_law_13 72 rfl) (by decide) ?_
  refine r_iadd 2227 K (dk_of tL_law_13 73 rfl) ?_
  refine r_sldN 2228 K hX hbl hbA h1 e1 (dk_of tL_law_13 74 rfl) ?_
  refine r_aload_n 2229 3 K (dk_of tL_law_13 75 rfl) rfl rfl ?_
  obtain ⟨x1, ω2, hc, hR⟩ := o2 hR
  refine r_cSh (mc := 1) (ms := 6) (n := 3) 2230 [.ref as9, .int p1, .ref au] [] x1 (wB γ h σ ++ (wB γ g τ ++ (wS as9 (h 0) (g 0) an aq (ad 0) (ap 0) ++ (wN an (h 0) ν ++ (wR aq (h 0) ++ (wD γ ad δ ++ (wP γ ap π ++ (wO γ au ω2 ++ (wM γ am μ ++ (r)))))))))) K (ct_L_sum hl hc.symm) w995 w996 w0 cwx_sum (by decide +kernel) ⟨rfl, rfl, rfl⟩ (dk_of tL_law_13 76 rfl) rfl rfl rfl ⟨hcs, hss⟩ ?_
  refine r_istore 2233 5 [some (.ref b), some (.ref as9), some (.ref (am 0)), some (.ref au), some (.int i), some (.int x1), none] K (dk_of tL_law_13 77 rfl) rfl rfl (by decide) ?_
  refine r_aload_n 2235 2 K (dk_of tL_law_13 78 rfl) rfl rfl ?_
  refine r_aload_n 2236 0 K (dk_of tL_law_13 79 rfl) rfl rfl ?_
  refine r_iload 2237 4 K (dk_of tL_law_13 80 rfl) rfl ?_
  refine r_iconst 2239 (1 : Int32) K (dk_of tL_law_13 81 rfl) (by decide) ?_
  refine r_iadd 2240 K (dk_of tL_law_13 82 rfl) ?_
  refine r_sldN 2241 K hX hbl hbA h1 e1 (dk_of tL_law_13 83 rfl) ?_
  obtain ⟨x3, μ4, hc, hR⟩ := o2 hR
  refine r_perm (wM γ am μ ++ (wB γ h σ ++ (wB γ g τ ++ (wS as9 (h 0) (g 0) an aq (ad 0) (ap 0) ++ (wN an (h 0) ν ++ (wR aq (h 0) ++ (wD γ ad δ ++ (wP γ ap π ++ (wO γ au ω2 ++ (r)))))))))) (permF _ _ _ _ _ _ _ _ _ _) 2242 ?_
  refine r_cVi 2242 0 [.int p1] [] x3 (wM γ am μ4 ++ (wB γ h σ ++ (wB γ g τ ++ (wS as9 (h 0) (g 0) an aq (ad 0) (ap 0) ++ (wN an (h 0) ν ++ (wR aq (h 0) ++ (wD γ ad δ ++ (wP γ ap π ++ (wO γ au ω2 ++ (r)))))))))) K (ct_X10_sum hl hc.symm) cs_L_220 ⟨rfl, rfl, rfl⟩ (dk_of tL_law_13 84 rfl) rfl rfl rfl rfl rfl (bb_ hcs hss) ?_
  refine r_perm (wB γ h σ ++ (wB γ g τ ++ (wS as9 (h 0) (g 0) an aq (ad 0) (ap 0) ++ (wN an (h 0) ν ++ (wR aq (h 0) ++ (wD γ ad δ ++ (wP γ ap π ++ (wO γ au ω2 ++ (wM γ am μ4 ++ (r)))))))))) (permB _ _ _ _ _ _ _ _ _ _) 2245 ?_
  refine r_istore 2245 6 [some (.ref b), some (.ref as9), some (.ref (am 0)), some (.ref au), some (.int i), some (.int x1), some (.int x3)] K (dk_of tL_law_13 85 rfl) rfl rfl (by decide) ?_
  refine r_aload_n 2247 2 K (dk_of tL_law_13 86 rfl) rfl rfl ?_
  obtain ⟨x5, hc, hR⟩ := o1 hR
  refine r_perm (wM γ am μ4 ++ (wB γ h σ ++ (wB γ g τ ++ (wS as9 (h 0) (g 0) an aq (ad 0) (ap 0) ++ (wN an (h 0) ν ++ (wR aq (h 0) ++ (wD γ ad δ ++ (wP γ ap π ++ (wO γ au ω2 ++ (r)))))))))) (permF _ _ _ _ _ _ _ _ _ _) 2248 ?_
  refine r_cVi 2248 0 [] [] x5 (wM γ am μ4 ++ (wB γ h σ ++ (wB γ g τ ++ (wS as9 (h 0) (g 0) an aq (ad 0) (ap 0) ++ (wN an (h 0) ν ++ (wR aq (h 0) ++ (wD γ ad δ ++ (wP γ ap π ++ (wO γ au ω2 ++ (r)))))))))) K (ct_X10_thrown hl hc.symm) cs_L_124 ⟨rfl, rfl, rfl⟩ (dk_of tL_law_13 87 rfl) rfl rfl rfl rfl rfl (bb_ hcs hss) ?_
  refine r_perm (wB γ h σ ++ (wB γ g τ ++ (wS as9 (h 0) (g 0) an aq (ad 0) (ap 0) ++ (wN an (h 0) ν ++ (wR aq (h 0) ++ (wD γ ad δ ++ (wP γ ap π ++ (wO γ au ω2 ++ (wM γ am μ4 ++ (r)))))))))) (permB _ _ _ _ _ _ _ _ _ _) 2251 ?_
  refine r_iload 2251 5 K (dk_of tL_law_13 88 rfl) rfl ?_
  refine r_ic_eq 2253 2258 K (dk_of tL_law_13 89 rfl) (by decide) hR (fun hR => ?_) (fun hR => ?_)
  · refine r_iload 2258 5 K (dk_of tL_law_13 92 rfl) rfl ?_
    refine r_if_ne 2260 2275 K (dk_of tL_law_13 93 rfl) (by decide) hR (fun hR => ?_) (fun hR => ?_)
    · refine r_aload_n 2263 3 K (dk_of tL_law_13 94 rfl) rfl rfl ?_
      refine r_iconst 2264 (0 : Int32) K (dk_of tL_law_13 95 rfl) (by decide) ?_
      refine r_lald 2265 60 K (dk_of tL_law_13 96 rfl) rfl (vpd (by decide)) ?_
      refine r_iload 2266 6 K (dk_of tL_law_13 97 rfl) rfl ?_
      refine r_i2l 2268 K (dk_of tL_law_13 98 rfl) ?_
      refine r_lcmp 2269 K (dk_of tL_law_13 99 rfl) ?_
      refine r_if_eq 2270 2275 K (dk_of tL_law_14 0 rfl) (by decide) hR (fun hR => ?_) (fun hR => ?_)
      · refine r_goto 2275 2278 K (dk_of tL_law_14 3 rfl) (by decide) ?_
        cases hR
        exact r_msk [true, true, true, true, true, false, false] [some (.ref b), some (.ref as9), some (.ref (am 0)), some (.ref au), some (.int i), none, none] rfl kk
      · exact nn_ hR
    · refine r_goto 2275 2278 K (dk_of tL_law_14 3 rfl) (by decide) ?_
      cases hR
      exact r_msk [true, true, true, true, true, false, false] [some (.ref b), some (.ref as9), some (.ref (am 0)), some (.ref au), some (.int i), none, none] rfl kk
  · exact nn_ hR
