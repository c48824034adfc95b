/-! the law, by segments -/
theorem r_wide {l : Launch} {γ : Gd} {X : CX} {M : MX} {w : va_W} {L : List (Option Value)} {cs ss cs2 ss2 pc : Nat} {st : List Value} (h1 : cs ≤ cs2) (h2 : ss ≤ ss2) (k : V l γ X M w L cs2 ss2 pc st) : V l γ X M w L cs ss pc st := fun H locs ls hP hD hS hl => W.widen h1 h2 (k H locs ls hP hD hS hl)
theorem cwx_tryLay : Cond.codeWith yL_tryLay cL_tryLay 6 (some .int) [(0, 60, 61, 22), (0, 60, 67, 24), (0, 60, 72, 26)] ∈ Gw := gwc in_3_1 (i := 17) rfl rfl
theorem cwx_tryMean : Cond.codeWith yL_tryMean cL_tryMean 5 (some .int) [(0, 32, 33, 22), (0, 32, 39, 26)] ∈ Gw := gwc in_3_2 (i := 8) rfl rfl
theorem cwx_tryUse : Cond.codeWith yL_tryUse cL_tryUse 4 (some .int) [(0, 6, 7, 22), (0, 6, 12, 24), (0, 6, 16, 26)] ∈ Gw := gwc in_3_3 (i := 2) rfl rfl
theorem cwx_tryWhy : Cond.codeWith yL_tryWhy cL_tryWhy 5 (some .int) [(0, 7, 8, 22), (0, 7, 14, 24), (0, 7, 19, 26)] ∈ Gw := gwc in_3_3 (i := 34) rfl rfl

def st_su (i2 : Int32) (i3 : Int32) (i4 : Int32) (i5 : Int32) (c0 : Int32) (σ : St) (τ : St) (ν : (Nat → Int32)) (δ : St) (π : (St × Int64)) : Option (St) := b1 (sp_L_low c0 (24 : Int32)) (fun (x1 : Int32) => b1 (sp_L_low (c0 >>> ((5 : Int32) &&& 31)) (4 : Int32)) (fun (x2 : Int32) => bt2 (sp_X9_shore x1 x2 σ) (fun (x3 : Int32) (σ4 : St) => b1 (sp_L_low c0 (24 : Int32)) (fun (x5 : Int32) => bt1 (sp_X9_at x5 (3 : Int32) σ4) (fun (x6 : Int32) => if x6 ≤ 0 then (some σ4) else (b1 (sp_L_low c0 (24 : Int32)) (fun (x7 : Int32) => b1 (sp_L_low (c0 >>> ((7 : Int32) &&& 31)) (30 : Int32)) (fun (x8 : Int32) => bt2 (sp_X9_birds x7 ((1 : Int32) + x8) σ4) (fun (x9 : Int32) (σ10 : St) => some σ10)))))))))
set_option maxHeartbeats 4000000 in
set_option maxRecDepth 100000 in
theorem law_su {l : Launch} (hl : l.stackTraces = false) {γ : Gd} {h g : Nat → Nat} {as9 an aq : Nat} {ad ap : Nat → Nat} {r : va_W} {σ : St} {τ : St} {ν : (Nat → Int32)} {δ : St} {π : (St × Int64)} {X : CX} {M : MX} {y : MethodName} {tb : List ExceptionTableEntry} {b : Nat} {i2 i3 i4 i5 c0 : Int32} {cs ss : Nat} (K : KX l γ X M y cL_law RL 18 rmL (some .boolean) tb) (hcs : cs + 0 ≤ 205) (hss : ss + 0 ≤ 2077) {z9 : St} (hR : some z9 = st_su i2 i3 i4 i5 c0 σ τ ν δ π)
    (kk : V l γ X M (wB γ h z9 ++ (wB γ g τ ++ (wS as9 (h 0) (g 0) an aq (ad 0) (ap 0) ++ (wN an (h 0) ν ++ (wR aq (h 0) ++ (wD γ ad δ ++ (wP γ ap π ++ (r)))))))) [some (.ref b), some (.ref as9), some (.int i2), some (.int i3), some (.int i4), some (.int i5), none, none, none, none, none, none, none, none, none, none, none, none] cs ss 92 []) : V l γ X M (wB γ h σ ++ (wB γ g τ ++ (wS as9 (h 0) (g 0) an aq (ad 0) (ap 0) ++ (wN an (h 0) ν ++ (wR aq (h 0) ++ (wD γ ad δ ++ (wP γ ap π ++ (r)))))))) [some (.ref b), some (.ref as9), some (.int i2), some (.int i3), some (.int i4), some (.int i5), none, none, none, none, none, none, none, none, none, none, none, none] cs ss 31 [.int c0] := by
  unfold st_su at hR
  refine r_istore 31 6 [some (.ref b), some (.ref as9), some (.int i2), some (.int i3), some (.int i4), some (.int i5), some (.int c0), none, none, none, none, none, none, none, none, none, none, none] K (dk_of tL_law_0 18 rfl) rfl rfl (by decide) ?_
  refine r_aload_n 33 1 K (dk_of tL_law_0 19 rfl) rfl rfl ?_
  refine r_iload 34 6 K (dk_of tL_law_0 20 rfl) rfl ?_
  refine r_bipush 36 (24 : Int32) K (dk_of tL_law_0 21 rfl) (by decide) ?_
  obtain ⟨x1, hc, hR⟩ := o1 hR
  refine r_cSi 38 [.int c0, .int (24 : Int32)] [.ref as9] x1 (wB γ h σ ++ (wB γ g τ ++ (wS as9 (h 0) (g 0) an aq (ad 0) (ap 0) ++ (wN an (h 0) ν ++ (wR aq (h 0) ++ (wD γ ad δ ++ (wP γ ap π ++ (r)))))))) K (ct_L_low hl hc.symm) cs_L_60 ⟨rfl, rfl, rfl⟩ (dk_of tL_law_0 22 rfl) rfl rfl rfl (bbL (by omega) (by omega)) ?_
  refine r_iload 41 6 K (dk_of tL_law_0 23 rfl) rfl ?_
  refine r_iconst 43 (5 : Int32) K (dk_of tL_law_0 24 rfl) (by decide) ?_
  refine r_ishr 44 K (dk_of tL_law_0 25 rfl) ?_
  refine r_iconst 45 (4 : Int32) K (dk_of tL_law_0 26 rfl) (by decide) ?_
  obtain ⟨x2, hc, hR⟩ := o1 hR
  refine r_cSi 46 [.int (c0 >>> ((5 : Int32) &&& 31)), .int (4 : Int32)] [.int x1, .ref as9] x2 (wB γ h σ ++ (wB γ g τ ++ (wS as9 (h 0) (g 0) an aq (ad 0) (ap 0) ++ (wN an (h 0) ν ++ (wR aq (h 0) ++ (wD γ ad δ ++ (wP γ ap π ++ (r)))))))) K (ct_L_low hl hc.symm) cs_L_60 ⟨rfl, rfl, rfl⟩ (dk_of tL_law_0 27 rfl) rfl rfl rfl (bbL (by omega) (by omega)) ?_
  obtain ⟨x3, σ4, hc, hR⟩ := ot2 hR
  refine r_cVi 49 52 [.int x1, .int x2] [] x3 (wB γ h σ4 ++ (wB γ g τ ++ (wS as9 (h 0) (g 0) an aq (ad 0) (ap 0) ++ (wN an (h 0) ν ++ (wR aq (h 0) ++ (wD γ ad δ ++ (wP γ ap π ++ (r)))))))) K (ct_X9_shore hl (z := .inl (x3, σ4)) hc.symm) cs_L_63 ⟨rfl, rfl, rfl⟩ (dk_of tL_law_0 28 rfl) rfl rfl rfl rfl rfl (bbL (by omega) (by omega)) ?_
  refine r_pop 52 K (dk_of tL_law_0 29 rfl) rfl ?_
  refine r_aload_n 53 1 K (dk_of tL_law_0 30 rfl) rfl rfl ?_
  refine r_iload 54 6 K (dk_of tL_law_0 31 rfl) rfl ?_
  refine r_bipush 56 (24 : Int32) K (dk_of tL_law_0 32 rfl) (by decide) ?_
  obtain ⟨x5, hc, hR⟩ := o1 hR
  refine r_cSi 58 [.int c0, .int (24 : Int32)] [.ref as9] x5 (wB γ h σ4 ++ (wB γ g τ ++ (wS as9 (h 0) (g 0) an aq (ad 0) (ap 0) ++ (wN an (h 0) ν ++ (wR aq (h 0) ++ (wD γ ad δ ++ (wP γ ap π ++ (r)))))))) K (ct_L_low hl hc.symm) cs_L_60 ⟨rfl, rfl, rfl⟩ (dk_of tL_law_0 33 rfl) rfl rfl rfl (bbL (by omega) (by omega)) ?_
  refine r_iconst 61 (3 : Int32) K (dk_of tL_law_0 34 rfl) (by decide) ?_
  obtain ⟨x6, hc, hR⟩ := ot1 hR
  refine r_cVi 62 52 [.int x5, .int (3 : Int32)] [] x6 (wB γ h σ4 ++ (wB γ g τ ++ (wS as9 (h 0) (g 0) an aq (ad 0) (ap 0) ++ (wN an (h 0) ν ++ (wR aq (h 0) ++ (wD γ ad δ ++ (wP γ ap π ++ (r)))))))) K (ct_X9_at hl (z := .inl x6) hc.symm) cs_L_44 ⟨rfl, rfl, rfl⟩ (dk_of tL_law_0 35 rfl) rfl rfl rfl rfl rfl (bbL (by omega) (by omega)) ?_
  refine r_if_le 65 92 K (dk_of tL_law_0 36 rfl) (by decide) hR (fun hR => ?_) (fun hR => ?_)
  · have e9 := Option.some.inj hR
    rw [e9] at kk
    exact r_msk [true, true, true, true, true, true, false, true, true, true, true, true, true, true, true, true, true, true] [some (.ref b), some (.ref as9), some (.int i2), some (.int i3), some (.int i4), some (.int i5), none, none, none, none, none, none, none, none, none, none, none, none] rfl (kk)
  · refine r_aload_n 68 1 K (dk_of tL_law_0 37 rfl) rfl rfl ?_
    refine r_iload 69 6 K (dk_of tL_law_0 38 rfl) rfl ?_
    refine r_bipush 71 (24 : Int32) K (dk_of tL_law_0 39 rfl) (by decide) ?_
    obtain ⟨x7, hc, hR⟩ := o1 hR
    refine r_cSi 73 [.int c0, .int (24 : Int32)] [.ref as9] x7 (wB γ h σ4 ++ (wB γ g τ ++ (wS as9 (h 0) (g 0) an aq (ad 0) (ap 0) ++ (wN an (h 0) ν ++ (wR aq (h 0) ++ (wD γ ad δ ++ (wP γ ap π ++ (r)))))))) K (ct_L_low hl hc.symm) cs_L_60 ⟨rfl, rfl, rfl⟩ (dk_of tL_law_0 40 rfl) rfl rfl rfl (bbL (by omega) (by omega)) ?_
    refine r_iconst 76 (1 : Int32) K (dk_of tL_law_0 41 rfl) (by decide) ?_
    refine r_iload 77 6 K (dk_of tL_law_0 42 rfl) rfl ?_
    refine r_bipush 79 (7 : Int32) K (dk_of tL_law_0 43 rfl) (by decide) ?_
    refine r_ishr 81 K (dk_of tL_law_0 44 rfl) ?_
    refine r_bipush 82 (30 : Int32) K (dk_of tL_law_0 45 rfl) (by decide) ?_
    obtain ⟨x8, hc, hR⟩ := o1 hR
    refine r_cSi 84 [.int (c0 >>> ((7 : Int32) &&& 31)), .int (30 : Int32)] [.int (1 : Int32), .int x7, .ref as9] x8 (wB γ h σ4 ++ (wB γ g τ ++ (wS as9 (h 0) (g 0) an aq (ad 0) (ap 0) ++ (wN an (h 0) ν ++ (wR aq (h 0) ++ (wD γ ad δ ++ (wP γ ap π ++ (r)))))))) K (ct_L_low hl hc.symm) cs_L_60 ⟨rfl, rfl, rfl⟩ (dk_of tL_law_0 46 rfl) rfl rfl rfl (bbL (by omega) (by omega)) ?_
    refine r_iadd 87 K (dk_of tL_law_0 47 rfl) ?_
    obtain ⟨x9, σ10, hc, hR⟩ := ot2 hR
    refine r_cVi 88 52 [.int x7, .int ((1 : Int32) + x8)] [] x9 (wB γ h σ10 ++ (wB γ g τ ++ (wS as9 (h 0) (g 0) an aq (ad 0) (ap 0) ++ (wN an (h 0) ν ++ (wR aq (h 0) ++ (wD γ ad δ ++ (wP γ ap π ++ (r)))))))) K (ct_X9_birds hl (z := .inl (x9, σ10)) hc.symm) cs_L_66 ⟨rfl, rfl, rfl⟩ (dk_of tL_law_0 48 rfl) rfl rfl rfl rfl rfl (bbL (by omega) (by omega)) ?_
    refine r_pop 91 K (dk_of tL_law_0 49 rfl) rfl ?_
    have e9 := Option.some.inj hR
    rw [e9] at kk
    exact r_msk [true, true, true, true, true, true, false, true, true, true, true, true, true, true, true, true, true, true] [some (.ref b), some (.ref as9), some (.int i2), some (.int i3), some (.int i4), some (.int i5), none, none, none, none, none, none, none, none, none, none, none, none] rfl (kk)

def sg_act_940 (i5 : Int32) (y77 : Int32) (y78 : Int32) (y79 : Int32) (σ80 : St) (τ81 : St) (ν82 : (Nat → Int32)) (δ83 : St) (π84 : (St × Int64)) : Option (Int32 × Int32 × Int32 × St × St × (Nat → Int32) × St × (St × Int64)) := if (i5 - i5 / (5 : Int32) * (5 : Int32)) = (4 : Int32) then (b1 (sp_L_closes y77 y79 σ80 δ83) (fun (x85 : Int32) => if x85 = 0 then (none) else (some (y77, y78, y79, σ80, τ81, ν82, δ83, π84)))) else (some (y77, y78, y79, σ80, τ81, ν82, δ83, π84))
def sg_act_278 (i5 : Int32) (y69 : Int32) (y70 : Int32) (y71 : Int32) (σ72 : St) (τ73 : St) (ν74 : (Nat → Int32)) (δ75 : St) (π76 : (St × Int64)) : Option (Int32 × Int32 × Int32 × St × St × (Nat → Int32) × St × (St × Int64)) := sg_act_940 i5 y69 y70 y71 σ72 τ73 ν74 δ75 π76
def sg_act_243 (i5 : Int32) (y56 : Int32) (y57 : Int32) (y58 : Int32) (y59 : Int32) (y60 : Int32) (y61 : Int32) (y62 : Int32) (y63 : Int32) (σ64 : St) (τ65 : St) (ν66 : (Nat → Int32)) (δ67 : St) (π68 : (St × Int64)) : Option (Int32 × Int32 × Int32 × St × St × (Nat → Int32) × St × (St × Int64)) := if y62 = y63 then (if y60 = 0 then (sg_act_278 i5 y56 y57 y58 σ64 τ65 ν66 δ67 π68) else (b1 (sp_L_low (y59 >>> ((5 : Int32) &&& 31)) (100 : Int32)) (fun (x86 : Int32) => bt2 (sp_X9_hole y56 x86 σ64) (fun (x87 : Int32) (σ88 : St) => sl ((y58 + y61)) (fun x89 : Int32 => sg_act_278 i5 (y56 + 1) y57 x89 σ88 τ65 ν66 δ67 π68))))) else (none)
def sg_act_201 (i5 : Int32) (y39 : Int32) (y40 : Int32) (y41 : Int32) (y42 : Int32) (y43 : Int32) (y44 : Int32) (y45 : Int32) (σ46 : St) (τ47 : St) (ν48 : (Nat → Int32)) (δ49 : St) (π50 : (St × Int64)) : Option (Int32 × Int32 × Int32 × St × St × (Nat → Int32) × St × (St × Int64)) := b1 (sp_L_low y42 (99999 : Int32)) (fun (x51 : Int32) => sl ((x51 - x51 / (9000 : Int32) * (9000 : Int32))) (fun x52 : Int32 => b1 (sp_L_low y42 (99999 : Int32)) (fun (x53 : Int32) => b2 (sp_L_tryLay (2 : Int32) y44 x53 (0 : Int32) σ46) (fun (x54 : Int32) (σ55 : St) => if y45 = 0 then (sg_act_243 i5 y39 y40 y41 y43 y45 x52 x54 (-200 : Int32) σ55 τ47 ν48 δ49 π50) else (sg_act_243 i5 y39 y40 y41 y43 y45 x52 x54 y39 σ55 τ47 ν48 δ49 π50)))))
def sg_act_200 (i5 : Int32) (y28 : Int32) (y29 : Int32) (y30 : Int32) (y31 : Int32) (y32 : Int32) (y33 : Int32) (σ34 : St) (τ35 : St) (ν36 : (Nat → Int32)) (δ37 : St) (π38 : (St × Int64)) : Option (Int32 × Int32 × Int32 × St × St × (Nat → Int32) × St × (St × Int64)) := sg_act_201 i5 y28 y29 y30 y31 y32 y33 (0 : Int32) σ34 τ35 ν36 δ37 π38
def sg_act_602 (i5 : Int32) (y171 : Int32) (y172 : Int32) (y173 : Int32) (σ174 : St) (τ175 : St) (ν176 : (Nat → Int32)) (δ177 : St) (π178 : (St × Int64)) : Option (Int32 × Int32 × Int32 × St × St × (Nat → Int32) × St × (St × Int64)) := sg_act_940 i5 y171 y172 y173 σ174 τ175 ν176 δ177 π178
def sg_act_564 (i5 : Int32) (y156 : Int32) (y157 : Int32) (y158 : Int32) (y159 : Int32) (y160 : Int32) (y161 : Int32) (y162 : Int32) (y163 : Int32) (y164 : Int32) (σ165 : St) (τ166 : St) (ν167 : (Nat → Int32)) (δ168 : St) (π169 : (St × Int64)) : Option (Int32 × Int32 × Int32 × St × St × (Nat → Int32) × St × (St × Int64)) := if y162 = (y163 + y164) then (b1 (sp_L_low (y159 >>> ((7 : Int32) &&& 31)) (3 : Int32)) (fun (x170 : Int32) => if x170 = (1 : Int32) then (if y161 < 0 then (sg_act_602 i5 y156 y157 y158 σ165 τ166 ν167 δ168 π169) else (bt1 (sp_X9_sum (8 : Int32) σ165 δ168) (fun (x179 : Int32) => if x179 = (y160 - y161) then (sg_act_602 i5 y156 y157 y158 σ165 τ166 ν167 δ168 π169) else (none)))) else (sg_act_602 i5 y156 y157 y158 σ165 τ166 ν167 δ168 π169))) else (none)
def sg_act_545 (i5 : Int32) (y142 : Int32) (y143 : Int32) (y144 : Int32) (y145 : Int32) (y146 : Int32) (y147 : Int32) (y148 : Int32) (y149 : Int32) (σ150 : St) (τ151 : St) (ν152 : (Nat → Int32)) (δ153 : St) (π154 : (St × Int64)) : Option (Int32 × Int32 × Int32 × St × St × (Nat → Int32) × St × (St × Int64)) := bt1 (sp_X9_sum (11 : Int32) σ150 δ153) (fun (x155 : Int32) => if y149 = 0 then (sg_act_564 i5 y142 y143 y144 y145 y146 y148 x155 y147 (0 : Int32) σ150 τ151 ν152 δ153 π154) else (sg_act_564 i5 y142 y143 y144 y145 y146 y148 x155 y147 y148 σ150 τ151 ν152 δ153 π154))
def sg_act_529 (i5 : Int32) (y128 : Int32) (y129 : Int32) (y130 : Int32) (y131 : Int32) (y132 : Int32) (y133 : Int32) (y134 : Int32) (y135 : Int32) (y136 : Int32) (σ137 : St) (τ138 : St) (ν139 : (Nat → Int32)) (δ140 : St) (π141 : (St × Int64)) : Option (Int32 × Int32 × Int32 × St × St × (Nat → Int32) × St × (St × Int64)) := if y132 < y129 then (sg_act_545 i5 y128 y129 y130 y131 y133 y134 y135 y136 σ137 τ138 ν139 δ140 π141) else (if y135 = (-300 : Int32) then (sg_act_545 i5 y128 y129 y130 y131 y133 y134 y135 y136 σ137 τ138 ν139 δ140 π141) else (none))
def sg_act_528 (i5 : Int32) (y115 : Int32) (y116 : Int32) (y117 : Int32) (y118 : Int32) (y119 : Int32) (y120 : Int32) (y121 : Int32) (y122 : Int32) (σ123 : St) (τ124 : St) (ν125 : (Nat → Int32)) (δ126 : St) (π127 : (St × Int64)) : Option (Int32 × Int32 × Int32 × St × St × (Nat → Int32) × St × (St × Int64)) := sg_act_529 i5 y115 y116 y117 y118 y119 y120 y121 y122 (0 : Int32) σ123 τ124 ν125 δ126 π127
def sg_act_784 (i5 : Int32) (y229 : Int32) (y230 : Int32) (y231 : Int32) (σ232 : St) (τ233 : St) (ν234 : (Nat → Int32)) (δ235 : St) (π236 : (St × Int64)) : Option (Int32 × Int32 × Int32 × St × St × (Nat → Int32) × St × (St × Int64)) := sg_act_940 i5 y229 y230 y231 σ232 τ233 ν234 δ235 π236
def sg_act_762 (i5 : Int32) (y218 : Int32) (y219 : Int32) (y220 : Int32) (y221 : Int32) (y222 : Int32) (y223 : Int32) (σ224 : St) (τ225 : St) (ν226 : (Nat → Int32)) (δ227 : St) (π228 : (St × Int64)) : Option (Int32 × Int32 × Int32 × St × St × (Nat → Int32) × St × (St × Int64)) := if y223 < 0 then (sg_act_784 i5 y218 y219 y220 σ224 τ225 ν226 δ227 π228) else (bt1 (sp_X9_at y221 (0 : Int32) σ224) (fun (x237 : Int32) => if x237 = (y222 - y223) then (sg_act_784 i5 y218 y219 y220 σ224 τ225 ν226 δ227 π228) else (none)))
def sg_act_740 (i5 : Int32) (y253 : Int32) (y254 : Int32) (y255 : Int32) (y256 : Int32) (y257 : Int32) (y258 : Int32) (y259 : Int32) (y260 : Int32) (y261 : Int32) (y262 : Int32) (y263 : Int32) (σ264 : St) (τ265 : St) (ν266 : (Nat → Int32)) (δ267 : St) (π268 : (St × Int64)) : Option (Int32 × Int32 × Int32 × St × St × (Nat → Int32) × St × (St × Int64)) := if y262 = y263 then (if y258 < y257 then (none) else (if ((y258 - y257) + (1 : Int32)) < y259 then (none) else (sg_act_762 i5 y253 y254 y255 y256 y260 y261 σ264 τ265 ν266 δ267 π268))) else (none)
def sg_act_730 (i5 : Int32) (y238 : Int32) (y239 : Int32) (y240 : Int32) (y241 : Int32) (y242 : Int32) (y243 : Int32) (y244 : Int32) (y245 : Int32) (y246 : Int32) (y247 : Int32) (σ248 : St) (τ249 : St) (ν250 : (Nat → Int32)) (δ251 : St) (π252 : (St × Int64)) : Option (Int32 × Int32 × Int32 × St × St × (Nat → Int32) × St × (St × Int64)) := if y244 = 0 then (sg_act_740 i5 y238 y239 y240 y241 y242 y243 y244 y245 y246 y247 (1 : Int32) σ248 τ249 ν250 δ251 π252) else (sg_act_740 i5 y238 y239 y240 y241 y242 y243 y244 y245 y246 y247 (0 : Int32) σ248 τ249 ν250 δ251 π252)
def sg_act_706 (i5 : Int32) (y202 : Int32) (y203 : Int32) (y204 : Int32) (y205 : Int32) (y206 : Int32) (y207 : Int32) (y208 : Int32) (y209 : Int32) (y210 : Int32) (y211 : Int32) (y212 : Int32) (σ213 : St) (τ214 : St) (ν215 : (Nat → Int32)) (δ216 : St) (π217 : (St × Int64)) : Option (Int32 × Int32 × Int32 × St × St × (Nat → Int32) × St × (St × Int64)) := if y211 = y212 then (if y206 = 0 then (sg_act_762 i5 y202 y203 y204 y205 y210 y211 σ213 τ214 ν215 δ216 π217) else (if y207 = 0 then (sg_act_730 i5 y202 y203 y204 y205 y207 y208 y209 y210 y211 (1 : Int32) σ213 τ214 ν215 δ216 π217) else (sg_act_730 i5 y202 y203 y204 y205 y207 y208 y209 y210 y211 (0 : Int32) σ213 τ214 ν215 δ216 π217))) else (none)
def sg_act_682 (i5 : Int32) (y187 : Int32) (y188 : Int32) (y189 : Int32) (y190 : Int32) (y191 : Int32) (y192 : Int32) (y193 : Int32) (y194 : Int32) (y195 : Int32) (y196 : Int32) (σ197 : St) (τ198 : St) (ν199 : (Nat → Int32)) (δ200 : St) (π201 : (St × Int64)) : Option (Int32 × Int32 × Int32 × St × St × (Nat → Int32) × St × (St × Int64)) := sg_act_706 i5 y187 y188 y189 y190 y191 y192 y193 y194 y195 y196 (-200 : Int32) σ197 τ198 ν199 δ200 π201
def sg_act_426 (i5 : Int32) (y90 : Int32) (y91 : Int32) (y92 : Int32) (y93 : Int32) (y94 : Int32) (y95 : Int32) (y96 : Int32) (y97 : Int32) (σ98 : St) (τ99 : St) (ν100 : (Nat → Int32)) (δ101 : St) (π102 : (St × Int64)) : Option (Int32 × Int32 × Int32 × St × St × (Nat → Int32) × St × (St × Int64)) := if y97 = (4 : Int32) then (b1 (sp_L_low y93 (4 : Int32)) (fun (x103 : Int32) => b1 (sp_L_low (y94 >>> ((3 : Int32) &&& 31)) (10 : Int32)) (fun (x104 : Int32) => bt2 (sp_X9_wind x103 x104 σ98) (fun (x105 : Int32) (σ106 : St) => sg_act_940 i5 y90 y91 y92 σ106 τ99 ν100 δ101 π102)))) else (if y97 = (5 : Int32) then (b1 (sp_L_low y93 (y91 + (1 : Int32))) (fun (x107 : Int32) => bt1 (sp_X9_sum (8 : Int32) σ98 δ101) (fun (x108 : Int32) => bt1 (sp_X9_sum (11 : Int32) σ98 δ101) (fun (x109 : Int32) => b1 (sp_L_low (y94 >>> ((7 : Int32) &&& 31)) (3 : Int32)) (fun (x110 : Int32) => b3 (sp_L_tryMean x110 x107 y95 σ98 δ101) (fun (x111 : Int32) (σ112 : St) (δ113 : St) => b1 (sp_L_low (y94 >>> ((7 : Int32) &&& 31)) (3 : Int32)) (fun (x114 : Int32) => if (2 : Int32) ≤ x114 then (sg_act_528 i5 y90 y91 y92 y94 x107 x108 x109 x111 σ112 τ99 ν100 δ113 π102) else (if x111 ≤ 0 then (sg_act_528 i5 y90 y91 y92 y94 x107 x108 x109 x111 σ112 τ99 ν100 δ113 π102) else (sg_act_529 i5 y90 y91 y92 y94 x107 x108 x109 x111 (1 : Int32) σ112 τ99 ν100 δ113 π102))))))))) else (if y97 = (6 : Int32) then (b1 (sp_L_low y93 (2 : Int32)) (fun (x180 : Int32) => b1 (sp_L_tryWhy y95 x180 (0 : Int32) σ98) (fun (x181 : Int32) => b1 (sp_L_tryWhy y95 x180 (1 : Int32) σ98) (fun (x182 : Int32) => b1 (sp_L_tryWhy y95 x180 (2 : Int32) σ98) (fun (x183 : Int32) => bt1 (sp_X9_at y95 (0 : Int32) σ98) (fun (x184 : Int32) => b2 (sp_L_tryUse y95 x180 σ98) (fun (x185 : Int32) (σ186 : St) => if y96 = 0 then (sg_act_682 i5 y90 y91 y92 y95 y96 x181 x182 x183 x184 x185 σ186 τ99 ν100 δ101 π102) else (if x183 ≤ 0 then (if x180 = 0 then (sg_act_706 i5 y90 y91 y92 y95 y96 x181 x182 x183 x184 x185 x184 σ186 τ99 ν100 δ101 π102) else (sg_act_706 i5 y90 y91 y92 y95 y96 x181 x182 x183 x184 x185 (((9 : Int32) * x184) / (10 : Int32)) σ186 τ99 ν100 δ101 π102)) else (sg_act_682 i5 y90 y91 y92 y95 y96 x181 x182 x183 x184 x185 σ186 τ99 ν100 δ101 π102))))))))) else (bt2 (sp_X9_nextAnew y95 σ98 ν100) (fun (x269 : Int32) (ν270 : (Nat → Int32)) => b1 (sp_L_low (y94 >>> ((9 : Int32) &&& 31)) (24 : Int32)) (fun (x271 : Int32) => bt2 (sp_X9_nextAnew x271 σ98 ν270) (fun (x272 : Int32) (ν273 : (Nat → Int32)) => bt2 (sp_X9_ahead y95 (3 : Int32) σ98 τ99) (fun (x274 : Int32) (τ275 : St) => bt2 (sp_X9_ahead y95 (1 : Int32) σ98 τ275) (fun (x276 : Int32) (τ277 : St) => if x276 = x269 then (bt2 (sp_X9_ahead x271 (1 : Int32) σ98 τ277) (fun (x278 : Int32) (τ279 : St) => if x278 = x272 then (bt2 (sp_X9_pass (1 : Int32) σ98) (fun (x280 : Int32) (σ281 : St) => bt1 (sp_X9_at y95 (0 : Int32) σ281) (fun (x282 : Int32) => bt1 (sp_X9_at y95 (1 : Int32) σ281) (fun (x283 : Int32) => bt1 (sp_X9_at y95 (2 : Int32) σ281) (fun (x284 : Int32) => if ((x282 + x283) + x284) = x269 then (bt1 (sp_X9_at x271 (0 : Int32) σ281) (fun (x285 : Int32) => bt1 (sp_X9_at x271 (1 : Int32) σ281) (fun (x286 : Int32) => bt1 (sp_X9_at x271 (2 : Int32) σ281) (fun (x287 : Int32) => if ((x285 + x286) + x287) = x272 then (bt2 (sp_X9_ahead y95 (2 : Int32) σ281 τ279) (fun (x288 : Int32) (τ289 : St) => if x288 = x274 then (b1 (sp_L_low y93 (7 : Int32)) (fun (x290 : Int32) => bt2 (sp_X9_pass ((2 : Int32) + x290) σ281) (fun (x291 : Int32) (σ292 : St) => sg_act_940 i5 y90 y91 y92 σ292 τ289 ν273 δ101 π102))) else (none))) else (none))))) else (none)))))) else (none))) else (none)))))))))
def sg_act_411 (i5 : Int32) (y295 : Int32) (y296 : Int32) (y297 : Int32) (y298 : Int32) (y299 : Int32) (σ300 : St) (τ301 : St) (ν302 : (Nat → Int32)) (δ303 : St) (π304 : (St × Int64)) : Option (Int32 × Int32 × Int32 × St × St × (Nat → Int32) × St × (St × Int64)) := bt2 (sp_X9_team y298 y299 σ300) (fun (x305 : Int32) (σ306 : St) => if x305 = y296 then (sg_act_940 i5 y295 (y296 + 1) y297 σ306 τ301 ν302 δ303 π304) else (none))
def sg_act_370 (i5 : Int32) (y320 : Int32) (y321 : Int32) (y322 : Int32) (y323 : Int32) (σ324 : St) (τ325 : St) (ν326 : (Nat → Int32)) (δ327 : St) (π328 : (St × Int64)) : Option (Int32 × Int32 × Int32 × St × St × (Nat → Int32) × St × (St × Int64)) := sl ((y322 + y323)) (fun x329 : Int32 => sg_act_940 i5 y320 x329 y321 σ324 τ325 ν326 δ327 π328)
def sg_act_359 (i5 : Int32) (y311 : Int32) (y312 : Int32) (y313 : Int32) (y314 : Int32) (σ315 : St) (τ316 : St) (ν317 : (Nat → Int32)) (δ318 : St) (π319 : (St × Int64)) : Option (Int32 × Int32 × Int32 × St × St × (Nat → Int32) × St × (St × Int64)) := if y314 < 0 then (sg_act_370 i5 y311 y313 y312 (0 : Int32) σ315 τ316 ν317 δ318 π319) else (sg_act_370 i5 y311 y313 y312 (1 : Int32) σ315 τ316 ν317 δ318 π319)
def sg_act_179 (i5 : Int32) (y15 : Int32) (y16 : Int32) (y17 : Int32) (y18 : Int32) (y19 : Int32) (y20 : Int32) (y21 : Int32) (y22 : Int32) (σ23 : St) (τ24 : St) (ν25 : (Nat → Int32)) (δ26 : St) (π27 : (St × Int64)) : Option (Int32 × Int32 × Int32 × St × St × (Nat → Int32) × St × (St × Int64)) := if y22 = 0 then (if y21 = 0 then (sg_act_200 i5 y15 y16 y17 y18 y19 y20 σ23 τ24 ν25 δ26 π27) else (if (4 : Int32) ≤ y15 then (sg_act_200 i5 y15 y16 y17 y18 y19 y20 σ23 τ24 ν25 δ26 π27) else (sg_act_201 i5 y15 y16 y17 y18 y19 y20 (1 : Int32) σ23 τ24 ν25 δ26 π27))) else (if (3 : Int32) ≤ y22 then (if y22 = (3 : Int32) then (if (20 : Int32) ≤ y16 then (sg_act_426 i5 y15 y16 y17 y18 y19 y20 y21 y22 σ23 τ24 ν25 δ26 π27) else (b1 (sp_L_low y18 (50 : Int32)) (fun (x293 : Int32) => b1 (sp_L_low y19 (2 : Int32)) (fun (x294 : Int32) => if x294 = 0 then (sg_act_411 i5 y15 y16 y17 ((1 : Int32) + x293) (1 : Int32) σ23 τ24 ν25 δ26 π27) else (sg_act_411 i5 y15 y16 y17 ((1 : Int32) + x293) (0 : Int32) σ23 τ24 ν25 δ26 π27))))) else (sg_act_426 i5 y15 y16 y17 y18 y19 y20 y21 y22 σ23 τ24 ν25 δ26 π27)) else (b1 (sp_L_low y18 (9999 : Int32)) (fun (x307 : Int32) => b1 (sp_L_low (y19 >>> ((6 : Int32) &&& 31)) (9999 : Int32)) (fun (x308 : Int32) => b2 (sp_L_tryLay (y22 - (1 : Int32)) y20 x307 x308 σ23) (fun (x309 : Int32) (σ310 : St) => if x309 < 0 then (if x309 = (-200 : Int32) then (if y22 = (2 : Int32) then (if y21 = 0 then (sg_act_359 i5 y15 y16 y17 x309 σ310 τ24 ν25 δ26 π27) else (if (20 : Int32) ≤ y16 then (sg_act_359 i5 y15 y16 y17 x309 σ310 τ24 ν25 δ26 π27) else (none))) else (sg_act_359 i5 y15 y16 y17 x309 σ310 τ24 ν25 δ26 π27)) else (none)) else (if x309 = y16 then (sg_act_359 i5 y15 y16 y17 x309 σ310 τ24 ν25 δ26 π27) else (none)))))))
def sg_act_158 (i5 : Int32) (y3 : Int32) (y4 : Int32) (y5 : Int32) (y6 : Int32) (y7 : Int32) (y8 : Int32) (y9 : Int32) (σ10 : St) (τ11 : St) (ν12 : (Nat → Int32)) (δ13 : St) (π14 : (St × Int64)) : Option (Int32 × Int32 × Int32 × St × St × (Nat → Int32) × St × (St × Int64)) := if i5 = 0 then (sg_act_179 i5 y3 y4 y5 y6 y7 y8 y9 (0 : Int32) σ10 τ11 ν12 δ13 π14) else (b1 (sp_L_low (y6 >>> ((20 : Int32) &&& 31)) (11 : Int32)) (fun (x330 : Int32) => sg_act_179 i5 y3 y4 y5 y6 y7 y8 y9 x330 σ10 τ11 ν12 δ13 π14))
def st_act (i2 : Int32) (i3 : Int32) (i4 : Int32) (i5 : Int32) (c0 : Int32) (c1 : Int32) (σ : St) (τ : St) (ν : (Nat → Int32)) (δ : St) (π : (St × Int64)) : Option (Int32 × Int32 × Int32 × St × St × (Nat → Int32) × St × (St × Int64)) := b1 (sp_L_low c1 (24 : Int32)) (fun (x1 : Int32) => bt1 (sp_X9_at x1 (3 : Int32) σ) (fun (x2 : Int32) => if x2 = 0 then (sg_act_158 i5 i2 i3 i4 c0 c1 x1 (1 : Int32) σ τ ν δ π) else (sg_act_158 i5 i2 i3 i4 c0 c1 x1 (0 : Int32) σ τ ν δ π)))
set_option maxHeartbeats 4000000 in
set_option maxRecDepth 100000 in
theorem law_act {l : Launch} (hl : l.stackTraces = false) {γ : Gd} {h g : Nat → Nat} {as9 an aq : Nat} {ad ap : Nat → Nat} {r : va_W} {σ : St} {τ : St} {ν : (Nat → Int32)} {δ : St} {π : (St × Int64)} {X : CX} {M : MX} {y : MethodName} {tb : List ExceptionTableEntry} {b : Nat} {i2 i3 i4 i5 c0 c1 : Int32} {cs ss : Nat} (K : KX l γ X M y cL_law RL 18 rmL (some .boolean) tb) (hcs : cs + 4 ≤ 205) (hss : ss + 24 ≤ 2077) {z9 : Int32 × Int32 × Int32 × St × St × (Nat → Int32) × St × (St × Int64)} (hR : some z9 = st_act i2 i3 i4 i5 c0 c1 σ τ ν δ π)
    (kk : V l γ X M (wB γ h z9.2.2.2.1 ++ (wB γ g z9.2.2.2.2.1 ++ (wS as9 (h 0) (g 0) an aq (ad 0) (ap 0) ++ (wN an (h 0) z9.2.2.2.2.2.1 ++ (wR aq (h 0) ++ (wD γ ad z9.2.2.2.2.2.2.1 ++ (wP γ ap z9.2.2.2.2.2.2.2 ++ (r)))))))) [some (.ref b), some (.ref as9), some (.int z9.1), some (.int z9.2.1), some (.int z9.2.2.1), some (.int i5), none, none, none, none, none, none, none, none, none, none, none, none] (cs + 4) (ss + 24) 960 []) : V l γ X M (wB γ h σ ++ (wB γ g τ ++ (wS as9 (h 0) (g 0) an aq (ad 0) (ap 0) ++ (wN an (h 0) ν ++ (wR aq (h 0) ++ (wD γ ad δ ++ (wP γ ap π ++ (r)))))))) [some (.ref b), some (.ref as9), some (.int i2), some (.int i3), some (.int i4), some (.int i5), some (.int c0), none, none, none, none, none, none, none, none, none, none, none] cs ss 132 [.int c1] := by
  unfold st_act at hR
  have b940 : ∀ (y77 : Int32) (y78 : Int32) (y79 : Int32) (σ80 : St) (τ81 : St) (ν82 : (Nat → Int32)) (δ83 : St) (π84 : (St × Int64)), some z9 = sg_act_940 i5 y77 y78 y79 σ80 τ81 ν82 δ83 π84 → V l γ X M (wB γ h σ80 ++ (wB γ g τ81 ++ (wS as9 (h 0) (g 0) an aq (ad 0) (ap 0) ++ (wN an (h 0) ν82 ++ (wR aq (h 0) ++ (wD γ ad δ83 ++ (wP γ ap π84 ++ (r)))))))) [some (.ref b), some (.ref as9), some (.int y77), some (.int y78), some (.int y79), some (.int i5), none, none, none, none, none, none, none, none, none, none, none, none] (cs + 4) (ss + 24) 940 [] := by
    intro y77 y78 y79 σ80 τ81 ν82 δ83 π84 hR
    unfold sg_act_940 at hR
    refine r_iload 940 5 K (dk_of tL_law_4 84 rfl) rfl ?_
    refine r_iconst 942 (5 : Int32) K (dk_of tL_law_4 85 rfl) (by decide) ?_
    refine r_irem 943 K (dk_of tL_law_4 86 rfl) (by decide) ?_
    refine r_iconst 944 (4 : Int32) K (dk_of tL_law_4 87 rfl) (by decide) ?_
    refine r_ic_ne 945 960 K (dk_of tL_law_4 88 rfl) (by decide) hR (fun hR => ?_) (fun hR => ?_)
    · refine r_aload_n 948 1 K (dk_of tL_law_4 89 rfl) rfl rfl ?_
      refine r_iload_n 949 2 K (dk_of tL_law_4 90 rfl) rfl rfl ?_
      refine r_iload 950 4 K (dk_of tL_law_4 91 rfl) rfl ?_
      obtain ⟨x85, hc, hR⟩ := o1 hR
      refine r_cSi 952 [.ref as9, .int y77, .int y79] [] x85 (wB γ h σ80 ++ (wB γ g τ81 ++ (wS as9 (h 0) (g 0) an aq (ad 0) (ap 0) ++ (wN an (h 0) ν82 ++ (wR aq (h 0) ++ (wD γ ad δ83 ++ (wP γ ap π84 ++ (r)))))))) K (ct_L_closes hl hc.symm) cs_L_104 ⟨rfl, rfl, rfl⟩ (dk_of tL_law_4 92 rfl) rfl rfl rfl (bbL (by omega) (by omega)) ?_
      refine r_if_ne 955 960 K (dk_of tL_law_4 93 rfl) (by decide) hR (fun hR => ?_) (fun hR => ?_)
      · refine r_iconst 958 (0 : Int32) K (dk_of tL_law_4 94 rfl) (by decide) ?_
        exact nn_ hR
      · cases hR
        exact r_msk [true, true, true, true, true, true, true, true, true, true, true, true, true, true, true, true, true, true] [some (.ref b), some (.ref as9), some (.int y77), some (.int y78), some (.int y79), some (.int i5), none, none, none, none, none, none, none, none, none, none, none, none] rfl (kk)
    · cases hR
      exact r_msk [true, true, true, true, true, true, true, true, true, true, true, true, true, true, true, true, true, true] [some (.ref b), some (.ref as9), some (.int y77), some (.int y78), some (.int y79), some (.int i5), none, none, none, none, none, none, none, none, none, none, none, none] rfl (kk)
  have b278 : ∀ (y69 : Int32) (y70 : Int32) (y71 : Int32) (σ72 : St) (τ73 : St) (ν74 : (Nat → Int32)) (δ75 : St) (π76 : (St × Int64)), some z9 = sg_act_278 i5 y69 y70 y71 σ72 τ73 ν74 δ75 π76 → V l γ X M (wB γ h σ72 ++ (wB γ g τ73 ++ (wS as9 (h 0) (g 0) an aq (ad 0) (ap 0) ++ (wN an (h 0) ν74 ++ (wR aq (h 0) ++ (wD γ ad δ75 ++ (wP γ ap π76 ++ (r)))))))) [some (.ref b), some (.ref as9), some (.int y69), some (.int y70), some (.int y71), some (.int i5), none, none, none, none, none, none, none, none, none, none, none, none] (cs + 1) (ss + 6) 278 [] := by
    intro y69 y70 y71 σ72 τ73 ν74 δ75 π76 hR
    unfold sg_act_278 at hR
    refine r_goto 278 940 K (dk_of tL_law_1 45 rfl) (by decide) ?_
    exact r_wide (by omega) (by omega) (b940 y69 y70 y71 σ72 τ73 ν74 δ75 π76 hR)
  have b243 : ∀ (y56 : Int32) (y57 : Int32) (y58 : Int32) (y59 : Int32) (y60 : Int32) (y61 : Int32) (y62 : Int32) (y63 : Int32) (σ64 : St) (τ65 : St) (ν66 : (Nat → Int32)) (δ67 : St) (π68 : (St × Int64)), some z9 = sg_act_243 i5 y56 y57 y58 y59 y60 y61 y62 y63 σ64 τ65 ν66 δ67 π68 → V l γ X M (wB γ h σ64 ++ (wB γ g τ65 ++ (wS as9 (h 0) (g 0) an aq (ad 0) (ap 0) ++ (wN an (h 0) ν66 ++ (wR aq (h 0) ++ (wD γ ad δ67 ++ (wP γ ap π68 ++ (r)))))))) [some (.ref b), some (.ref as9), some (.int y56), some (.int y57), some (.int y58), some (.int i5), none, some (.int y59), none, none, none, some (.int y60), some (.int y61), none, none, none, none, none] (cs + 1) (ss + 6) 243 [.int y63, .int y62] := by
    intro y56 y57 y58 y59 y60 y61 y62 y63 σ64 τ65 ν66 δ67 π68 hR
    unfold sg_act_243 at hR
    refine r_ic_eq 243 248 K (dk_of tL_law_1 26 rfl) (by decide) hR (fun hR => ?_) (fun hR => ?_)
    · refine r_iload 248 11 K (dk_of tL_law_1 29 rfl) rfl ?_
      refine r_if_eq 250 278 K (dk_of tL_law_1 30 rfl) (by decide) hR (fun hR => ?_) (fun hR => ?_)
      · exact r_msk [true, true, true, true, true, true, true, false, true, true, true, false, false, true, true, true, true, true] [some (.ref b), some (.ref as9), some (.int y56), some (.int y57), some (.int y58), some (.int i5), none, none, none, none, none, none, none, none, none, none, none, none] rfl (b278 y56 y57 y58 σ64 τ65 ν66 δ67 π68 hR)
      · refine r_aload_n 253 1 K (dk_of tL_law_1 31 rfl) rfl rfl ?_
        refine r_iload_n 254 2 K (dk_of tL_law_1 32 rfl) rfl rfl ?_
        refine r_iload 255 7 K (dk_of tL_law_1 33 rfl) rfl ?_
        refine r_iconst 257 (5 : Int32) K (dk_of tL_law_1 34 rfl) (by decide) ?_
        refine r_ishr 258 K (dk_of tL_law_1 35 rfl) ?_
        refine r_bipush 259 (100 : Int32) K (dk_of tL_law_1 36 rfl) (by decide) ?_
        obtain ⟨x86, hc, hR⟩ := o1 hR
        refine r_cSi 261 [.int (y59 >>> ((5 : Int32) &&& 31)), .int (100 : Int32)] [.int y56, .ref as9] x86 (wB γ h σ64 ++ (wB γ g τ65 ++ (wS as9 (h 0) (g 0) an aq (ad 0) (ap 0) ++ (wN an (h 0) ν66 ++ (wR aq (h 0) ++ (wD γ ad δ67 ++ (wP γ ap π68 ++ (r)))))))) K (ct_L_low hl hc.symm) cs_L_60 ⟨rfl, rfl, rfl⟩ (dk_of tL_law_1 37 rfl) rfl rfl rfl (bbL (by omega) (by omega)) ?_
        obtain ⟨x87, σ88, hc, hR⟩ := ot2 hR
        refine r_cVi 264 52 [.int y56, .int x86] [] x87 (wB γ h σ88 ++ (wB γ g τ65 ++ (wS as9 (h 0) (g 0) an aq (ad 0) (ap 0) ++ (wN an (h 0) ν66 ++ (wR aq (h 0) ++ (wD γ ad δ67 ++ (wP γ ap π68 ++ (r)))))))) K (ct_X9_hole hl (z := .inl (x87, σ88)) hc.symm) cs_L_74 ⟨rfl, rfl, rfl⟩ (dk_of tL_law_1 38 rfl) rfl rfl rfl rfl rfl (bbL (by omega) (by omega)) ?_
        refine r_pop 267 K (dk_of tL_law_1 39 rfl) rfl ?_
        refine r_iload 268 4 K (dk_of tL_law_1 40 rfl) rfl ?_
        refine r_iload 270 12 K (dk_of tL_law_1 41 rfl) rfl ?_
        refine r_iadd 272 K (dk_of tL_law_1 42 rfl) ?_
        refine r_nmI hR (fun x89 hR => ?_)
        refine r_istore 273 4 [some (.ref b), some (.ref as9), some (.int y56), some (.int y57), some (.int x89), some (.int i5), none, some (.int y59), none, none, none, some (.int y60), some (.int y61), none, none, none, none, none] K (dk_of tL_law_1 43 rfl) rfl rfl (by decide) ?_
        refine r_iinc 275 2 (y56 + 1) [some (.ref b), some (.ref as9), some (.int (y56 + 1)), some (.int y57), some (.int x89), some (.int i5), none, some (.int y59), none, none, none, some (.int y60), some (.int y61), none, none, none, none, none] K (dk_of tL_law_1 44 rfl) rfl rfl rfl rfl (by decide) ?_
        exact r_msk [true, true, true, true, true, true, true, false, true, true, true, false, false, true, true, true, true, true] [some (.ref b), some (.ref as9), some (.int (y56 + 1)), some (.int y57), some (.int x89), some (.int i5), none, none, none, none, none, none, none, none, none, none, none, none] rfl (b278 (y56 + 1) y57 x89 σ88 τ65 ν66 δ67 π68 hR)
    · refine r_iconst 246 (0 : Int32) K (dk_of tL_law_1 27 rfl) (by decide) ?_
      exact nn_ hR
  have b201 : ∀ (y39 : Int32) (y40 : Int32) (y41 : Int32) (y42 : Int32) (y43 : Int32) (y44 : Int32) (y45 : Int32) (σ46 : St) (τ47 : St) (ν48 : (Nat → Int32)) (δ49 : St) (π50 : (St × Int64)), some z9 = sg_act_201 i5 y39 y40 y41 y42 y43 y44 y45 σ46 τ47 ν48 δ49 π50 → V l γ X M (wB γ h σ46 ++ (wB γ g τ47 ++ (wS as9 (h 0) (g 0) an aq (ad 0) (ap 0) ++ (wN an (h 0) ν48 ++ (wR aq (h 0) ++ (wD γ ad δ49 ++ (wP γ ap π50 ++ (r)))))))) [some (.ref b), some (.ref as9), some (.int y39), some (.int y40), some (.int y41), some (.int i5), some (.int y42), some (.int y43), some (.int y44), none, none, none, none, none, none, none, none, none] cs ss 201 [.int y45] := by
    intro y39 y40 y41 y42 y43 y44 y45 σ46 τ47 ν48 δ49 π50 hR
    unfold sg_act_201 at hR
    refine r_istore 201 11 [some (.ref b), some (.ref as9), some (.int y39), some (.int y40), some (.int y41), some (.int i5), some (.int y42), some (.int y43), some (.int y44), none, none, some (.int y45), none, none, none, none, none, none] K (dk_of tL_law_1 6 rfl) rfl rfl (by decide) ?_
    refine r_iload 203 6 K (dk_of tL_law_1 7 rfl) rfl ?_
    refine r_ldc 205 99999 K (dk_of tL_law_1 8 rfl) w894 ?_
    obtain ⟨x51, hc, hR⟩ := o1 hR
    refine r_cSi 207 [.int y42, .int (99999 : Int32)] [] x51 (wB γ h σ46 ++ (wB γ g τ47 ++ (wS as9 (h 0) (g 0) an aq (ad 0) (ap 0) ++ (wN an (h 0) ν48 ++ (wR aq (h 0) ++ (wD γ ad δ49 ++ (wP γ ap π50 ++ (r)))))))) K (ct_L_low hl hc.symm) cs_L_60 ⟨rfl, rfl, rfl⟩ (dk_of tL_law_1 9 rfl) rfl rfl rfl (bbL (by omega) (by omega)) ?_
    refine r_sipush 210 (9000 : Int32) K (dk_of tL_law_1 10 rfl) (by decide) ?_
    refine r_irem 213 K (dk_of tL_law_1 11 rfl) (by decide) ?_
    refine r_nmI hR (fun x52 hR => ?_)
    refine r_istore 214 12 [some (.ref b), some (.ref as9), some (.int y39), some (.int y40), some (.int y41), some (.int i5), some (.int y42), some (.int y43), some (.int y44), none, none, some (.int y45), some (.int x52), none, none, none, none, none] K (dk_of tL_law_1 12 rfl) rfl rfl (by decide) ?_
    refine r_aload_n 216 1 K (dk_of tL_law_1 13 rfl) rfl rfl ?_
    refine r_iconst 217 (2 : Int32) K (dk_of tL_law_1 14 rfl) (by decide) ?_
    refine r_iload 218 8 K (dk_of tL_law_1 15 rfl) rfl ?_
    refine r_iload 220 6 K (dk_of tL_law_1 16 rfl) rfl ?_
    refine r_ldc 222 99999 K (dk_of tL_law_1 17 rfl) w894 ?_
    obtain ⟨x53, hc, hR⟩ := o1 hR
    refine r_cSi 224 [.int y42, .int (99999 : Int32)] [.int y44, .int (2 : Int32), .ref as9] x53 (wB γ h σ46 ++ (wB γ g τ47 ++ (wS as9 (h 0) (g 0) an aq (ad 0) (ap 0) ++ (wN an (h 0) ν48 ++ (wR aq (h 0) ++ (wD γ ad δ49 ++ (wP γ ap π50 ++ (r)))))))) K (ct_L_low hl hc.symm) cs_L_60 ⟨rfl, rfl, rfl⟩ (dk_of tL_law_1 18 rfl) rfl rfl rfl (bbL (by omega) (by omega)) ?_
    refine r_iconst 227 (0 : Int32) K (dk_of tL_law_1 19 rfl) (by decide) ?_
    obtain ⟨x54, σ55, hc, hR⟩ := o2 hR
    refine r_cSh (mc := 1) (ms := 6) (n := 5) 228 [.ref as9, .int (2 : Int32), .int y44, .int x53, .int (0 : Int32)] [] x54 (wB γ h σ55 ++ (wB γ g τ47 ++ (wS as9 (h 0) (g 0) an aq (ad 0) (ap 0) ++ (wN an (h 0) ν48 ++ (wR aq (h 0) ++ (wD γ ad δ49 ++ (wP γ ap π50 ++ (r)))))))) K (ct_L_tryLay hl hc.symm) w775 w776 w0 cwx_tryLay (by decide +kernel) ⟨rfl, rfl, rfl⟩ (dk_of tL_law_1 20 rfl) rfl rfl rfl (aaL (by omega) (by omega)) ?_
    show V l γ X M (wB γ h σ55 ++ (wB γ g τ47 ++ (wS as9 (h 0) (g 0) an aq (ad 0) (ap 0) ++ (wN an (h 0) ν48 ++ (wR aq (h 0) ++ (wD γ ad δ49 ++ (wP γ ap π50 ++ (r)))))))) [some (.ref b), some (.ref as9), some (.int y39), some (.int y40), some (.int y41), some (.int i5), some (.int y42), some (.int y43), some (.int y44), none, none, some (.int y45), some (.int x52), none, none, none, none, none] (cs + 1) (ss + 6) 231 [.int x54]
    refine r_iload 231 11 K (dk_of tL_law_1 21 rfl) rfl ?_
    refine r_if_eq 233 240 K (dk_of tL_law_1 22 rfl) (by decide) hR (fun hR => ?_) (fun hR => ?_)
    · refine r_sipush 240 (-200 : Int32) K (dk_of tL_law_1 25 rfl) (by decide) ?_
      exact r_msk [true, true, true, true, true, true, false, true, false, true, true, true, true, true, true, true, true, true] [some (.ref b), some (.ref as9), some (.int y39), some (.int y40), some (.int y41), some (.int i5), none, some (.int y43), none, none, none, some (.int y45), some (.int x52), none, none, none, none, none] rfl (b243 y39 y40 y41 y43 y45 x52 x54 (-200 : Int32) σ55 τ47 ν48 δ49 π50 hR)
    · refine r_iload_n 236 2 K (dk_of tL_law_1 23 rfl) rfl rfl ?_
      refine r_goto 237 243 K (dk_of tL_law_1 24 rfl) (by decide) ?_
      exact r_msk [true, true, true, true, true, true, false, true, false, true, true, true, true, true, true, true, true, true] [some (.ref b), some (.ref as9), some (.int y39), some (.int y40), some (.int y41), some (.int i5), none, some (.int y43), none, none, none, some (.int y45), some (.int x52), none, none, none, none, none] rfl (b243 y39 y40 y41 y43 y45 x52 x54 y39 σ55 τ47 ν48 δ49 π50 hR)
  have b200 : ∀ (y28 : Int32) (y29 : Int32) (y30 : Int32) (y31 : Int32) (y32 : Int32) (y33 : Int32) (σ34 : St) (τ35 : St) (ν36 : (Nat → Int32)) (δ37 : St) (π38 : (St × Int64)), some z9 = sg_act_200 i5 y28 y29 y30 y31 y32 y33 σ34 τ35 ν36 δ37 π38 → V l γ X M (wB γ h σ34 ++ (wB γ g τ35 ++ (wS as9 (h 0) (g 0) an aq (ad 0) (ap 0) ++ (wN an (h 0) ν36 ++ (wR aq (h 0) ++ (wD γ ad δ37 ++ (wP γ ap π38 ++ (r)))))))) [some (.ref b), some (.ref as9), some (.int y28), some (.int y29), some (.int y30), some (.int i5), some (.int y31), some (.int y32), some (.int y33), none, none, none, none, none, none, none, none, none] cs ss 200 [] := by
    intro y28 y29 y30 y31 y32 y33 σ34 τ35 ν36 δ37 π38 hR
    unfold sg_act_200 at hR
    refine r_iconst 200 (0 : Int32) K (dk_of tL_law_1 5 rfl) (by decide) ?_
    exact b201 y28 y29 y30 y31 y32 y33 (0 : Int32) σ34 τ35 ν36 δ37 π38 hR
  have b602 : ∀ (y171 : Int32) (y172 : Int32) (y173 : Int32) (σ174 : St) (τ175 : St) (ν176 : (Nat → Int32)) (δ177 : St) (π178 : (St × Int64)), some z9 = sg_act_602 i5 y171 y172 y173 σ174 τ175 ν176 δ177 π178 → V l γ X M (wB γ h σ174 ++ (wB γ g τ175 ++ (wS as9 (h 0) (g 0) an aq (ad 0) (ap 0) ++ (wN an (h 0) ν176 ++ (wR aq (h 0) ++ (wD γ ad δ177 ++ (wP γ ap π178 ++ (r)))))))) [some (.ref b), some (.ref as9), some (.int y171), some (.int y172), some (.int y173), some (.int i5), none, none, none, none, none, none, none, none, none, none, none, none] (cs + 1) (ss + 6) 602 [] := by
    intro y171 y172 y173 σ174 τ175 ν176 δ177 π178 hR
    unfold sg_act_602 at hR
    refine r_goto 602 940 K (dk_of tL_law_3 8 rfl) (by decide) ?_
    exact r_wide (by omega) (by omega) (b940 y171 y172 y173 σ174 τ175 ν176 δ177 π178 hR)
  have b564 : ∀ (y156 : Int32) (y157 : Int32) (y158 : Int32) (y159 : Int32) (y160 : Int32) (y161 : Int32) (y162 : Int32) (y163 : Int32) (y164 : Int32) (σ165 : St) (τ166 : St) (ν167 : (Nat → Int32)) (δ168 : St) (π169 : (St × Int64)), some z9 = sg_act_564 i5 y156 y157 y158 y159 y160 y161 y162 y163 y164 σ165 τ166 ν167 δ168 π169 → V l γ X M (wB γ h σ165 ++ (wB γ g τ166 ++ (wS as9 (h 0) (g 0) an aq (ad 0) (ap 0) ++ (wN an (h 0) ν167 ++ (wR aq (h 0) ++ (wD γ ad δ168 ++ (wP γ ap π169 ++ (r)))))))) [some (.ref b), some (.ref as9), some (.int y156), some (.int y157), some (.int y158), some (.int i5), none, some (.int y159), none, none, none, none, some (.int y160), none, some (.int y161), none, none, none] (cs + 1) (ss + 6) 564 [.int y164, .int y163, .int y162] := by
    intro y156 y157 y158 y159 y160 y161 y162 y163 y164 σ165 τ166 ν167 δ168 π169 hR
    unfold sg_act_564 at hR
    refine r_iadd 564 K (dk_of tL_law_2 88 rfl) ?_
    refine r_ic_ne 565 600 K (dk_of tL_law_2 89 rfl) (by decide) hR (fun hR => ?_) (fun hR => ?_)
    · refine r_iload 568 7 K (dk_of tL_law_2 90 rfl) rfl ?_
      refine r_bipush 570 (7 : Int32) K (dk_of tL_law_2 91 rfl) (by decide) ?_
      refine r_ishr 572 K (dk_of tL_law_2 92 rfl) ?_
      refine r_iconst 573 (3 : Int32) K (dk_of tL_law_2 93 rfl) (by decide) ?_
      obtain ⟨x170, hc, hR⟩ := o1 hR
      refine r_cSi 574 [.int (y159 >>> ((7 : Int32) &&& 31)), .int (3 : Int32)] [] x170 (wB γ h σ165 ++ (wB γ g τ166 ++ (wS as9 (h 0) (g 0) an aq (ad 0) (ap 0) ++ (wN an (h 0) ν167 ++ (wR aq (h 0) ++ (wD γ ad δ168 ++ (wP γ ap π169 ++ (r)))))))) K (ct_L_low hl hc.symm) cs_L_60 ⟨rfl, rfl, rfl⟩ (dk_of tL_law_2 94 rfl) rfl rfl rfl (bbL (by omega) (by omega)) ?_
      refine r_iconst 577 (1 : Int32) K (dk_of tL_law_2 95 rfl) (by decide) ?_
      refine r_ic_ne 578 602 K (dk_of tL_law_2 96 rfl) (by decide) hR (fun hR => ?_) (fun hR => ?_)
      · refine r_iload 581 14 K (dk_of tL_law_2 97 rfl) rfl ?_
        refine r_if_lt 583 602 K (dk_of tL_law_2 98 rfl) (by decide) hR (fun hR => ?_) (fun hR => ?_)
        · exact r_msk [true, true, true, true, true, true, true, false, true, true, true, true, false, true, false, true, true, true] [some (.ref b), some (.ref as9), some (.int y156), some (.int y157), some (.int y158), some (.int i5), none, none, none, none, none, none, none, none, none, none, none, none] rfl (b602 y156 y157 y158 σ165 τ166 ν167 δ168 π169 hR)
        · refine r_aload_n 586 1 K (dk_of tL_law_2 99 rfl) rfl rfl ?_
          refine r_bipush 587 (8 : Int32) K (dk_of tL_law_3 0 rfl) (by decide) ?_
          obtain ⟨x179, hc, hR⟩ := ot1 hR
          refine r_cVi 589 52 [.int (8 : Int32)] [] x179 (wB γ h σ165 ++ (wB γ g τ166 ++ (wS as9 (h 0) (g 0) an aq (ad 0) (ap 0) ++ (wN an (h 0) ν167 ++ (wR aq (h 0) ++ (wD γ ad δ168 ++ (wP γ ap π169 ++ (r)))))))) K (ct_X9_sum hl (z := .inl x179) hc.symm) cs_L_50 ⟨rfl, rfl, rfl⟩ (dk_of tL_law_3 1 rfl) rfl rfl rfl rfl rfl (bbL (by omega) (by omega)) ?_
          refine r_iload 592 12 K (dk_of tL_law_3 2 rfl) rfl ?_
          refine r_iload 594 14 K (dk_of tL_law_3 3 rfl) rfl ?_
          refine r_isub 596 K (dk_of tL_law_3 4 rfl) ?_
          refine r_ic_eq 597 602 K (dk_of tL_law_3 5 rfl) (by decide) hR (fun hR => ?_) (fun hR => ?_)
          · exact r_msk [true, true, true, true, true, true, true, false, true, true, true, true, false, true, false, true, true, true] [some (.ref b), some (.ref as9), some (.int y156), some (.int y157), some (.int y158), some (.int i5), none, none, none, none, none, none, none, none, none, none, none, none] rfl (b602 y156 y157 y158 σ165 τ166 ν167 δ168 π169 hR)
          · refine r_iconst 600 (0 : Int32) K (dk_of tL_law_3 6 rfl) (by decide) ?_
            exact nn_ hR
      · exact r_msk [true, true, true, true, true, true, true, false, true, true, true, true, false, true, false, true, true, true] [some (.ref b), some (.ref as9), some (.int y156), some (.int y157), some (.int y158), some (.int i5), none, none, none, none, none, none, none, none, none, none, none, none] rfl (b602 y156 y157 y158 σ165 τ166 ν167 δ168 π169 hR)
    · refine r_iconst 600 (0 : Int32) K (dk_of tL_law_3 6 rfl) (by decide) ?_
      exact nn_ hR
  have b545 : ∀ (y142 : Int32) (y143 : Int32) (y144 : Int32) (y145 : Int32) (y146 : Int32) (y147 : Int32) (y148 : Int32) (y149 : Int32) (σ150 : St) (τ151 : St) (ν152 : (Nat → Int32)) (δ153 : St) (π154 : (St × Int64)), some z9 = sg_act_545 i5 y142 y143 y144 y145 y146 y147 y148 y149 σ150 τ151 ν152 δ153 π154 → V l γ X M (wB γ h σ150 ++ (wB γ g τ151 ++ (wS as9 (h 0) (g 0) an aq (ad 0) (ap 0) ++ (wN an (h 0) ν152 ++ (wR aq (h 0) ++ (wD γ ad δ153 ++ (wP γ ap π154 ++ (r)))))))) [some (.ref b), some (.ref as9), some (.int y142), some (.int y143), some (.int y144), some (.int i5), none, some (.int y145), none, none, none, none, some (.int y146), some (.int y147), some (.int y148), some (.int y149), none, none] (cs + 1) (ss + 6) 545 [] := by
    intro y142 y143 y144 y145 y146 y147 y148 y149 σ150 τ151 ν152 δ153 π154 hR
    unfold sg_act_545 at hR
    refine r_aload_n 545 1 K (dk_of tL_law_2 79 rfl) rfl rfl ?_
    refine r_bipush 546 (11 : Int32) K (dk_of tL_law_2 80 rfl) (by decide) ?_
    obtain ⟨x155, hc, hR⟩ := ot1 hR
    refine r_cVi 548 52 [.int (11 : Int32)] [] x155 (wB γ h σ150 ++ (wB γ g τ151 ++ (wS as9 (h 0) (g 0) an aq (ad 0) (ap 0) ++ (wN an (h 0) ν152 ++ (wR aq (h 0) ++ (wD γ ad δ153 ++ (wP γ ap π154 ++ (r)))))))) K (ct_X9_sum hl (z := .inl x155) hc.symm) cs_L_50 ⟨rfl, rfl, rfl⟩ (dk_of tL_law_2 81 rfl) rfl rfl rfl rfl rfl (bbL (by omega) (by omega)) ?_
    refine r_iload 551 13 K (dk_of tL_law_2 82 rfl) rfl ?_
    refine r_iload 553 15 K (dk_of tL_law_2 83 rfl) rfl ?_
    refine r_if_eq 555 563 K (dk_of tL_law_2 84 rfl) (by decide) hR (fun hR => ?_) (fun hR => ?_)
    · refine r_iconst 563 (0 : Int32) K (dk_of tL_law_2 87 rfl) (by decide) ?_
      exact r_msk [true, true, true, true, true, true, true, true, true, true, true, true, true, false, true, false, true, true] [some (.ref b), some (.ref as9), some (.int y142), some (.int y143), some (.int y144), some (.int i5), none, some (.int y145), none, none, none, none, some (.int y146), none, some (.int y148), none, none, none] rfl (b564 y142 y143 y144 y145 y146 y148 x155 y147 (0 : Int32) σ150 τ151 ν152 δ153 π154 hR)
    · refine r_iload 558 14 K (dk_of tL_law_2 85 rfl) rfl ?_
      refine r_goto 560 564 K (dk_of tL_law_2 86 rfl) (by decide) ?_
      exact r_msk [true, true, true, true, true, true, true, true, true, true, true, true, true, false, true, false, true, true] [some (.ref b), some (.ref as9), some (.int y142), some (.int y143), some (.int y144), some (.int i5), none, some (.int y145), none, none, none, none, some (.int y146), none, some (.int y148), none, none, none] rfl (b564 y142 y143 y144 y145 y146 y148 x155 y147 y148 σ150 τ151 ν152 δ153 π154 hR)
  have b529 : ∀ (y128 : Int32) (y129 : Int32) (y130 : Int32) (y131 : Int32) (y132 : Int32) (y133 : Int32) (y134 : Int32) (y135 : Int32) (y136 : Int32) (σ137 : St) (τ138 : St) (ν139 : (Nat → Int32)) (δ140 : St) (π141 : (St × Int64)), some z9 = sg_act_529 i5 y128 y129 y130 y131 y132 y133 y134 y135 y136 σ137 τ138 ν139 δ140 π141 → V l γ X M (wB γ h σ137 ++ (wB γ g τ138 ++ (wS as9 (h 0) (g 0) an aq (ad 0) (ap 0) ++ (wN an (h 0) ν139 ++ (wR aq (h 0) ++ (wD γ ad δ140 ++ (wP γ ap π141 ++ (r)))))))) [some (.ref b), some (.ref as9), some (.int y128), some (.int y129), some (.int y130), some (.int i5), none, some (.int y131), none, none, none, some (.int y132), some (.int y133), some (.int y134), some (.int y135), none, none, none] (cs + 1) (ss + 6) 529 [.int y136] := by
    intro y128 y129 y130 y131 y132 y133 y134 y135 y136 σ137 τ138 ν139 δ140 π141 hR
    unfold sg_act_529 at hR
    refine r_istore 529 15 [some (.ref b), some (.ref as9), some (.int y128), some (.int y129), some (.int y130), some (.int i5), none, some (.int y131), none, none, none, some (.int y132), some (.int y133), some (.int y134), some (.int y135), some (.int y136), none, none] K (dk_of tL_law_2 72 rfl) rfl rfl (by decide) ?_
    refine r_iload 531 11 K (dk_of tL_law_2 73 rfl) rfl ?_
    refine r_iload_n 533 3 K (dk_of tL_law_2 74 rfl) rfl rfl ?_
    refine r_ic_lt 534 545 K (dk_of tL_law_2 75 rfl) (by decide) hR (fun hR => ?_) (fun hR => ?_)
    · exact r_msk [true, true, true, true, true, true, true, true, true, true, true, false, true, true, true, true, true, true] [some (.ref b), some (.ref as9), some (.int y128), some (.int y129), some (.int y130), some (.int i5), none, some (.int y131), none, none, none, none, some (.int y133), some (.int y134), some (.int y135), some (.int y136), none, none] rfl (b545 y128 y129 y130 y131 y133 y134 y135 y136 σ137 τ138 ν139 δ140 π141 hR)
    · refine r_iload 537 14 K (dk_of tL_law_2 76 rfl) rfl ?_
      refine r_sipush 539 (-300 : Int32) K (dk_of tL_law_2 77 rfl) (by decide) ?_
      refine r_ic_ne 542 600 K (dk_of tL_law_2 78 rfl) (by decide) hR (fun hR => ?_) (fun hR => ?_)
      · exact r_msk [true, true, true, true, true, true, true, true, true, true, true, false, true, true, true, true, true, true] [some (.ref b), some (.ref as9), some (.int y128), some (.int y129), some (.int y130), some (.int i5), none, some (.int y131), none, none, none, none, some (.int y133), some (.int y134), some (.int y135), some (.int y136), none, none] rfl (b545 y128 y129 y130 y131 y133 y134 y135 y136 σ137 τ138 ν139 δ140 π141 hR)
      · refine r_iconst 600 (0 : Int32) K (dk_of tL_law_3 6 rfl) (by decide) ?_
        exact nn_ hR
  have b528 : ∀ (y115 : Int32) (y116 : Int32) (y117 : Int32) (y118 : Int32) (y119 : Int32) (y120 : Int32) (y121 : Int32) (y122 : Int32) (σ123 : St) (τ124 : St) (ν125 : (Nat → Int32)) (δ126 : St) (π127 : (St × Int64)), some z9 = sg_act_528 i5 y115 y116 y117 y118 y119 y120 y121 y122 σ123 τ124 ν125 δ126 π127 → V l γ X M (wB γ h σ123 ++ (wB γ g τ124 ++ (wS as9 (h 0) (g 0) an aq (ad 0) (ap 0) ++ (wN an (h 0) ν125 ++ (wR aq (h 0) ++ (wD γ ad δ126 ++ (wP γ ap π127 ++ (r)))))))) [some (.ref b), some (.ref as9), some (.int y115), some (.int y116), some (.int y117), some (.int i5), none, some (.int y118), none, none, none, some (.int y119), some (.int y120), some (.int y121), some (.int y122), none, none, none] (cs + 1) (ss + 6) 528 [] := by
    intro y115 y116 y117 y118 y119 y120 y121 y122 σ123 τ124 ν125 δ126 π127 hR
    unfold sg_act_528 at hR
    refine r_iconst 528 (0 : Int32) K (dk_of tL_law_2 71 rfl) (by decide) ?_
    exact b529 y115 y116 y117 y118 y119 y120 y121 y122 (0 : Int32) σ123 τ124 ν125 δ126 π127 hR
  have b784 : ∀ (y229 : Int32) (y230 : Int32) (y231 : Int32) (σ232 : St) (τ233 : St) (ν234 : (Nat → Int32)) (δ235 : St) (π236 : (St × Int64)), some z9 = sg_act_784 i5 y229 y230 y231 σ232 τ233 ν234 δ235 π236 → V l γ X M (wB γ h σ232 ++ (wB γ g τ233 ++ (wS as9 (h 0) (g 0) an aq (ad 0) (ap 0) ++ (wN an (h 0) ν234 ++ (wR aq (h 0) ++ (wD γ ad δ235 ++ (wP γ ap π236 ++ (r)))))))) [some (.ref b), some (.ref as9), some (.int y229), some (.int y230), some (.int y231), some (.int i5), none, none, none, none, none, none, none, none, none, none, none, none] (cs + 4) (ss + 24) 784 [] := by
    intro y229 y230 y231 σ232 τ233 ν234 δ235 π236 hR
    unfold sg_act_784 at hR
    refine r_goto 784 940 K (dk_of tL_law_3 98 rfl) (by decide) ?_
    exact b940 y229 y230 y231 σ232 τ233 ν234 δ235 π236 hR
  have b762 : ∀ (y218 : Int32) (y219 : Int32) (y220 : Int32) (y221 : Int32) (y222 : Int32) (y223 : Int32) (σ224 : St) (τ225 : St) (ν226 : (Nat → Int32)) (δ227 : St) (π228 : (St × Int64)), some z9 = sg_act_762 i5 y218 y219 y220 y221 y222 y223 σ224 τ225 ν226 δ227 π228 → V l γ X M (wB γ h σ224 ++ (wB γ g τ225 ++ (wS as9 (h 0) (g 0) an aq (ad 0) (ap 0) ++ (wN an (h 0) ν226 ++ (wR aq (h 0) ++ (wD γ ad δ227 ++ (wP γ ap π228 ++ (r)))))))) [some (.ref b), some (.ref as9), some (.int y218), some (.int y219), some (.int y220), some (.int i5), none, none, some (.int y221), none, none, none, none, none, none, some (.int y222), some (.int y223), none] (cs + 4) (ss + 24) 762 [] := by
    intro y218 y219 y220 y221 y222 y223 σ224 τ225 ν226 δ227 π228 hR
    unfold sg_act_762 at hR
    refine r_iload 762 16 K (dk_of tL_law_3 86 rfl) rfl ?_
    refine r_if_lt 764 784 K (dk_of tL_law_3 87 rfl) (by decide) hR (fun hR => ?_) (fun hR => ?_)
    · exact r_msk [true, true, true, true, true, true, true, true, false, true, true, true, true, true, true, false, false, true] [some (.ref b), some (.ref as9), some (.int y218), some (.int y219), some (.int y220), some (.int i5), none, none, none, none, none, none, none, none, none, none, none, none] rfl (b784 y218 y219 y220 σ224 τ225 ν226 δ227 π228 hR)
    · refine r_aload_n 767 1 K (dk_of tL_law_3 88 rfl) rfl rfl ?_
      refine r_iload 768 8 K (dk_of tL_law_3 89 rfl) rfl ?_
      refine r_iconst 770 (0 : Int32) K (dk_of tL_law_3 90 rfl) (by decide) ?_
      obtain ⟨x237, hc, hR⟩ := ot1 hR
      refine r_cVi 771 52 [.int y221, .int (0 : Int32)] [] x237 (wB γ h σ224 ++ (wB γ g τ225 ++ (wS as9 (h 0) (g 0) an aq (ad 0) (ap 0) ++ (wN an (h 0) ν226 ++ (wR aq (h 0) ++ (wD γ ad δ227 ++ (wP γ ap π228 ++ (r)))))))) K (ct_X9_at hl (z := .inl x237) hc.symm) cs_L_44 ⟨rfl, rfl, rfl⟩ (dk_of tL_law_3 91 rfl) rfl rfl rfl rfl rfl (bbL (by omega) (by omega)) ?_
      refine r_iload 774 15 K (dk_of tL_law_3 92 rfl) rfl ?_
      refine r_iload 776 16 K (dk_of tL_law_3 93 rfl) rfl ?_
      refine r_isub 778 K (dk_of tL_law_3 94 rfl) ?_
      refine r_ic_eq 779 784 K (dk_of tL_law_3 95 rfl) (by decide) hR (fun hR => ?_) (fun hR => ?_)
      · exact r_msk [true, true, true, true, true, true, true, true, false, true, true, true, true, true, true, false, false, true] [some (.ref b), some (.ref as9), some (.int y218), some (.int y219), some (.int y220), some (.int i5), none, none, none, none, none, none, none, none, none, none, none, none] rfl (b784 y218 y219 y220 σ224 τ225 ν226 δ227 π228 hR)
      · refine r_iconst 782 (0 : Int32) K (dk_of tL_law_3 96 rfl) (by decide) ?_
        exact nn_ hR
  have b740 : ∀ (y253 : Int32) (y254 : Int32) (y255 : Int32) (y256 : Int32) (y257 : Int32) (y258 : Int32) (y259 : Int32) (y260 : Int32) (y261 : Int32) (y262 : Int32) (y263 : Int32) (σ264 : St) (τ265 : St) (ν266 : (Nat → Int32)) (δ267 : St) (π268 : (St × Int64)), some z9 = sg_act_740 i5 y253 y254 y255 y256 y257 y258 y259 y260 y261 y262 y263 σ264 τ265 ν266 δ267 π268 → V l γ X M (wB γ h σ264 ++ (wB γ g τ265 ++ (wS as9 (h 0) (g 0) an aq (ad 0) (ap 0) ++ (wN an (h 0) ν266 ++ (wR aq (h 0) ++ (wD γ ad δ267 ++ (wP γ ap π268 ++ (r)))))))) [some (.ref b), some (.ref as9), some (.int y253), some (.int y254), some (.int y255), some (.int i5), none, none, some (.int y256), none, none, none, some (.int y257), some (.int y258), some (.int y259), some (.int y260), some (.int y261), none] (cs + 4) (ss + 24) 740 [.int y263, .int y262] := by
    intro y253 y254 y255 y256 y257 y258 y259 y260 y261 y262 y263 σ264 τ265 ν266 δ267 π268 hR
    unfold sg_act_740 at hR
    refine r_ic_ne 740 782 K (dk_of tL_law_3 75 rfl) (by decide) hR (fun hR => ?_) (fun hR => ?_)
    · refine r_iload 743 12 K (dk_of tL_law_3 76 rfl) rfl ?_
      refine r_iload 745 13 K (dk_of tL_law_3 77 rfl) rfl ?_
      refine r_ic_gt 747 782 K (dk_of tL_law_3 78 rfl) (by decide) hR (fun hR => ?_) (fun hR => ?_)
      · refine r_iconst 782 (0 : Int32) K (dk_of tL_law_3 96 rfl) (by decide) ?_
        exact nn_ hR
      · refine r_iload 750 14 K (dk_of tL_law_3 79 rfl) rfl ?_
        refine r_iload 752 13 K (dk_of tL_law_3 80 rfl) rfl ?_
        refine r_iload 754 12 K (dk_of tL_law_3 81 rfl) rfl ?_
        refine r_isub 756 K (dk_of tL_law_3 82 rfl) ?_
        refine r_iconst 757 (1 : Int32) K (dk_of tL_law_3 83 rfl) (by decide) ?_
        refine r_iadd 758 K (dk_of tL_law_3 84 rfl) ?_
        refine r_ic_gt 759 782 K (dk_of tL_law_3 85 rfl) (by decide) hR (fun hR => ?_) (fun hR => ?_)
        · refine r_iconst 782 (0 : Int32) K (dk_of tL_law_3 96 rfl) (by decide) ?_
          exact nn_ hR
        · exact r_msk [true, true, true, true, true, true, true, true, true, true, true, true, false, false, false, true, true, true] [some (.ref b), some (.ref as9), some (.int y253), some (.int y254), some (.int y255), some (.int i5), none, none, some (.int y256), none, none, none, none, none, none, some (.int y260), some (.int y261), none] rfl (b762 y253 y254 y255 y256 y260 y261 σ264 τ265 ν266 δ267 π268 hR)
    · refine r_iconst 782 (0 : Int32) K (dk_of tL_law_3 96 rfl) (by decide) ?_
      exact nn_ hR
  have b730 : ∀ (y238 : Int32) (y239 : Int32) (y240 : Int32) (y241 : Int32) (y242 : Int32) (y243 : Int32) (y244 : Int32) (y245 : Int32) (y246 : Int32) (y247 : Int32) (σ248 : St) (τ249 : St) (ν250 : (Nat → Int32)) (δ251 : St) (π252 : (St × Int64)), some z9 = sg_act_730 i5 y238 y239 y240 y241 y242 y243 y244 y245 y246 y247 σ248 τ249 ν250 δ251 π252 → V l γ X M (wB γ h σ248 ++ (wB γ g τ249 ++ (wS as9 (h 0) (g 0) an aq (ad 0) (ap 0) ++ (wN an (h 0) ν250 ++ (wR aq (h 0) ++ (wD γ ad δ251 ++ (wP γ ap π252 ++ (r)))))))) [some (.ref b), some (.ref as9), some (.int y238), some (.int y239), some (.int y240), some (.int i5), none, none, some (.int y241), none, none, none, some (.int y242), some (.int y243), some (.int y244), some (.int y245), some (.int y246), none] (cs + 4) (ss + 24) 730 [.int y247] := by
    intro y238 y239 y240 y241 y242 y243 y244 y245 y246 y247 σ248 τ249 ν250 δ251 π252 hR
    unfold sg_act_730 at hR
    refine r_iload 730 14 K (dk_of tL_law_3 70 rfl) rfl ?_
    refine r_if_ne 732 739 K (dk_of tL_law_3 71 rfl) (by decide) hR (fun hR => ?_) (fun hR => ?_)
    · refine r_iconst 735 (1 : Int32) K (dk_of tL_law_3 72 rfl) (by decide) ?_
      refine r_goto 736 740 K (dk_of tL_law_3 73 rfl) (by decide) ?_
      exact b740 y238 y239 y240 y241 y242 y243 y244 y245 y246 y247 (1 : Int32) σ248 τ249 ν250 δ251 π252 hR
    · refine r_iconst 739 (0 : Int32) K (dk_of tL_law_3 74 rfl) (by decide) ?_
      exact b740 y238 y239 y240 y241 y242 y243 y244 y245 y246 y247 (0 : Int32) σ248 τ249 ν250 δ251 π252 hR
  have b706 : ∀ (y202 : Int32) (y203 : Int32) (y204 : Int32) (y205 : Int32) (y206 : Int32) (y207 : Int32) (y208 : Int32) (y209 : Int32) (y210 : Int32) (y211 : Int32) (y212 : Int32) (σ213 : St) (τ214 : St) (ν215 : (Nat → Int32)) (δ216 : St) (π217 : (St × Int64)), some z9 = sg_act_706 i5 y202 y203 y204 y205 y206 y207 y208 y209 y210 y211 y212 σ213 τ214 ν215 δ216 π217 → V l γ X M (wB γ h σ213 ++ (wB γ g τ214 ++ (wS as9 (h 0) (g 0) an aq (ad 0) (ap 0) ++ (wN an (h 0) ν215 ++ (wR aq (h 0) ++ (wD γ ad δ216 ++ (wP γ ap π217 ++ (r)))))))) [some (.ref b), some (.ref as9), some (.int y202), some (.int y203), some (.int y204), some (.int i5), none, none, some (.int y205), some (.int y206), none, none, some (.int y207), some (.int y208), some (.int y209), some (.int y210), some (.int y211), none] (cs + 4) (ss + 24) 706 [.int y212] := by
    intro y202 y203 y204 y205 y206 y207 y208 y209 y210 y211 y212 σ213 τ214 ν215 δ216 π217 hR
    unfold sg_act_706 at hR
    refine r_istore 706 17 [some (.ref b), some (.ref as9), some (.int y202), some (.int y203), some (.int y204), some (.int i5), none, none, some (.int y205), some (.int y206), none, none, some (.int y207), some (.int y208), some (.int y209), some (.int y210), some (.int y211), some (.int y212)] K (dk_of tL_law_3 59 rfl) rfl rfl (by decide) ?_
    refine r_iload 708 16 K (dk_of tL_law_3 60 rfl) rfl ?_
    refine r_iload 710 17 K (dk_of tL_law_3 61 rfl) rfl ?_
    refine r_ic_ne 712 782 K (dk_of tL_law_3 62 rfl) (by decide) hR (fun hR => ?_) (fun hR => ?_)
    · refine r_iload 715 9 K (dk_of tL_law_3 63 rfl) rfl ?_
      refine r_if_eq 717 762 K (dk_of tL_law_3 64 rfl) (by decide) hR (fun hR => ?_) (fun hR => ?_)
      · exact r_msk [true, true, true, true, true, true, true, true, true, false, true, true, false, false, false, true, true, false] [some (.ref b), some (.ref as9), some (.int y202), some (.int y203), some (.int y204), some (.int i5), none, none, some (.int y205), none, none, none, none, none, none, some (.int y210), some (.int y211), none] rfl (b762 y202 y203 y204 y205 y210 y211 σ213 τ214 ν215 δ216 π217 hR)
      · refine r_iload 720 12 K (dk_of tL_law_3 65 rfl) rfl ?_
        refine r_if_ne 722 729 K (dk_of tL_law_3 66 rfl) (by decide) hR (fun hR => ?_) (fun hR => ?_)
        · refine r_iconst 725 (1 : Int32) K (dk_of tL_law_3 67 rfl) (by decide) ?_
          refine r_goto 726 730 K (dk_of tL_law_3 68 rfl) (by decide) ?_
          exact r_msk [true, true, true, true, true, true, true, true, true, false, true, true, true, true, true, true, true, false] [some (.ref b), some (.ref as9), some (.int y202), some (.int y203), some (.int y204), some (.int i5), none, none, some (.int y205), none, none, none, some (.int y207), some (.int y208), some (.int y209), some (.int y210), some (.int y211), none] rfl (b730 y202 y203 y204 y205 y207 y208 y209 y210 y211 (1 : Int32) σ213 τ214 ν215 δ216 π217 hR)
        · refine r_iconst 729 (0 : Int32) K (dk_of tL_law_3 69 rfl) (by decide) ?_
          exact r_msk [true, true, true, true, true, true, true, true, true, false, true, true, true, true, true, true, true, false] [some (.ref b), some (.ref as9), some (.int y202), some (.int y203), some (.int y204), some (.int i5), none, none, some (.int y205), none, none, none, some (.int y207), some (.int y208), some (.int y209), some (.int y210), some (.int y211), none] rfl (b730 y202 y203 y204 y205 y207 y208 y209 y210 y211 (0 : Int32) σ213 τ214 ν215 δ216 π217 hR)
    · refine r_iconst 782 (0 : Int32) K (dk_of tL_law_3 96 rfl) (by decide) ?_
      exact nn_ hR
  have b682 : ∀ (y187 : Int32) (y188 : Int32) (y189 : Int32) (y190 : Int32) (y191 : Int32) (y192 : Int32) (y193 : Int32) (y194 : Int32) (y195 : Int32) (y196 : Int32) (σ197 : St) (τ198 : St) (ν199 : (Nat → Int32)) (δ200 : St) (π201 : (St × Int64)), some z9 = sg_act_682 i5 y187 y188 y189 y190 y191 y192 y193 y194 y195 y196 σ197 τ198 ν199 δ200 π201 → V l γ X M (wB γ h σ197 ++ (wB γ g τ198 ++ (wS as9 (h 0) (g 0) an aq (ad 0) (ap 0) ++ (wN an (h 0) ν199 ++ (wR aq (h 0) ++ (wD γ ad δ200 ++ (wP γ ap π201 ++ (r)))))))) [some (.ref b), some (.ref as9), some (.int y187), some (.int y188), some (.int y189), some (.int i5), none, none, some (.int y190), some (.int y191), none, none, some (.int y192), some (.int y193), some (.int y194), some (.int y195), some (.int y196), none] (cs + 4) (ss + 24) 682 [] := by
    intro y187 y188 y189 y190 y191 y192 y193 y194 y195 y196 σ197 τ198 ν199 δ200 π201 hR
    unfold sg_act_682 at hR
    refine r_sipush 682 (-200 : Int32) K (dk_of tL_law_3 48 rfl) (by decide) ?_
    refine r_goto 685 706 K (dk_of tL_law_3 49 rfl) (by decide) ?_
    exact b706 y187 y188 y189 y190 y191 y192 y193 y194 y195 y196 (-200 : Int32) σ197 τ198 ν199 δ200 π201 hR
  have b426 : ∀ (y90 : Int32) (y91 : Int32) (y92 : Int32) (y93 : Int32) (y94 : Int32) (y95 : Int32) (y96 : Int32) (y97 : Int32) (σ98 : St) (τ99 : St) (ν100 : (Nat → Int32)) (δ101 : St) (π102 : (St × Int64)), some z9 = sg_act_426 i5 y90 y91 y92 y93 y94 y95 y96 y97 σ98 τ99 ν100 δ101 π102 → V l γ X M (wB γ h σ98 ++ (wB γ g τ99 ++ (wS as9 (h 0) (g 0) an aq (ad 0) (ap 0) ++ (wN an (h 0) ν100 ++ (wR aq (h 0) ++ (wD γ ad δ101 ++ (wP γ ap π102 ++ (r)))))))) [some (.ref b), some (.ref as9), some (.int y90), some (.int y91), some (.int y92), some (.int i5), some (.int y93), some (.int y94), some (.int y95), some (.int y96), some (.int y97), none, none, none, none, none, none, none] cs ss 426 [] := by
    intro y90 y91 y92 y93 y94 y95 y96 y97 σ98 τ99 ν100 δ101 π102 hR
    unfold sg_act_426 at hR
    refine r_iload 426 10 K (dk_of tL_law_2 18 rfl) rfl ?_
    refine r_iconst 428 (4 : Int32) K (dk_of tL_law_2 19 rfl) (by decide) ?_
    refine r_ic_ne 429 455 K (dk_of tL_law_2 20 rfl) (by decide) hR (fun hR => ?_) (fun hR => ?_)
    · refine r_aload_n 432 1 K (dk_of tL_law_2 21 rfl) rfl rfl ?_
      refine r_iload 433 6 K (dk_of tL_law_2 22 rfl) rfl ?_
      refine r_iconst 435 (4 : Int32) K (dk_of tL_law_2 23 rfl) (by decide) ?_
      obtain ⟨x103, hc, hR⟩ := o1 hR
      refine r_cSi 436 [.int y93, .int (4 : Int32)] [.ref as9] x103 (wB γ h σ98 ++ (wB γ g τ99 ++ (wS as9 (h 0) (g 0) an aq (ad 0) (ap 0) ++ (wN an (h 0) ν100 ++ (wR aq (h 0) ++ (wD γ ad δ101 ++ (wP γ ap π102 ++ (r)))))))) K (ct_L_low hl hc.symm) cs_L_60 ⟨rfl, rfl, rfl⟩ (dk_of tL_law_2 24 rfl) rfl rfl rfl (bbL (by omega) (by omega)) ?_
      refine r_iload 439 7 K (dk_of tL_law_2 25 rfl) rfl ?_
      refine r_iconst 441 (3 : Int32) K (dk_of tL_law_2 26 rfl) (by decide) ?_
      refine r_ishr 442 K (dk_of tL_law_2 27 rfl) ?_
      refine r_bipush 443 (10 : Int32) K (dk_of tL_law_2 28 rfl) (by decide) ?_
      obtain ⟨x104, hc, hR⟩ := o1 hR
      refine r_cSi 445 [.int (y94 >>> ((3 : Int32) &&& 31)), .int (10 : Int32)] [.int x103, .ref as9] x104 (wB γ h σ98 ++ (wB γ g τ99 ++ (wS as9 (h 0) (g 0) an aq (ad 0) (ap 0) ++ (wN an (h 0) ν100 ++ (wR aq (h 0) ++ (wD γ ad δ101 ++ (wP γ ap π102 ++ (r)))))))) K (ct_L_low hl hc.symm) cs_L_60 ⟨rfl, rfl, rfl⟩ (dk_of tL_law_2 29 rfl) rfl rfl rfl (bbL (by omega) (by omega)) ?_
      obtain ⟨x105, σ106, hc, hR⟩ := ot2 hR
      refine r_cVi 448 52 [.int x103, .int x104] [] x105 (wB γ h σ106 ++ (wB γ g τ99 ++ (wS as9 (h 0) (g 0) an aq (ad 0) (ap 0) ++ (wN an (h 0) ν100 ++ (wR aq (h 0) ++ (wD γ ad δ101 ++ (wP γ ap π102 ++ (r)))))))) K (ct_X9_wind hl (z := .inl (x105, σ106)) hc.symm) cs_L_81 ⟨rfl, rfl, rfl⟩ (dk_of tL_law_2 30 rfl) rfl rfl rfl rfl rfl (bbL (by omega) (by omega)) ?_
      refine r_pop 451 K (dk_of tL_law_2 31 rfl) rfl ?_
      refine r_goto 452 940 K (dk_of tL_law_2 32 rfl) (by decide) ?_
      exact r_msk [true, true, true, true, true, true, false, false, false, false, false, true, true, true, true, true, true, true] [some (.ref b), some (.ref as9), some (.int y90), some (.int y91), some (.int y92), some (.int i5), none, none, none, none, none, none, none, none, none, none, none, none] rfl (r_wide (by omega) (by omega) (b940 y90 y91 y92 σ106 τ99 ν100 δ101 π102 hR))
    · refine r_iload 455 10 K (dk_of tL_law_2 33 rfl) rfl ?_
      refine r_iconst 457 (5 : Int32) K (dk_of tL_law_2 34 rfl) (by decide) ?_
      refine r_ic_ne 458 605 K (dk_of tL_law_2 35 rfl) (by decide) hR (fun hR => ?_) (fun hR => ?_)
      · refine r_iload 461 6 K (dk_of tL_law_2 36 rfl) rfl ?_
        refine r_iload_n 463 3 K (dk_of tL_law_2 37 rfl) rfl rfl ?_
        refine r_iconst 464 (1 : Int32) K (dk_of tL_law_2 38 rfl) (by decide) ?_
        refine r_iadd 465 K (dk_of tL_law_2 39 rfl) ?_
        obtain ⟨x107, hc, hR⟩ := o1 hR
        refine r_cSi 466 [.int y93, .int (y91 + (1 : Int32))] [] x107 (wB γ h σ98 ++ (wB γ g τ99 ++ (wS as9 (h 0) (g 0) an aq (ad 0) (ap 0) ++ (wN an (h 0) ν100 ++ (wR aq (h 0) ++ (wD γ ad δ101 ++ (wP γ ap π102 ++ (r)))))))) K (ct_L_low hl hc.symm) cs_L_60 ⟨rfl, rfl, rfl⟩ (dk_of tL_law_2 40 rfl) rfl rfl rfl (bbL (by omega) (by omega)) ?_
        refine r_istore 469 11 [some (.ref b), some (.ref as9), some (.int y90), some (.int y91), some (.int y92), some (.int i5), some (.int y93), some (.int y94), some (.int y95), some (.int y96), some (.int y97), some (.int x107), none, none, none, none, none, none] K (dk_of tL_law_2 41 rfl) rfl rfl (by decide) ?_
        refine r_aload_n 471 1 K (dk_of tL_law_2 42 rfl) rfl rfl ?_
        refine r_bipush 472 (8 : Int32) K (dk_of tL_law_2 43 rfl) (by decide) ?_
        obtain ⟨x108, hc, hR⟩ := ot1 hR
        refine r_cVi 474 52 [.int (8 : Int32)] [] x108 (wB γ h σ98 ++ (wB γ g τ99 ++ (wS as9 (h 0) (g 0) an aq (ad 0) (ap 0) ++ (wN an (h 0) ν100 ++ (wR aq (h 0) ++ (wD γ ad δ101 ++ (wP γ ap π102 ++ (r)))))))) K (ct_X9_sum hl (z := .inl x108) hc.symm) cs_L_50 ⟨rfl, rfl, rfl⟩ (dk_of tL_law_2 44 rfl) rfl rfl rfl rfl rfl (bbL (by omega) (by omega)) ?_
        refine r_istore 477 12 [some (.ref b), some (.ref as9), some (.int y90), some (.int y91), some (.int y92), some (.int i5), some (.int y93), some (.int y94), some (.int y95), some (.int y96), some (.int y97), some (.int x107), some (.int x108), none, none, none, none, none] K (dk_of tL_law_2 45 rfl) rfl rfl (by decide) ?_
        refine r_aload_n 479 1 K (dk_of tL_law_2 46 rfl) rfl rfl ?_
        refine r_bipush 480 (11 : Int32) K (dk_of tL_law_2 47 rfl) (by decide) ?_
        obtain ⟨x109, hc, hR⟩ := ot1 hR
        refine r_cVi 482 52 [.int (11 : Int32)] [] x109 (wB γ h σ98 ++ (wB γ g τ99 ++ (wS as9 (h 0) (g 0) an aq (ad 0) (ap 0) ++ (wN an (h 0) ν100 ++ (wR aq (h 0) ++ (wD γ ad δ101 ++ (wP γ ap π102 ++ (r)))))))) K (ct_X9_sum hl (z := .inl x109) hc.symm) cs_L_50 ⟨rfl, rfl, rfl⟩ (dk_of tL_law_2 48 rfl) rfl rfl rfl rfl rfl (bbL (by omega) (by omega)) ?_
        refine r_istore 485 13 [some (.ref b), some (.ref as9), some (.int y90), some (.int y91), some (.int y92), some (.int i5), some (.int y93), some (.int y94), some (.int y95), some (.int y96), some (.int y97), some (.int x107), some (.int x108), some (.int x109), none, none, none, none] K (dk_of tL_law_2 49 rfl) rfl rfl (by decide) ?_
        refine r_aload_n 487 1 K (dk_of tL_law_2 50 rfl) rfl rfl ?_
        refine r_iload 488 7 K (dk_of tL_law_2 51 rfl) rfl ?_
        refine r_bipush 490 (7 : Int32) K (dk_of tL_law_2 52 rfl) (by decide) ?_
        refine r_ishr 492 K (dk_of tL_law_2 53 rfl) ?_
        refine r_iconst 493 (3 : Int32) K (dk_of tL_law_2 54 rfl) (by decide) ?_
        obtain ⟨x110, hc, hR⟩ := o1 hR
        refine r_cSi 494 [.int (y94 >>> ((7 : Int32) &&& 31)), .int (3 : Int32)] [.ref as9] x110 (wB γ h σ98 ++ (wB γ g τ99 ++ (wS as9 (h 0) (g 0) an aq (ad 0) (ap 0) ++ (wN an (h 0) ν100 ++ (wR aq (h 0) ++ (wD γ ad δ101 ++ (wP γ ap π102 ++ (r)))))))) K (ct_L_low hl hc.symm) cs_L_60 ⟨rfl, rfl, rfl⟩ (dk_of tL_law_2 55 rfl) rfl rfl rfl (bbL (by omega) (by omega)) ?_
        refine r_iload 497 11 K (dk_of tL_law_2 56 rfl) rfl ?_
        refine r_iload 499 8 K (dk_of tL_law_2 57 rfl) rfl ?_
        obtain ⟨x111, σ112, δ113, hc, hR⟩ := o3 hR
        refine r_cSh (mc := 1) (ms := 6) (n := 4) 501 [.ref as9, .int x110, .int x107, .int y95] [] x111 (wB γ h σ112 ++ (wB γ g τ99 ++ (wS as9 (h 0) (g 0) an aq (ad 0) (ap 0) ++ (wN an (h 0) ν100 ++ (wR aq (h 0) ++ (wD γ ad δ113 ++ (wP γ ap π102 ++ (r)))))))) K (ct_L_tryMean hl hc.symm) w806 w807 w0 cwx_tryMean (by decide +kernel) ⟨rfl, rfl, rfl⟩ (dk_of tL_law_2 58 rfl) rfl rfl rfl (aaL (by omega) (by omega)) ?_
        show V l γ X M (wB γ h σ112 ++ (wB γ g τ99 ++ (wS as9 (h 0) (g 0) an aq (ad 0) (ap 0) ++ (wN an (h 0) ν100 ++ (wR aq (h 0) ++ (wD γ ad δ113 ++ (wP γ ap π102 ++ (r)))))))) [some (.ref b), some (.ref as9), some (.int y90), some (.int y91), some (.int y92), some (.int i5), some (.int y93), some (.int y94), some (.int y95), some (.int y96), some (.int y97), some (.int x107), some (.int x108), some (.int x109), none, none, none, none] (cs + 1) (ss + 6) 504 [.int x111]
        refine r_istore 504 14 [some (.ref b), some (.ref as9), some (.int y90), some (.int y91), some (.int y92), some (.int i5), some (.int y93), some (.int y94), some (.int y95), some (.int y96), some (.int y97), some (.int x107), some (.int x108), some (.int x109), some (.int x111), none, none, none] K (dk_of tL_law_2 59 rfl) rfl rfl (by decide) ?_
        refine r_iload 506 7 K (dk_of tL_law_2 60 rfl) rfl ?_
        refine r_bipush 508 (7 : Int32) K (dk_of tL_law_2 61 rfl) (by decide) ?_
        refine r_ishr 510 K (dk_of tL_law_2 62 rfl) ?_
        refine r_iconst 511 (3 : Int32) K (dk_of tL_law_2 63 rfl) (by decide) ?_
        obtain ⟨x114, hc, hR⟩ := o1 hR
        refine r_cSi 512 [.int (y94 >>> ((7 : Int32) &&& 31)), .int (3 : Int32)] [] x114 (wB γ h σ112 ++ (wB γ g τ99 ++ (wS as9 (h 0) (g 0) an aq (ad 0) (ap 0) ++ (wN an (h 0) ν100 ++ (wR aq (h 0) ++ (wD γ ad δ113 ++ (wP γ ap π102 ++ (r)))))))) K (ct_L_low hl hc.symm) cs_L_60 ⟨rfl, rfl, rfl⟩ (dk_of tL_law_2 64 rfl) rfl rfl rfl (bbL (by omega) (by omega)) ?_
        refine r_iconst 515 (2 : Int32) K (dk_of tL_law_2 65 rfl) (by decide) ?_
        refine r_ic_ge 516 528 K (dk_of tL_law_2 66 rfl) (by decide) hR (fun hR => ?_) (fun hR => ?_)
        · exact r_msk [true, true, true, true, true, true, false, true, false, false, false, true, true, true, true, true, true, true] [some (.ref b), some (.ref as9), some (.int y90), some (.int y91), some (.int y92), some (.int i5), none, some (.int y94), none, none, none, some (.int x107), some (.int x108), some (.int x109), some (.int x111), none, none, none] rfl (b528 y90 y91 y92 y94 x107 x108 x109 x111 σ112 τ99 ν100 δ113 π102 hR)
        · refine r_iload 519 14 K (dk_of tL_law_2 67 rfl) rfl ?_
          refine r_if_le 521 528 K (dk_of tL_law_2 68 rfl) (by decide) hR (fun hR => ?_) (fun hR => ?_)
          · exact r_msk [true, true, true, true, true, true, false, true, false, false, false, true, true, true, true, true, true, true] [some (.ref b), some (.ref as9), some (.int y90), some (.int y91), some (.int y92), some (.int i5), none, some (.int y94), none, none, none, some (.int x107), some (.int x108), some (.int x109), some (.int x111), none, none, none] rfl (b528 y90 y91 y92 y94 x107 x108 x109 x111 σ112 τ99 ν100 δ113 π102 hR)
          · refine r_iconst 524 (1 : Int32) K (dk_of tL_law_2 69 rfl) (by decide) ?_
            refine r_goto 525 529 K (dk_of tL_law_2 70 rfl) (by decide) ?_
            exact r_msk [true, true, true, true, true, true, false, true, false, false, false, true, true, true, true, true, true, true] [some (.ref b), some (.ref as9), some (.int y90), some (.int y91), some (.int y92), some (.int i5), none, some (.int y94), none, none, none, some (.int x107), some (.int x108), some (.int x109), some (.int x111), none, none, none] rfl (b529 y90 y91 y92 y94 x107 x108 x109 x111 (1 : Int32) σ112 τ99 ν100 δ113 π102 hR)
      · refine r_iload 605 10 K (dk_of tL_law_3 9 rfl) rfl ?_
        refine r_bipush 607 (6 : Int32) K (dk_of tL_law_3 10 rfl) (by decide) ?_
        refine r_ic_ne 609 787 K (dk_of tL_law_3 11 rfl) (by decide) hR (fun hR => ?_) (fun hR => ?_)
        · refine r_iload 612 6 K (dk_of tL_law_3 12 rfl) rfl ?_
          refine r_iconst 614 (2 : Int32) K (dk_of tL_law_3 13 rfl) (by decide) ?_
          obtain ⟨x180, hc, hR⟩ := o1 hR
          refine r_cSi 615 [.int y93, .int (2 : Int32)] [] x180 (wB γ h σ98 ++ (wB γ g τ99 ++ (wS as9 (h 0) (g 0) an aq (ad 0) (ap 0) ++ (wN an (h 0) ν100 ++ (wR aq (h 0) ++ (wD γ ad δ101 ++ (wP γ ap π102 ++ (r)))))))) K (ct_L_low hl hc.symm) cs_L_60 ⟨rfl, rfl, rfl⟩ (dk_of tL_law_3 14 rfl) rfl rfl rfl (bbL (by omega) (by omega)) ?_
          refine r_istore 618 11 [some (.ref b), some (.ref as9), some (.int y90), some (.int y91), some (.int y92), some (.int i5), some (.int y93), some (.int y94), some (.int y95), some (.int y96), some (.int y97), some (.int x180), none, none, none, none, none, none] K (dk_of tL_law_3 15 rfl) rfl rfl (by decide) ?_
          refine r_aload_n 620 1 K (dk_of tL_law_3 16 rfl) rfl rfl ?_
          refine r_iload 621 8 K (dk_of tL_law_3 17 rfl) rfl ?_
          refine r_iload 623 11 K (dk_of tL_law_3 18 rfl) rfl ?_
          refine r_iconst 625 (0 : Int32) K (dk_of tL_law_3 19 rfl) (by decide) ?_
          obtain ⟨x181, hc, hR⟩ := o1 hR
          refine r_cSh (mc := 1) (ms := 6) (n := 4) 626 [.ref as9, .int y95, .int x180, .int (0 : Int32)] [] x181 (wB γ h σ98 ++ (wB γ g τ99 ++ (wS as9 (h 0) (g 0) an aq (ad 0) (ap 0) ++ (wN an (h 0) ν100 ++ (wR aq (h 0) ++ (wD γ ad δ101 ++ (wP γ ap π102 ++ (r)))))))) K (ct_L_tryWhy hl hc.symm) w872 w873 w0 cwx_tryWhy (by decide +kernel) ⟨rfl, rfl, rfl⟩ (dk_of tL_law_3 20 rfl) rfl rfl rfl (aaL (by omega) (by omega)) ?_
          show V l γ X M (wB γ h σ98 ++ (wB γ g τ99 ++ (wS as9 (h 0) (g 0) an aq (ad 0) (ap 0) ++ (wN an (h 0) ν100 ++ (wR aq (h 0) ++ (wD γ ad δ101 ++ (wP γ ap π102 ++ (r)))))))) [some (.ref b), some (.ref as9), some (.int y90), some (.int y91), some (.int y92), some (.int i5), some (.int y93), some (.int y94), some (.int y95), some (.int y96), some (.int y97), some (.int x180), none, none, none, none, none, none] (cs + 1) (ss + 6) 629 [.int x181]
          refine r_istore 629 12 [some (.ref b), some (.ref as9), some (.int y90), some (.int y91), some (.int y92), some (.int i5), some (.int y93), some (.int y94), some (.int y95), some (.int y96), some (.int y97), some (.int x180), some (.int x181), none, none, none, none, none] K (dk_of tL_law_3 21 rfl) rfl rfl (by decide) ?_
          refine r_aload_n 631 1 K (dk_of tL_law_3 22 rfl) rfl rfl ?_
          refine r_iload 632 8 K (dk_of tL_law_3 23 rfl) rfl ?_
          refine r_iload 634 11 K (dk_of tL_law_3 24 rfl) rfl ?_
          refine r_iconst 636 (1 : Int32) K (dk_of tL_law_3 25 rfl) (by decide) ?_
          obtain ⟨x182, hc, hR⟩ := o1 hR
          refine r_cSh (mc := 1) (ms := 6) (n := 4) 637 [.ref as9, .int y95, .int x180, .int (1 : Int32)] [] x182 (wB γ h σ98 ++ (wB γ g τ99 ++ (wS as9 (h 0) (g 0) an aq (ad 0) (ap 0) ++ (wN an (h 0) ν100 ++ (wR aq (h 0) ++ (wD γ ad δ101 ++ (wP γ ap π102 ++ (r)))))))) K (ct_L_tryWhy hl hc.symm) w872 w873 w0 cwx_tryWhy (by decide +kernel) ⟨rfl, rfl, rfl⟩ (dk_of tL_law_3 26 rfl) rfl rfl rfl (aaL (by omega) (by omega)) ?_
          show V l γ X M (wB γ h σ98 ++ (wB γ g τ99 ++ (wS as9 (h 0) (g 0) an aq (ad 0) (ap 0) ++ (wN an (h 0) ν100 ++ (wR aq (h 0) ++ (wD γ ad δ101 ++ (wP γ ap π102 ++ (r)))))))) [some (.ref b), some (.ref as9), some (.int y90), some (.int y91), some (.int y92), some (.int i5), some (.int y93), some (.int y94), some (.int y95), some (.int y96), some (.int y97), some (.int x180), some (.int x181), none, none, none, none, none] (cs + 2) (ss + 12) 640 [.int x182]
          refine r_istore 640 13 [some (.ref b), some (.ref as9), some (.int y90), some (.int y91), some (.int y92), some (.int i5), some (.int y93), some (.int y94), some (.int y95), some (.int y96), some (.int y97), some (.int x180), some (.int x181), some (.int x182), none, none, none, none] K (dk_of tL_law_3 27 rfl) rfl rfl (by decide) ?_
          refine r_aload_n 642 1 K (dk_of tL_law_3 28 rfl) rfl rfl ?_
          refine r_iload 643 8 K (dk_of tL_law_3 29 rfl) rfl ?_
          refine r_iload 645 11 K (dk_of tL_law_3 30 rfl) rfl ?_
          refine r_iconst 647 (2 : Int32) K (dk_of tL_law_3 31 rfl) (by decide) ?_
          obtain ⟨x183, hc, hR⟩ := o1 hR
          refine r_cSh (mc := 1) (ms := 6) (n := 4) 648 [.ref as9, .int y95, .int x180, .int (2 : Int32)] [] x183 (wB γ h σ98 ++ (wB γ g τ99 ++ (wS as9 (h 0) (g 0) an aq (ad 0) (ap 0) ++ (wN an (h 0) ν100 ++ (wR aq (h 0) ++ (wD γ ad δ101 ++ (wP γ ap π102 ++ (r)))))))) K (ct_L_tryWhy hl hc.symm) w872 w873 w0 cwx_tryWhy (by decide +kernel) ⟨rfl, rfl, rfl⟩ (dk_of tL_law_3 32 rfl) rfl rfl rfl (aaL (by omega) (by omega)) ?_
          show V l γ X M (wB γ h σ98 ++ (wB γ g τ99 ++ (wS as9 (h 0) (g 0) an aq (ad 0) (ap 0) ++ (wN an (h 0) ν100 ++ (wR aq (h 0) ++ (wD γ ad δ101 ++ (wP γ ap π102 ++ (r)))))))) [some (.ref b), some (.ref as9), some (.int y90), some (.int y91), some (.int y92), some (.int i5), some (.int y93), some (.int y94), some (.int y95), some (.int y96), some (.int y97), some (.int x180), some (.int x181), some (.int x182), none, none, none, none] (cs + 3) (ss + 18) 651 [.int x183]
          refine r_istore 651 14 [some (.ref b), some (.ref as9), some (.int y90), some (.int y91), some (.int y92), some (.int i5), some (.int y93), some (.int y94), some (.int y95), some (.int y96), some (.int y97), some (.int x180), some (.int x181), some (.int x182), some (.int x183), none, none, none] K (dk_of tL_law_3 33 rfl) rfl rfl (by decide) ?_
          refine r_aload_n 653 1 K (dk_of tL_law_3 34 rfl) rfl rfl ?_
          refine r_iload 654 8 K (dk_of tL_law_3 35 rfl) rfl ?_
          refine r_iconst 656 (0 : Int32) K (dk_of tL_law_3 36 rfl) (by decide) ?_
          obtain ⟨x184, hc, hR⟩ := ot1 hR
          refine r_cVi 657 52 [.int y95, .int (0 : Int32)] [] x184 (wB γ h σ98 ++ (wB γ g τ99 ++ (wS as9 (h 0) (g 0) an aq (ad 0) (ap 0) ++ (wN an (h 0) ν100 ++ (wR aq (h 0) ++ (wD γ ad δ101 ++ (wP γ ap π102 ++ (r)))))))) K (ct_X9_at hl (z := .inl x184) hc.symm) cs_L_44 ⟨rfl, rfl, rfl⟩ (dk_of tL_law_3 37 rfl) rfl rfl rfl rfl rfl (bbL (by omega) (by omega)) ?_
          refine r_istore 660 15 [some (.ref b), some (.ref as9), some (.int y90), some (.int y91), some (.int y92), some (.int i5), some (.int y93), some (.int y94), some (.int y95), some (.int y96), some (.int y97), some (.int x180), some (.int x181), some (.int x182), some (.int x183), some (.int x184), none, none] K (dk_of tL_law_3 38 rfl) rfl rfl (by decide) ?_
          refine r_aload_n 662 1 K (dk_of tL_law_3 39 rfl) rfl rfl ?_
          refine r_iload 663 8 K (dk_of tL_law_3 40 rfl) rfl ?_
          refine r_iload 665 11 K (dk_of tL_law_3 41 rfl) rfl ?_
          obtain ⟨x185, σ186, hc, hR⟩ := o2 hR
          refine r_cSh (mc := 1) (ms := 6) (n := 3) 667 [.ref as9, .int y95, .int x180] [] x185 (wB γ h σ186 ++ (wB γ g τ99 ++ (wS as9 (h 0) (g 0) an aq (ad 0) (ap 0) ++ (wN an (h 0) ν100 ++ (wR aq (h 0) ++ (wD γ ad δ101 ++ (wP γ ap π102 ++ (r)))))))) K (ct_L_tryUse hl hc.symm) w840 w841 w0 cwx_tryUse (by decide +kernel) ⟨rfl, rfl, rfl⟩ (dk_of tL_law_3 42 rfl) rfl rfl rfl (aaL (by omega) (by omega)) ?_
          show V l γ X M (wB γ h σ186 ++ (wB γ g τ99 ++ (wS as9 (h 0) (g 0) an aq (ad 0) (ap 0) ++ (wN an (h 0) ν100 ++ (wR aq (h 0) ++ (wD γ ad δ101 ++ (wP γ ap π102 ++ (r)))))))) [some (.ref b), some (.ref as9), some (.int y90), some (.int y91), some (.int y92), some (.int i5), some (.int y93), some (.int y94), some (.int y95), some (.int y96), some (.int y97), some (.int x180), some (.int x181), some (.int x182), some (.int x183), some (.int x184), none, none] (cs + 4) (ss + 24) 670 [.int x185]
          refine r_istore 670 16 [some (.ref b), some (.ref as9), some (.int y90), some (.int y91), some (.int y92), some (.int i5), some (.int y93), some (.int y94), some (.int y95), some (.int y96), some (.int y97), some (.int x180), some (.int x181), some (.int x182), some (.int x183), some (.int x184), some (.int x185), none] K (dk_of tL_law_3 43 rfl) rfl rfl (by decide) ?_
          refine r_iload 672 9 K (dk_of tL_law_3 44 rfl) rfl ?_
          refine r_if_eq 674 682 K (dk_of tL_law_3 45 rfl) (by decide) hR (fun hR => ?_) (fun hR => ?_)
          · exact r_msk [true, true, true, true, true, true, false, false, true, true, false, false, true, true, true, true, true, true] [some (.ref b), some (.ref as9), some (.int y90), some (.int y91), some (.int y92), some (.int i5), none, none, some (.int y95), some (.int y96), none, none, some (.int x181), some (.int x182), some (.int x183), some (.int x184), some (.int x185), none] rfl (b682 y90 y91 y92 y95 y96 x181 x182 x183 x184 x185 σ186 τ99 ν100 δ101 π102 hR)
          · refine r_iload 677 14 K (dk_of tL_law_3 46 rfl) rfl ?_
            refine r_if_le 679 688 K (dk_of tL_law_3 47 rfl) (by decide) hR (fun hR => ?_) (fun hR => ?_)
            · refine r_iload 688 11 K (dk_of tL_law_3 50 rfl) rfl ?_
              refine r_if_ne 690 698 K (dk_of tL_law_3 51 rfl) (by decide) hR (fun hR => ?_) (fun hR => ?_)
              · refine r_iload 693 15 K (dk_of tL_law_3 52 rfl) rfl ?_
                refine r_goto 695 706 K (dk_of tL_law_3 53 rfl) (by decide) ?_
                exact r_msk [true, true, true, true, true, true, false, false, true, true, false, false, true, true, true, true, true, true] [some (.ref b), some (.ref as9), some (.int y90), some (.int y91), some (.int y92), some (.int i5), none, none, some (.int y95), some (.int y96), none, none, some (.int x181), some (.int x182), some (.int x183), some (.int x184), some (.int x185), none] rfl (b706 y90 y91 y92 y95 y96 x181 x182 x183 x184 x185 x184 σ186 τ99 ν100 δ101 π102 hR)
              · refine r_bipush 698 (9 : Int32) K (dk_of tL_law_3 54 rfl) (by decide) ?_
                refine r_iload 700 15 K (dk_of tL_law_3 55 rfl) rfl ?_
                refine r_imul 702 K (dk_of tL_law_3 56 rfl) ?_
                refine r_bipush 703 (10 : Int32) K (dk_of tL_law_3 57 rfl) (by decide) ?_
                refine r_idiv 705 K (dk_of tL_law_3 58 rfl) (by decide) ?_
                exact r_msk [true, true, true, true, true, true, false, false, true, true, false, false, true, true, true, true, true, true] [some (.ref b), some (.ref as9), some (.int y90), some (.int y91), some (.int y92), some (.int i5), none, none, some (.int y95), some (.int y96), none, none, some (.int x181), some (.int x182), some (.int x183), some (.int x184), some (.int x185), none] rfl (b706 y90 y91 y92 y95 y96 x181 x182 x183 x184 x185 (((9 : Int32) * x184) / (10 : Int32)) σ186 τ99 ν100 δ101 π102 hR)
            · exact r_msk [true, true, true, true, true, true, false, false, true, true, false, false, true, true, true, true, true, true] [some (.ref b), some (.ref as9), some (.int y90), some (.int y91), some (.int y92), some (.int i5), none, none, some (.int y95), some (.int y96), none, none, some (.int x181), some (.int x182), some (.int x183), some (.int x184), some (.int x185), none] rfl (b682 y90 y91 y92 y95 y96 x181 x182 x183 x184 x185 σ186 τ99 ν100 δ101 π102 hR)
        · refine r_aload_n 787 1 K (dk_of tL_law_3 99 rfl) rfl rfl ?_
          refine r_iload 788 8 K (dk_of tL_law_4 0 rfl) rfl ?_
          obtain ⟨x269, ν270, hc, hR⟩ := ot2 hR
          refine r_cVi 790 52 [.int y95] [] x269 (wB γ h σ98 ++ (wB γ g τ99 ++ (wS as9 (h 0) (g 0) an aq (ad 0) (ap 0) ++ (wN an (h 0) ν270 ++ (wR aq (h 0) ++ (wD γ ad δ101 ++ (wP γ ap π102 ++ (r)))))))) K (ct_X9_nextAnew hl (z := .inl (x269, ν270)) hc.symm) cs_L_95 ⟨rfl, rfl, rfl⟩ (dk_of tL_law_4 1 rfl) rfl rfl rfl rfl rfl (bbL (by omega) (by omega)) ?_
          refine r_istore 793 11 [some (.ref b), some (.ref as9), some (.int y90), some (.int y91), some (.int y92), some (.int i5), some (.int y93), some (.int y94), some (.int y95), some (.int y96), some (.int y97), some (.int x269), none, none, none, none, none, none] K (dk_of tL_law_4 2 rfl) rfl rfl (by decide) ?_
          refine r_iload 795 7 K (dk_of tL_law_4 3 rfl) rfl ?_
          refine r_bipush 797 (9 : Int32) K (dk_of tL_law_4 4 rfl) (by decide) ?_
          refine r_ishr 799 K (dk_of tL_law_4 5 rfl) ?_
          refine r_bipush 800 (24 : Int32) K (dk_of tL_law_4 6 rfl) (by decide) ?_
          obtain ⟨x271, hc, hR⟩ := o1 hR
          refine r_cSi 802 [.int (y94 >>> ((9 : Int32) &&& 31)), .int (24 : Int32)] [] x271 (wB γ h σ98 ++ (wB γ g τ99 ++ (wS as9 (h 0) (g 0) an aq (ad 0) (ap 0) ++ (wN an (h 0) ν270 ++ (wR aq (h 0) ++ (wD γ ad δ101 ++ (wP γ ap π102 ++ (r)))))))) K (ct_L_low hl hc.symm) cs_L_60 ⟨rfl, rfl, rfl⟩ (dk_of tL_law_4 7 rfl) rfl rfl rfl (bbL (by omega) (by omega)) ?_
          refine r_istore 805 12 [some (.ref b), some (.ref as9), some (.int y90), some (.int y91), some (.int y92), some (.int i5), some (.int y93), some (.int y94), some (.int y95), some (.int y96), some (.int y97), some (.int x269), some (.int x271), none, none, none, none, none] K (dk_of tL_law_4 8 rfl) rfl rfl (by decide) ?_
          refine r_aload_n 807 1 K (dk_of tL_law_4 9 rfl) rfl rfl ?_
          refine r_iload 808 12 K (dk_of tL_law_4 10 rfl) rfl ?_
          obtain ⟨x272, ν273, hc, hR⟩ := ot2 hR
          refine r_cVi 810 52 [.int x271] [] x272 (wB γ h σ98 ++ (wB γ g τ99 ++ (wS as9 (h 0) (g 0) an aq (ad 0) (ap 0) ++ (wN an (h 0) ν273 ++ (wR aq (h 0) ++ (wD γ ad δ101 ++ (wP γ ap π102 ++ (r)))))))) K (ct_X9_nextAnew hl (z := .inl (x272, ν273)) hc.symm) cs_L_95 ⟨rfl, rfl, rfl⟩ (dk_of tL_law_4 11 rfl) rfl rfl rfl rfl rfl (bbL (by omega) (by omega)) ?_
          refine r_istore 813 13 [some (.ref b), some (.ref as9), some (.int y90), some (.int y91), some (.int y92), some (.int i5), some (.int y93), some (.int y94), some (.int y95), some (.int y96), some (.int y97), some (.int x269), some (.int x271), some (.int x272), none, none, none, none] K (dk_of tL_law_4 12 rfl) rfl rfl (by decide) ?_
          refine r_aload_n 815 1 K (dk_of tL_law_4 13 rfl) rfl rfl ?_
          refine r_iload 816 8 K (dk_of tL_law_4 14 rfl) rfl ?_
          refine r_iconst 818 (3 : Int32) K (dk_of tL_law_4 15 rfl) (by decide) ?_
          obtain ⟨x274, τ275, hc, hR⟩ := ot2 hR
          refine r_cVi 819 52 [.int y95, .int (3 : Int32)] [] x274 (wB γ h σ98 ++ (wB γ g τ275 ++ (wS as9 (h 0) (g 0) an aq (ad 0) (ap 0) ++ (wN an (h 0) ν273 ++ (wR aq (h 0) ++ (wD γ ad δ101 ++ (wP γ ap π102 ++ (r)))))))) K (ct_X9_ahead hl (z := .inl (x274, τ275)) hc.symm) cs_L_98 ⟨rfl, rfl, rfl⟩ (dk_of tL_law_4 16 rfl) rfl rfl rfl rfl rfl (bbL (by omega) (by omega)) ?_
          refine r_istore 822 14 [some (.ref b), some (.ref as9), some (.int y90), some (.int y91), some (.int y92), some (.int i5), some (.int y93), some (.int y94), some (.int y95), some (.int y96), some (.int y97), some (.int x269), some (.int x271), some (.int x272), some (.int x274), none, none, none] K (dk_of tL_law_4 17 rfl) rfl rfl (by decide) ?_
          refine r_aload_n 824 1 K (dk_of tL_law_4 18 rfl) rfl rfl ?_
          refine r_iload 825 8 K (dk_of tL_law_4 19 rfl) rfl ?_
          refine r_iconst 827 (1 : Int32) K (dk_of tL_law_4 20 rfl) (by decide) ?_
          obtain ⟨x276, τ277, hc, hR⟩ := ot2 hR
          refine r_cVi 828 52 [.int y95, .int (1 : Int32)] [] x276 (wB γ h σ98 ++ (wB γ g τ277 ++ (wS as9 (h 0) (g 0) an aq (ad 0) (ap 0) ++ (wN an (h 0) ν273 ++ (wR aq (h 0) ++ (wD γ ad δ101 ++ (wP γ ap π102 ++ (r)))))))) K (ct_X9_ahead hl (z := .inl (x276, τ277)) hc.symm) cs_L_98 ⟨rfl, rfl, rfl⟩ (dk_of tL_law_4 21 rfl) rfl rfl rfl rfl rfl (bbL (by omega) (by omega)) ?_
          refine r_iload 831 11 K (dk_of tL_law_4 22 rfl) rfl ?_
          refine r_ic_ne 833 848 K (dk_of tL_law_4 23 rfl) (by decide) hR (fun hR => ?_) (fun hR => ?_)
          · refine r_aload_n 836 1 K (dk_of tL_law_4 24 rfl) rfl rfl ?_
            refine r_iload 837 12 K (dk_of tL_law_4 25 rfl) rfl ?_
            refine r_iconst 839 (1 : Int32) K (dk_of tL_law_4 26 rfl) (by decide) ?_
            obtain ⟨x278, τ279, hc, hR⟩ := ot2 hR
            refine r_cVi 840 52 [.int x271, .int (1 : Int32)] [] x278 (wB γ h σ98 ++ (wB γ g τ279 ++ (wS as9 (h 0) (g 0) an aq (ad 0) (ap 0) ++ (wN an (h 0) ν273 ++ (wR aq (h 0) ++ (wD γ ad δ101 ++ (wP γ ap π102 ++ (r)))))))) K (ct_X9_ahead hl (z := .inl (x278, τ279)) hc.symm) cs_L_98 ⟨rfl, rfl, rfl⟩ (dk_of tL_law_4 27 rfl) rfl rfl rfl rfl rfl (bbL (by omega) (by omega)) ?_
            refine r_iload 843 13 K (dk_of tL_law_4 28 rfl) rfl ?_
            refine r_ic_eq 845 850 K (dk_of tL_law_4 29 rfl) (by decide) hR (fun hR => ?_) (fun hR => ?_)
            · refine r_aload_n 850 1 K (dk_of tL_law_4 32 rfl) rfl rfl ?_
              refine r_iconst 851 (1 : Int32) K (dk_of tL_law_4 33 rfl) (by decide) ?_
              obtain ⟨x280, σ281, hc, hR⟩ := ot2 hR
              refine r_cVi 852 52 [.int (1 : Int32)] [] x280 (wB γ h σ281 ++ (wB γ g τ279 ++ (wS as9 (h 0) (g 0) an aq (ad 0) (ap 0) ++ (wN an (h 0) ν273 ++ (wR aq (h 0) ++ (wD γ ad δ101 ++ (wP γ ap π102 ++ (r)))))))) K (ct_X9_pass hl (z := .inl (x280, σ281)) hc.symm) cs_L_101 ⟨rfl, rfl, rfl⟩ (dk_of tL_law_4 34 rfl) rfl rfl rfl rfl rfl (bbL (by omega) (by omega)) ?_
              refine r_pop 855 K (dk_of tL_law_4 35 rfl) rfl ?_
              refine r_aload_n 856 1 K (dk_of tL_law_4 36 rfl) rfl rfl ?_
              refine r_iload 857 8 K (dk_of tL_law_4 37 rfl) rfl ?_
              refine r_iconst 859 (0 : Int32) K (dk_of tL_law_4 38 rfl) (by decide) ?_
              obtain ⟨x282, hc, hR⟩ := ot1 hR
              refine r_cVi 860 52 [.int y95, .int (0 : Int32)] [] x282 (wB γ h σ281 ++ (wB γ g τ279 ++ (wS as9 (h 0) (g 0) an aq (ad 0) (ap 0) ++ (wN an (h 0) ν273 ++ (wR aq (h 0) ++ (wD γ ad δ101 ++ (wP γ ap π102 ++ (r)))))))) K (ct_X9_at hl (z := .inl x282) hc.symm) cs_L_44 ⟨rfl, rfl, rfl⟩ (dk_of tL_law_4 39 rfl) rfl rfl rfl rfl rfl (bbL (by omega) (by omega)) ?_
              refine r_aload_n 863 1 K (dk_of tL_law_4 40 rfl) rfl rfl ?_
              refine r_iload 864 8 K (dk_of tL_law_4 41 rfl) rfl ?_
              refine r_iconst 866 (1 : Int32) K (dk_of tL_law_4 42 rfl) (by decide) ?_
              obtain ⟨x283, hc, hR⟩ := ot1 hR
              refine r_cVi 867 52 [.int y95, .int (1 : Int32)] [.int x282] x283 (wB γ h σ281 ++ (wB γ g τ279 ++ (wS as9 (h 0) (g 0) an aq (ad 0) (ap 0) ++ (wN an (h 0) ν273 ++ (wR aq (h 0) ++ (wD γ ad δ101 ++ (wP γ ap π102 ++ (r)))))))) K (ct_X9_at hl (z := .inl x283) hc.symm) cs_L_44 ⟨rfl, rfl, rfl⟩ (dk_of tL_law_4 43 rfl) rfl rfl rfl rfl rfl (bbL (by omega) (by omega)) ?_
              refine r_iadd 870 K (dk_of tL_law_4 44 rfl) ?_
              refine r_aload_n 871 1 K (dk_of tL_law_4 45 rfl) rfl rfl ?_
              refine r_iload 872 8 K (dk_of tL_law_4 46 rfl) rfl ?_
              refine r_iconst 874 (2 : Int32) K (dk_of tL_law_4 47 rfl) (by decide) ?_
              obtain ⟨x284, hc, hR⟩ := ot1 hR
              refine r_cVi 875 52 [.int y95, .int (2 : Int32)] [.int (x282 + x283)] x284 (wB γ h σ281 ++ (wB γ g τ279 ++ (wS as9 (h 0) (g 0) an aq (ad 0) (ap 0) ++ (wN an (h 0) ν273 ++ (wR aq (h 0) ++ (wD γ ad δ101 ++ (wP γ ap π102 ++ (r)))))))) K (ct_X9_at hl (z := .inl x284) hc.symm) cs_L_44 ⟨rfl, rfl, rfl⟩ (dk_of tL_law_4 48 rfl) rfl rfl rfl rfl rfl (bbL (by omega) (by omega)) ?_
              refine r_iadd 878 K (dk_of tL_law_4 49 rfl) ?_
              refine r_iload 879 11 K (dk_of tL_law_4 50 rfl) rfl ?_
              refine r_ic_ne 881 924 K (dk_of tL_law_4 51 rfl) (by decide) hR (fun hR => ?_) (fun hR => ?_)
              · refine r_aload_n 884 1 K (dk_of tL_law_4 52 rfl) rfl rfl ?_
                refine r_iload 885 12 K (dk_of tL_law_4 53 rfl) rfl ?_
                refine r_iconst 887 (0 : Int32) K (dk_of tL_law_4 54 rfl) (by decide) ?_
                obtain ⟨x285, hc, hR⟩ := ot1 hR
                refine r_cVi 888 52 [.int x271, .int (0 : Int32)] [] x285 (wB γ h σ281 ++ (wB γ g τ279 ++ (wS as9 (h 0) (g 0) an aq (ad 0) (ap 0) ++ (wN an (h 0) ν273 ++ (wR aq (h 0) ++ (wD γ ad δ101 ++ (wP γ ap π102 ++ (r)))))))) K (ct_X9_at hl (z := .inl x285) hc.symm) cs_L_44 ⟨rfl, rfl, rfl⟩ (dk_of tL_law_4 55 rfl) rfl rfl rfl rfl rfl (bbL (by omega) (by omega)) ?_
                refine r_aload_n 891 1 K (dk_of tL_law_4 56 rfl) rfl rfl ?_
                refine r_iload 892 12 K (dk_of tL_law_4 57 rfl) rfl ?_
                refine r_iconst 894 (1 : Int32) K (dk_of tL_law_4 58 rfl) (by decide) ?_
                obtain ⟨x286, hc, hR⟩ := ot1 hR
                refine r_cVi 895 52 [.int x271, .int (1 : Int32)] [.int x285] x286 (wB γ h σ281 ++ (wB γ g τ279 ++ (wS as9 (h 0) (g 0) an aq (ad 0) (ap 0) ++ (wN an (h 0) ν273 ++ (wR aq (h 0) ++ (wD γ ad δ101 ++ (wP γ ap π102 ++ (r)))))))) K (ct_X9_at hl (z := .inl x286) hc.symm) cs_L_44 ⟨rfl, rfl, rfl⟩ (dk_of tL_law_4 59 rfl) rfl rfl rfl rfl rfl (bbL (by omega) (by omega)) ?_
                refine r_iadd 898 K (dk_of tL_law_4 60 rfl) ?_
                refine r_aload_n 899 1 K (dk_of tL_law_4 61 rfl) rfl rfl ?_
                refine r_iload 900 12 K (dk_of tL_law_4 62 rfl) rfl ?_
                refine r_iconst 902 (2 : Int32) K (dk_of tL_law_4 63 rfl) (by decide) ?_
                obtain ⟨x287, hc, hR⟩ := ot1 hR
                refine r_cVi 903 52 [.int x271, .int (2 : Int32)] [.int (x285 + x286)] x287 (wB γ h σ281 ++ (wB γ g τ279 ++ (wS as9 (h 0) (g 0) an aq (ad 0) (ap 0) ++ (wN an (h 0) ν273 ++ (wR aq (h 0) ++ (wD γ ad δ101 ++ (wP γ ap π102 ++ (r)))))))) K (ct_X9_at hl (z := .inl x287) hc.symm) cs_L_44 ⟨rfl, rfl, rfl⟩ (dk_of tL_law_4 64 rfl) rfl rfl rfl rfl rfl (bbL (by omega) (by omega)) ?_
                refine r_iadd 906 K (dk_of tL_law_4 65 rfl) ?_
                refine r_iload 907 13 K (dk_of tL_law_4 66 rfl) rfl ?_
                refine r_ic_ne 909 924 K (dk_of tL_law_4 67 rfl) (by decide) hR (fun hR => ?_) (fun hR => ?_)
                · refine r_aload_n 912 1 K (dk_of tL_law_4 68 rfl) rfl rfl ?_
                  refine r_iload 913 8 K (dk_of tL_law_4 69 rfl) rfl ?_
                  refine r_iconst 915 (2 : Int32) K (dk_of tL_law_4 70 rfl) (by decide) ?_
                  obtain ⟨x288, τ289, hc, hR⟩ := ot2 hR
                  refine r_cVi 916 52 [.int y95, .int (2 : Int32)] [] x288 (wB γ h σ281 ++ (wB γ g τ289 ++ (wS as9 (h 0) (g 0) an aq (ad 0) (ap 0) ++ (wN an (h 0) ν273 ++ (wR aq (h 0) ++ (wD γ ad δ101 ++ (wP γ ap π102 ++ (r)))))))) K (ct_X9_ahead hl (z := .inl (x288, τ289)) hc.symm) cs_L_98 ⟨rfl, rfl, rfl⟩ (dk_of tL_law_4 71 rfl) rfl rfl rfl rfl rfl (bbL (by omega) (by omega)) ?_
                  refine r_iload 919 14 K (dk_of tL_law_4 72 rfl) rfl ?_
                  refine r_ic_eq 921 926 K (dk_of tL_law_4 73 rfl) (by decide) hR (fun hR => ?_) (fun hR => ?_)
                  · refine r_aload_n 926 1 K (dk_of tL_law_4 76 rfl) rfl rfl ?_
                    refine r_iconst 927 (2 : Int32) K (dk_of tL_law_4 77 rfl) (by decide) ?_
                    refine r_iload 928 6 K (dk_of tL_law_4 78 rfl) rfl ?_
                    refine r_bipush 930 (7 : Int32) K (dk_of tL_law_4 79 rfl) (by decide) ?_
                    obtain ⟨x290, hc, hR⟩ := o1 hR
                    refine r_cSi 932 [.int y93, .int (7 : Int32)] [.int (2 : Int32), .ref as9] x290 (wB γ h σ281 ++ (wB γ g τ289 ++ (wS as9 (h 0) (g 0) an aq (ad 0) (ap 0) ++ (wN an (h 0) ν273 ++ (wR aq (h 0) ++ (wD γ ad δ101 ++ (wP γ ap π102 ++ (r)))))))) K (ct_L_low hl hc.symm) cs_L_60 ⟨rfl, rfl, rfl⟩ (dk_of tL_law_4 80 rfl) rfl rfl rfl (bbL (by omega) (by omega)) ?_
                    refine r_iadd 935 K (dk_of tL_law_4 81 rfl) ?_
                    obtain ⟨x291, σ292, hc, hR⟩ := ot2 hR
                    refine r_cVi 936 52 [.int ((2 : Int32) + x290)] [] x291 (wB γ h σ292 ++ (wB γ g τ289 ++ (wS as9 (h 0) (g 0) an aq (ad 0) (ap 0) ++ (wN an (h 0) ν273 ++ (wR aq (h 0) ++ (wD γ ad δ101 ++ (wP γ ap π102 ++ (r)))))))) K (ct_X9_pass hl (z := .inl (x291, σ292)) hc.symm) cs_L_101 ⟨rfl, rfl, rfl⟩ (dk_of tL_law_4 82 rfl) rfl rfl rfl rfl rfl (bbL (by omega) (by omega)) ?_
                    refine r_pop 939 K (dk_of tL_law_4 83 rfl) rfl ?_
                    exact r_msk [true, true, true, true, true, true, false, false, false, false, false, false, false, false, false, true, true, true] [some (.ref b), some (.ref as9), some (.int y90), some (.int y91), some (.int y92), some (.int i5), none, none, none, none, none, none, none, none, none, none, none, none] rfl (r_wide (by omega) (by omega) (b940 y90 y91 y92 σ292 τ289 ν273 δ101 π102 hR))
                  · refine r_iconst 924 (0 : Int32) K (dk_of tL_law_4 74 rfl) (by decide) ?_
                    exact nn_ hR
                · refine r_iconst 924 (0 : Int32) K (dk_of tL_law_4 74 rfl) (by decide) ?_
                  exact nn_ hR
              · refine r_iconst 924 (0 : Int32) K (dk_of tL_law_4 74 rfl) (by decide) ?_
                exact nn_ hR
            · refine r_iconst 848 (0 : Int32) K (dk_of tL_law_4 30 rfl) (by decide) ?_
              exact nn_ hR
          · refine r_iconst 848 (0 : Int32) K (dk_of tL_law_4 30 rfl) (by decide) ?_
            exact nn_ hR
  have b411 : ∀ (y295 : Int32) (y296 : Int32) (y297 : Int32) (y298 : Int32) (y299 : Int32) (σ300 : St) (τ301 : St) (ν302 : (Nat → Int32)) (δ303 : St) (π304 : (St × Int64)), some z9 = sg_act_411 i5 y295 y296 y297 y298 y299 σ300 τ301 ν302 δ303 π304 → V l γ X M (wB γ h σ300 ++ (wB γ g τ301 ++ (wS as9 (h 0) (g 0) an aq (ad 0) (ap 0) ++ (wN an (h 0) ν302 ++ (wR aq (h 0) ++ (wD γ ad δ303 ++ (wP γ ap π304 ++ (r)))))))) [some (.ref b), some (.ref as9), some (.int y295), some (.int y296), some (.int y297), some (.int i5), none, none, none, none, none, none, none, none, none, none, none, none] cs ss 411 [.int y299, .int y298, .ref as9] := by
    intro y295 y296 y297 y298 y299 σ300 τ301 ν302 δ303 π304 hR
    unfold sg_act_411 at hR
    obtain ⟨x305, σ306, hc, hR⟩ := ot2 hR
    refine r_cVi 411 52 [.int y298, .int y299] [] x305 (wB γ h σ306 ++ (wB γ g τ301 ++ (wS as9 (h 0) (g 0) an aq (ad 0) (ap 0) ++ (wN an (h 0) ν302 ++ (wR aq (h 0) ++ (wD γ ad δ303 ++ (wP γ ap π304 ++ (r)))))))) K (ct_X9_team hl (z := .inl (x305, σ306)) hc.symm) cs_L_77 ⟨rfl, rfl, rfl⟩ (dk_of tL_law_2 11 rfl) rfl rfl rfl rfl rfl (bbL (by omega) (by omega)) ?_
    refine r_iload_n 414 3 K (dk_of tL_law_2 12 rfl) rfl rfl ?_
    refine r_ic_eq 415 420 K (dk_of tL_law_2 13 rfl) (by decide) hR (fun hR => ?_) (fun hR => ?_)
    · refine r_iinc 420 3 (y296 + 1) [some (.ref b), some (.ref as9), some (.int y295), some (.int (y296 + 1)), some (.int y297), some (.int i5), none, none, none, none, none, none, none, none, none, none, none, none] K (dk_of tL_law_2 16 rfl) rfl rfl rfl rfl (by decide) ?_
      refine r_goto 423 940 K (dk_of tL_law_2 17 rfl) (by decide) ?_
      exact r_wide (by omega) (by omega) (b940 y295 (y296 + 1) y297 σ306 τ301 ν302 δ303 π304 hR)
    · refine r_iconst 418 (0 : Int32) K (dk_of tL_law_2 14 rfl) (by decide) ?_
      exact nn_ hR
  have b370 : ∀ (y320 : Int32) (y321 : Int32) (y322 : Int32) (y323 : Int32) (σ324 : St) (τ325 : St) (ν326 : (Nat → Int32)) (δ327 : St) (π328 : (St × Int64)), some z9 = sg_act_370 i5 y320 y321 y322 y323 σ324 τ325 ν326 δ327 π328 → V l γ X M (wB γ h σ324 ++ (wB γ g τ325 ++ (wS as9 (h 0) (g 0) an aq (ad 0) (ap 0) ++ (wN an (h 0) ν326 ++ (wR aq (h 0) ++ (wD γ ad δ327 ++ (wP γ ap π328 ++ (r)))))))) [some (.ref b), some (.ref as9), some (.int y320), none, some (.int y321), some (.int i5), none, none, none, none, none, none, none, none, none, none, none, none] (cs + 1) (ss + 6) 370 [.int y323, .int y322] := by
    intro y320 y321 y322 y323 σ324 τ325 ν326 δ327 π328 hR
    unfold sg_act_370 at hR
    refine r_iadd 370 K (dk_of tL_law_1 89 rfl) ?_
    refine r_nmI hR (fun x329 hR => ?_)
    refine r_istore_n 371 3 [some (.ref b), some (.ref as9), some (.int y320), some (.int x329), some (.int y321), some (.int i5), none, none, none, none, none, none, none, none, none, none, none, none] K (dk_of tL_law_1 90 rfl) rfl rfl rfl (by decide) ?_
    refine r_goto 372 940 K (dk_of tL_law_1 91 rfl) (by decide) ?_
    exact r_wide (by omega) (by omega) (b940 y320 x329 y321 σ324 τ325 ν326 δ327 π328 hR)
  have b359 : ∀ (y311 : Int32) (y312 : Int32) (y313 : Int32) (y314 : Int32) (σ315 : St) (τ316 : St) (ν317 : (Nat → Int32)) (δ318 : St) (π319 : (St × Int64)), some z9 = sg_act_359 i5 y311 y312 y313 y314 σ315 τ316 ν317 δ318 π319 → V l γ X M (wB γ h σ315 ++ (wB γ g τ316 ++ (wS as9 (h 0) (g 0) an aq (ad 0) (ap 0) ++ (wN an (h 0) ν317 ++ (wR aq (h 0) ++ (wD γ ad δ318 ++ (wP γ ap π319 ++ (r)))))))) [some (.ref b), some (.ref as9), some (.int y311), some (.int y312), some (.int y313), some (.int i5), none, none, none, none, none, some (.int y314), none, none, none, none, none, none] (cs + 1) (ss + 6) 359 [] := by
    intro y311 y312 y313 y314 σ315 τ316 ν317 δ318 π319 hR
    unfold sg_act_359 at hR
    refine r_iload_n 359 3 K (dk_of tL_law_1 83 rfl) rfl rfl ?_
    refine r_iload 360 11 K (dk_of tL_law_1 84 rfl) rfl ?_
    refine r_if_lt 362 369 K (dk_of tL_law_1 85 rfl) (by decide) hR (fun hR => ?_) (fun hR => ?_)
    · refine r_iconst 369 (0 : Int32) K (dk_of tL_law_1 88 rfl) (by decide) ?_
      exact r_msk [true, true, true, false, true, true, true, true, true, true, true, false, true, true, true, true, true, true] [some (.ref b), some (.ref as9), some (.int y311), none, some (.int y313), some (.int i5), none, none, none, none, none, none, none, none, none, none, none, none] rfl (b370 y311 y313 y312 (0 : Int32) σ315 τ316 ν317 δ318 π319 hR)
    · refine r_iconst 365 (1 : Int32) K (dk_of tL_law_1 86 rfl) (by decide) ?_
      refine r_goto 366 370 K (dk_of tL_law_1 87 rfl) (by decide) ?_
      exact r_msk [true, true, true, false, true, true, true, true, true, true, true, false, true, true, true, true, true, true] [some (.ref b), some (.ref as9), some (.int y311), none, some (.int y313), some (.int i5), none, none, none, none, none, none, none, none, none, none, none, none] rfl (b370 y311 y313 y312 (1 : Int32) σ315 τ316 ν317 δ318 π319 hR)
  have b179 : ∀ (y15 : Int32) (y16 : Int32) (y17 : Int32) (y18 : Int32) (y19 : Int32) (y20 : Int32) (y21 : Int32) (y22 : Int32) (σ23 : St) (τ24 : St) (ν25 : (Nat → Int32)) (δ26 : St) (π27 : (St × Int64)), some z9 = sg_act_179 i5 y15 y16 y17 y18 y19 y20 y21 y22 σ23 τ24 ν25 δ26 π27 → V l γ X M (wB γ h σ23 ++ (wB γ g τ24 ++ (wS as9 (h 0) (g 0) an aq (ad 0) (ap 0) ++ (wN an (h 0) ν25 ++ (wR aq (h 0) ++ (wD γ ad δ26 ++ (wP γ ap π27 ++ (r)))))))) [some (.ref b), some (.ref as9), some (.int y15), some (.int y16), some (.int y17), some (.int i5), some (.int y18), some (.int y19), some (.int y20), some (.int y21), none, none, none, none, none, none, none, none] cs ss 179 [.int y22] := by
    intro y15 y16 y17 y18 y19 y20 y21 y22 σ23 τ24 ν25 δ26 π27 hR
    unfold sg_act_179 at hR
    refine r_istore 179 10 [some (.ref b), some (.ref as9), some (.int y15), some (.int y16), some (.int y17), some (.int i5), some (.int y18), some (.int y19), some (.int y20), some (.int y21), some (.int y22), none, none, none, none, none, none, none] K (dk_of tL_law_0 95 rfl) rfl rfl (by decide) ?_
    refine r_iload 181 10 K (dk_of tL_law_0 96 rfl) rfl ?_
    refine r_if_ne 183 281 K (dk_of tL_law_0 97 rfl) (by decide) hR (fun hR => ?_) (fun hR => ?_)
    · refine r_iload 186 9 K (dk_of tL_law_0 98 rfl) rfl ?_
      refine r_if_eq 188 200 K (dk_of tL_law_0 99 rfl) (by decide) hR (fun hR => ?_) (fun hR => ?_)
      · exact r_msk [true, true, true, true, true, true, true, true, true, false, false, true, true, true, true, true, true, true] [some (.ref b), some (.ref as9), some (.int y15), some (.int y16), some (.int y17), some (.int i5), some (.int y18), some (.int y19), some (.int y20), none, none, none, none, none, none, none, none, none] rfl (b200 y15 y16 y17 y18 y19 y20 σ23 τ24 ν25 δ26 π27 hR)
      · refine r_iload_n 191 2 K (dk_of tL_law_1 0 rfl) rfl rfl ?_
        refine r_iconst 192 (4 : Int32) K (dk_of tL_law_1 1 rfl) (by decide) ?_
        refine r_ic_ge 193 200 K (dk_of tL_law_1 2 rfl) (by decide) hR (fun hR => ?_) (fun hR => ?_)
        · exact r_msk [true, true, true, true, true, true, true, true, true, false, false, true, true, true, true, true, true, true] [some (.ref b), some (.ref as9), some (.int y15), some (.int y16), some (.int y17), some (.int i5), some (.int y18), some (.int y19), some (.int y20), none, none, none, none, none, none, none, none, none] rfl (b200 y15 y16 y17 y18 y19 y20 σ23 τ24 ν25 δ26 π27 hR)
        · refine r_iconst 196 (1 : Int32) K (dk_of tL_law_1 3 rfl) (by decide) ?_
          refine r_goto 197 201 K (dk_of tL_law_1 4 rfl) (by decide) ?_
          exact r_msk [true, true, true, true, true, true, true, true, true, false, false, true, true, true, true, true, true, true] [some (.ref b), some (.ref as9), some (.int y15), some (.int y16), some (.int y17), some (.int i5), some (.int y18), some (.int y19), some (.int y20), none, none, none, none, none, none, none, none, none] rfl (b201 y15 y16 y17 y18 y19 y20 (1 : Int32) σ23 τ24 ν25 δ26 π27 hR)
    · refine r_iload 281 10 K (dk_of tL_law_1 46 rfl) rfl ?_
      refine r_iconst 283 (3 : Int32) K (dk_of tL_law_1 47 rfl) (by decide) ?_
      refine r_ic_ge 284 375 K (dk_of tL_law_1 48 rfl) (by decide) hR (fun hR => ?_) (fun hR => ?_)
      · refine r_iload 375 10 K (dk_of tL_law_1 92 rfl) rfl ?_
        refine r_iconst 377 (3 : Int32) K (dk_of tL_law_1 93 rfl) (by decide) ?_
        refine r_ic_ne 378 426 K (dk_of tL_law_1 94 rfl) (by decide) hR (fun hR => ?_) (fun hR => ?_)
        · refine r_iload_n 381 3 K (dk_of tL_law_1 95 rfl) rfl rfl ?_
          refine r_bipush 382 (20 : Int32) K (dk_of tL_law_1 96 rfl) (by decide) ?_
          refine r_ic_ge 384 426 K (dk_of tL_law_1 97 rfl) (by decide) hR (fun hR => ?_) (fun hR => ?_)
          · exact b426 y15 y16 y17 y18 y19 y20 y21 y22 σ23 τ24 ν25 δ26 π27 hR
          · refine r_aload_n 387 1 K (dk_of tL_law_1 98 rfl) rfl rfl ?_
            refine r_iconst 388 (1 : Int32) K (dk_of tL_law_1 99 rfl) (by decide) ?_
            refine r_iload 389 6 K (dk_of tL_law_2 0 rfl) rfl ?_
            refine r_bipush 391 (50 : Int32) K (dk_of tL_law_2 1 rfl) (by decide) ?_
            obtain ⟨x293, hc, hR⟩ := o1 hR
            refine r_cSi 393 [.int y18, .int (50 : Int32)] [.int (1 : Int32), .ref as9] x293 (wB γ h σ23 ++ (wB γ g τ24 ++ (wS as9 (h 0) (g 0) an aq (ad 0) (ap 0) ++ (wN an (h 0) ν25 ++ (wR aq (h 0) ++ (wD γ ad δ26 ++ (wP γ ap π27 ++ (r)))))))) K (ct_L_low hl hc.symm) cs_L_60 ⟨rfl, rfl, rfl⟩ (dk_of tL_law_2 2 rfl) rfl rfl rfl (bbL (by omega) (by omega)) ?_
            refine r_iadd 396 K (dk_of tL_law_2 3 rfl) ?_
            refine r_iload 397 7 K (dk_of tL_law_2 4 rfl) rfl ?_
            refine r_iconst 399 (2 : Int32) K (dk_of tL_law_2 5 rfl) (by decide) ?_
            obtain ⟨x294, hc, hR⟩ := o1 hR
            refine r_cSi 400 [.int y19, .int (2 : Int32)] [.int ((1 : Int32) + x293), .ref as9] x294 (wB γ h σ23 ++ (wB γ g τ24 ++ (wS as9 (h 0) (g 0) an aq (ad 0) (ap 0) ++ (wN an (h 0) ν25 ++ (wR aq (h 0) ++ (wD γ ad δ26 ++ (wP γ ap π27 ++ (r)))))))) K (ct_L_low hl hc.symm) cs_L_60 ⟨rfl, rfl, rfl⟩ (dk_of tL_law_2 6 rfl) rfl rfl rfl (bbL (by omega) (by omega)) ?_
            refine r_if_ne 403 410 K (dk_of tL_law_2 7 rfl) (by decide) hR (fun hR => ?_) (fun hR => ?_)
            · refine r_iconst 406 (1 : Int32) K (dk_of tL_law_2 8 rfl) (by decide) ?_
              refine r_goto 407 411 K (dk_of tL_law_2 9 rfl) (by decide) ?_
              exact r_msk [true, true, true, true, true, true, false, false, false, false, false, true, true, true, true, true, true, true] [some (.ref b), some (.ref as9), some (.int y15), some (.int y16), some (.int y17), some (.int i5), none, none, none, none, none, none, none, none, none, none, none, none] rfl (b411 y15 y16 y17 ((1 : Int32) + x293) (1 : Int32) σ23 τ24 ν25 δ26 π27 hR)
            · refine r_iconst 410 (0 : Int32) K (dk_of tL_law_2 10 rfl) (by decide) ?_
              exact r_msk [true, true, true, true, true, true, false, false, false, false, false, true, true, true, true, true, true, true] [some (.ref b), some (.ref as9), some (.int y15), some (.int y16), some (.int y17), some (.int i5), none, none, none, none, none, none, none, none, none, none, none, none] rfl (b411 y15 y16 y17 ((1 : Int32) + x293) (0 : Int32) σ23 τ24 ν25 δ26 π27 hR)
        · exact b426 y15 y16 y17 y18 y19 y20 y21 y22 σ23 τ24 ν25 δ26 π27 hR
      · refine r_aload_n 287 1 K (dk_of tL_law_1 49 rfl) rfl rfl ?_
        refine r_iload 288 10 K (dk_of tL_law_1 50 rfl) rfl ?_
        refine r_iconst 290 (1 : Int32) K (dk_of tL_law_1 51 rfl) (by decide) ?_
        refine r_isub 291 K (dk_of tL_law_1 52 rfl) ?_
        refine r_iload 292 8 K (dk_of tL_law_1 53 rfl) rfl ?_
        refine r_iload 294 6 K (dk_of tL_law_1 54 rfl) rfl ?_
        refine r_sipush 296 (9999 : Int32) K (dk_of tL_law_1 55 rfl) (by decide) ?_
        obtain ⟨x307, hc, hR⟩ := o1 hR
        refine r_cSi 299 [.int y18, .int (9999 : Int32)] [.int y20, .int (y22 - (1 : Int32)), .ref as9] x307 (wB γ h σ23 ++ (wB γ g τ24 ++ (wS as9 (h 0) (g 0) an aq (ad 0) (ap 0) ++ (wN an (h 0) ν25 ++ (wR aq (h 0) ++ (wD γ ad δ26 ++ (wP γ ap π27 ++ (r)))))))) K (ct_L_low hl hc.symm) cs_L_60 ⟨rfl, rfl, rfl⟩ (dk_of tL_law_1 56 rfl) rfl rfl rfl (bbL (by omega) (by omega)) ?_
        refine r_iload 302 7 K (dk_of tL_law_1 57 rfl) rfl ?_
        refine r_bipush 304 (6 : Int32) K (dk_of tL_law_1 58 rfl) (by decide) ?_
        refine r_ishr 306 K (dk_of tL_law_1 59 rfl) ?_
        refine r_sipush 307 (9999 : Int32) K (dk_of tL_law_1 60 rfl) (by decide) ?_
        obtain ⟨x308, hc, hR⟩ := o1 hR
        refine r_cSi 310 [.int (y19 >>> ((6 : Int32) &&& 31)), .int (9999 : Int32)] [.int x307, .int y20, .int (y22 - (1 : Int32)), .ref as9] x308 (wB γ h σ23 ++ (wB γ g τ24 ++ (wS as9 (h 0) (g 0) an aq (ad 0) (ap 0) ++ (wN an (h 0) ν25 ++ (wR aq (h 0) ++ (wD γ ad δ26 ++ (wP γ ap π27 ++ (r)))))))) K (ct_L_low hl hc.symm) cs_L_60 ⟨rfl, rfl, rfl⟩ (dk_of tL_law_1 61 rfl) rfl rfl rfl (bbL (by omega) (by omega)) ?_
        obtain ⟨x309, σ310, hc, hR⟩ := o2 hR
        refine r_cSh (mc := 1) (ms := 6) (n := 5) 313 [.ref as9, .int (y22 - (1 : Int32)), .int y20, .int x307, .int x308] [] x309 (wB γ h σ310 ++ (wB γ g τ24 ++ (wS as9 (h 0) (g 0) an aq (ad 0) (ap 0) ++ (wN an (h 0) ν25 ++ (wR aq (h 0) ++ (wD γ ad δ26 ++ (wP γ ap π27 ++ (r)))))))) K (ct_L_tryLay hl hc.symm) w775 w776 w0 cwx_tryLay (by decide +kernel) ⟨rfl, rfl, rfl⟩ (dk_of tL_law_1 62 rfl) rfl rfl rfl (aaL (by omega) (by omega)) ?_
        show V l γ X M (wB γ h σ310 ++ (wB γ g τ24 ++ (wS as9 (h 0) (g 0) an aq (ad 0) (ap 0) ++ (wN an (h 0) ν25 ++ (wR aq (h 0) ++ (wD γ ad δ26 ++ (wP γ ap π27 ++ (r)))))))) [some (.ref b), some (.ref as9), some (.int y15), some (.int y16), some (.int y17), some (.int i5), some (.int y18), some (.int y19), some (.int y20), some (.int y21), some (.int y22), none, none, none, none, none, none, none] (cs + 1) (ss + 6) 316 [.int x309]
        refine r_istore 316 11 [some (.ref b), some (.ref as9), some (.int y15), some (.int y16), some (.int y17), some (.int i5), some (.int y18), some (.int y19), some (.int y20), some (.int y21), some (.int y22), some (.int x309), none, none, none, none, none, none] K (dk_of tL_law_1 63 rfl) rfl rfl (by decide) ?_
        refine r_iload 318 11 K (dk_of tL_law_1 64 rfl) rfl ?_
        refine r_if_lt 320 332 K (dk_of tL_law_1 65 rfl) (by decide) hR (fun hR => ?_) (fun hR => ?_)
        · refine r_iload 332 11 K (dk_of tL_law_1 70 rfl) rfl ?_
          refine r_sipush 334 (-200 : Int32) K (dk_of tL_law_1 71 rfl) (by decide) ?_
          refine r_ic_ne 337 357 K (dk_of tL_law_1 72 rfl) (by decide) hR (fun hR => ?_) (fun hR => ?_)
          · refine r_iload 340 10 K (dk_of tL_law_1 73 rfl) rfl ?_
            refine r_iconst 342 (2 : Int32) K (dk_of tL_law_1 74 rfl) (by decide) ?_
            refine r_ic_ne 343 359 K (dk_of tL_law_1 75 rfl) (by decide) hR (fun hR => ?_) (fun hR => ?_)
            · refine r_iload 346 9 K (dk_of tL_law_1 76 rfl) rfl ?_
              refine r_if_eq 348 359 K (dk_of tL_law_1 77 rfl) (by decide) hR (fun hR => ?_) (fun hR => ?_)
              · exact r_msk [true, true, true, true, true, true, false, false, false, false, false, true, true, true, true, true, true, true] [some (.ref b), some (.ref as9), some (.int y15), some (.int y16), some (.int y17), some (.int i5), none, none, none, none, none, some (.int x309), none, none, none, none, none, none] rfl (b359 y15 y16 y17 x309 σ310 τ24 ν25 δ26 π27 hR)
              · refine r_iload_n 351 3 K (dk_of tL_law_1 78 rfl) rfl rfl ?_
                refine r_bipush 352 (20 : Int32) K (dk_of tL_law_1 79 rfl) (by decide) ?_
                refine r_ic_ge 354 359 K (dk_of tL_law_1 80 rfl) (by decide) hR (fun hR => ?_) (fun hR => ?_)
                · exact r_msk [true, true, true, true, true, true, false, false, false, false, false, true, true, true, true, true, true, true] [some (.ref b), some (.ref as9), some (.int y15), some (.int y16), some (.int y17), some (.int i5), none, none, none, none, none, some (.int x309), none, none, none, none, none, none] rfl (b359 y15 y16 y17 x309 σ310 τ24 ν25 δ26 π27 hR)
                · refine r_iconst 357 (0 : Int32) K (dk_of tL_law_1 81 rfl) (by decide) ?_
                  exact nn_ hR
            · exact r_msk [true, true, true, true, true, true, false, false, false, false, false, true, true, true, true, true, true, true] [some (.ref b), some (.ref as9), some (.int y15), some (.int y16), some (.int y17), some (.int i5), none, none, none, none, none, some (.int x309), none, none, none, none, none, none] rfl (b359 y15 y16 y17 x309 σ310 τ24 ν25 δ26 π27 hR)
          · refine r_iconst 357 (0 : Int32) K (dk_of tL_law_1 81 rfl) (by decide) ?_
            exact nn_ hR
        · refine r_iload 323 11 K (dk_of tL_law_1 66 rfl) rfl ?_
          refine r_iload_n 325 3 K (dk_of tL_law_1 67 rfl) rfl rfl ?_
          refine r_ic_eq 326 359 K (dk_of tL_law_1 68 rfl) (by decide) hR (fun hR => ?_) (fun hR => ?_)
          · exact r_msk [true, true, true, true, true, true, false, false, false, false, false, true, true, true, true, true, true, true] [some (.ref b), some (.ref as9), some (.int y15), some (.int y16), some (.int y17), some (.int i5), none, none, none, none, none, some (.int x309), none, none, none, none, none, none] rfl (b359 y15 y16 y17 x309 σ310 τ24 ν25 δ26 π27 hR)
          · refine r_goto 329 357 K (dk_of tL_law_1 69 rfl) (by decide) ?_
            refine r_iconst 357 (0 : Int32) K (dk_of tL_law_1 81 rfl) (by decide) ?_
            exact nn_ hR
  have b158 : ∀ (y3 : Int32) (y4 : Int32) (y5 : Int32) (y6 : Int32) (y7 : Int32) (y8 : Int32) (y9 : Int32) (σ10 : St) (τ11 : St) (ν12 : (Nat → Int32)) (δ13 : St) (π14 : (St × Int64)), some z9 = sg_act_158 i5 y3 y4 y5 y6 y7 y8 y9 σ10 τ11 ν12 δ13 π14 → V l γ X M (wB γ h σ10 ++ (wB γ g τ11 ++ (wS as9 (h 0) (g 0) an aq (ad 0) (ap 0) ++ (wN an (h 0) ν12 ++ (wR aq (h 0) ++ (wD γ ad δ13 ++ (wP γ ap π14 ++ (r)))))))) [some (.ref b), some (.ref as9), some (.int y3), some (.int y4), some (.int y5), some (.int i5), some (.int y6), some (.int y7), some (.int y8), none, none, none, none, none, none, none, none, none] cs ss 158 [.int y9] := by
    intro y3 y4 y5 y6 y7 y8 y9 σ10 τ11 ν12 δ13 π14 hR
    unfold sg_act_158 at hR
    refine r_istore 158 9 [some (.ref b), some (.ref as9), some (.int y3), some (.int y4), some (.int y5), some (.int i5), some (.int y6), some (.int y7), some (.int y8), some (.int y9), none, none, none, none, none, none, none, none] K (dk_of tL_law_0 85 rfl) rfl rfl (by decide) ?_
    refine r_iload 160 5 K (dk_of tL_law_0 86 rfl) rfl ?_
    refine r_if_ne 162 169 K (dk_of tL_law_0 87 rfl) (by decide) hR (fun hR => ?_) (fun hR => ?_)
    · refine r_iconst 165 (0 : Int32) K (dk_of tL_law_0 88 rfl) (by decide) ?_
      refine r_goto 166 179 K (dk_of tL_law_0 89 rfl) (by decide) ?_
      exact b179 y3 y4 y5 y6 y7 y8 y9 (0 : Int32) σ10 τ11 ν12 δ13 π14 hR
    · refine r_iload 169 6 K (dk_of tL_law_0 90 rfl) rfl ?_
      refine r_bipush 171 (20 : Int32) K (dk_of tL_law_0 91 rfl) (by decide) ?_
      refine r_ishr 173 K (dk_of tL_law_0 92 rfl) ?_
      refine r_bipush 174 (11 : Int32) K (dk_of tL_law_0 93 rfl) (by decide) ?_
      obtain ⟨x330, hc, hR⟩ := o1 hR
      refine r_cSi 176 [.int (y6 >>> ((20 : Int32) &&& 31)), .int (11 : Int32)] [] x330 (wB γ h σ10 ++ (wB γ g τ11 ++ (wS as9 (h 0) (g 0) an aq (ad 0) (ap 0) ++ (wN an (h 0) ν12 ++ (wR aq (h 0) ++ (wD γ ad δ13 ++ (wP γ ap π14 ++ (r)))))))) K (ct_L_low hl hc.symm) cs_L_60 ⟨rfl, rfl, rfl⟩ (dk_of tL_law_0 94 rfl) rfl rfl rfl (bbL (by omega) (by omega)) ?_
      exact b179 y3 y4 y5 y6 y7 y8 y9 x330 σ10 τ11 ν12 δ13 π14 hR
  refine r_istore 132 7 [some (.ref b), some (.ref as9), some (.int i2), some (.int i3), some (.int i4), some (.int i5), some (.int c0), some (.int c1), none, none, none, none, none, none, none, none, none, none] K (dk_of tL_law_0 72 rfl) rfl rfl (by decide) ?_
  refine r_iload 134 7 K (dk_of tL_law_0 73 rfl) rfl ?_
  refine r_bipush 136 (24 : Int32) K (dk_of tL_law_0 74 rfl) (by decide) ?_
  obtain ⟨x1, hc, hR⟩ := o1 hR
  refine r_cSi 138 [.int c1, .int (24 : Int32)] [] x1 (wB γ h σ ++ (wB γ g τ ++ (wS as9 (h 0) (g 0) an aq (ad 0) (ap 0) ++ (wN an (h 0) ν ++ (wR aq (h 0) ++ (wD γ ad δ ++ (wP γ ap π ++ (r)))))))) K (ct_L_low hl hc.symm) cs_L_60 ⟨rfl, rfl, rfl⟩ (dk_of tL_law_0 75 rfl) rfl rfl rfl (bbL (by omega) (by omega)) ?_
  refine r_istore 141 8 [some (.ref b), some (.ref as9), some (.int i2), some (.int i3), some (.int i4), some (.int i5), some (.int c0), some (.int c1), some (.int x1), none, none, none, none, none, none, none, none, none] K (dk_of tL_law_0 76 rfl) rfl rfl (by decide) ?_
  refine r_aload_n 143 1 K (dk_of tL_law_0 77 rfl) rfl rfl ?_
  refine r_iload 144 8 K (dk_of tL_law_0 78 rfl) rfl ?_
  refine r_iconst 146 (3 : Int32) K (dk_of tL_law_0 79 rfl) (by decide) ?_
  obtain ⟨x2, hc, hR⟩ := ot1 hR
  refine r_cVi 147 52 [.int x1, .int (3 : Int32)] [] x2 (wB γ h σ ++ (wB γ g τ ++ (wS as9 (h 0) (g 0) an aq (ad 0) (ap 0) ++ (wN an (h 0) ν ++ (wR aq (h 0) ++ (wD γ ad δ ++ (wP γ ap π ++ (r)))))))) K (ct_X9_at hl (z := .inl x2) hc.symm) cs_L_44 ⟨rfl, rfl, rfl⟩ (dk_of tL_law_0 80 rfl) rfl rfl rfl rfl rfl (bbL (by omega) (by omega)) ?_
  refine r_if_ne 150 157 K (dk_of tL_law_0 81 rfl) (by decide) hR (fun hR => ?_) (fun hR => ?_)
  · refine r_iconst 153 (1 : Int32) K (dk_of tL_law_0 82 rfl) (by decide) ?_
    refine r_goto 154 158 K (dk_of tL_law_0 83 rfl) (by decide) ?_
    exact b158 i2 i3 i4 c0 c1 x1 (1 : Int32) σ τ ν δ π hR
  · refine r_iconst 157 (0 : Int32) K (dk_of tL_law_0 84 rfl) (by decide) ?_
    exact b158 i2 i3 i4 c0 c1 x1 (0 : Int32) σ τ ν δ π hR

def st_cl (i2 : Int32) (i4 : Int32) (c0 : Int32) (σ : St) (τ : St) (ν : (Nat → Int32)) (δ : St) (π : (St × Int64)) : Option (Int32) := b1 (sp_L_low c0 (5 : Int32)) (fun (x1 : Int32) => sl (((1 : Int32) + x1)) (fun x2 : Int32 => some x2))
set_option maxHeartbeats 4000000 in
set_option maxRecDepth 100000 in
theorem law_cl {l : Launch} (hl : l.stackTraces = false) {γ : Gd} {h g : Nat → Nat} {as9 an aq : Nat} {ad ap : Nat → Nat} {r : va_W} {σ : St} {τ : St} {ν : (Nat → Int32)} {δ : St} {π : (St × Int64)} {X : CX} {M : MX} {y : MethodName} {tb : List ExceptionTableEntry} {b : Nat} {i2 i4 c0 : Int32} {cs ss : Nat} (K : KX l γ X M y cL_law RL 18 rmL (some .boolean) tb) (hcs : cs + 0 ≤ 205) (hss : ss + 0 ≤ 2077) {z9 : Int32} (hR : some z9 = st_cl i2 i4 c0 σ τ ν δ π)
    (kk : V l γ X M (wB γ h σ ++ (wB γ g τ ++ (wS as9 (h 0) (g 0) an aq (ad 0) (ap 0) ++ (wN an (h 0) ν ++ (wR aq (h 0) ++ (wD γ ad δ ++ (wP γ ap π ++ (r)))))))) [some (.ref b), some (.ref as9), some (.int i2), none, some (.int i4), some (.int z9), none, none, none, none, none, none, none, none, none, none, none, none] cs ss 980 []) : V l γ X M (wB γ h σ ++ (wB γ g τ ++ (wS as9 (h 0) (g 0) an aq (ad 0) (ap 0) ++ (wN an (h 0) ν ++ (wR aq (h 0) ++ (wD γ ad δ ++ (wP γ ap π ++ (r)))))))) [some (.ref b), some (.ref as9), some (.int i2), none, some (.int i4), none, none, none, none, none, none, none, none, none, none, none, none, none] cs ss 973 [.int c0, .int (1 : Int32)] := by
  unfold st_cl at hR
  refine r_iconst 973 (5 : Int32) K (dk_of tL_law_5 2 rfl) (by decide) ?_
  obtain ⟨x1, hc, hR⟩ := o1 hR
  refine r_cSi 974 [.int c0, .int (5 : Int32)] [.int (1 : Int32)] x1 (wB γ h σ ++ (wB γ g τ ++ (wS as9 (h 0) (g 0) an aq (ad 0) (ap 0) ++ (wN an (h 0) ν ++ (wR aq (h 0) ++ (wD γ ad δ ++ (wP γ ap π ++ (r)))))))) K (ct_L_low hl hc.symm) cs_L_60 ⟨rfl, rfl, rfl⟩ (dk_of tL_law_5 3 rfl) rfl rfl rfl (bbL (by omega) (by omega)) ?_
  refine r_iadd 977 K (dk_of tL_law_5 4 rfl) ?_
  refine r_nmI hR (fun x2 hR => ?_)
  refine r_istore 978 5 [some (.ref b), some (.ref as9), some (.int i2), none, some (.int i4), some (.int x2), none, none, none, none, none, none, none, none, none, none, none, none] K (dk_of tL_law_5 5 rfl) rfl rfl (by decide) ?_
  have e9 := Option.some.inj hR
  rw [e9] at kk
  exact r_msk [true, true, true, true, true, true, true, true, true, true, true, true, true, true, true, true, true, true] [some (.ref b), some (.ref as9), some (.int i2), none, some (.int i4), some (.int x2), none, none, none, none, none, none, none, none, none, none, none, none] rfl (kk)

def st_cb (i2 : Int32) (i4 : Int32) (i5 : Int32) (i6 : Int32) (i7 : Int32) (c0 : Int32) (σ : St) (τ : St) (ν : (Nat → Int32)) (δ : St) (π : (St × Int64)) : Option (Int32 × (St × Int64)) := b1 (sp_L_low c0 (900000 : Int32)) (fun (x1 : Int32) => sl (((1 : Int32) + x1)) (fun x2 : Int32 => bt2 (sp_X9_claim x2 π) (fun (x3 : Int32) (π4 : (St × Int64)) => sl ((i6 + x2)) (fun x5 : Int32 => some (x5, π4)))))
set_option maxHeartbeats 4000000 in
set_option maxRecDepth 100000 in
theorem law_cb {l : Launch} (hl : l.stackTraces = false) {γ : Gd} {h g : Nat → Nat} {as9 an aq : Nat} {ad ap : Nat → Nat} {r : va_W} {σ : St} {τ : St} {ν : (Nat → Int32)} {δ : St} {π : (St × Int64)} {X : CX} {M : MX} {y : MethodName} {tb : List ExceptionTableEntry} {b : Nat} {i2 i4 i5 i6 i7 c0 : Int32} {cs ss : Nat} (K : KX l γ X M y cL_law RL 18 rmL (some .boolean) tb) (hcs : cs + 0 ≤ 205) (hss : ss + 0 ≤ 2077) {z9 : Int32 × (St × Int64)} (hR : some z9 = st_cb i2 i4 i5 i6 i7 c0 σ τ ν δ π)
    (kk : V l γ X M (wB γ h σ ++ (wB γ g τ ++ (wS as9 (h 0) (g 0) an aq (ad 0) (ap 0) ++ (wN an (h 0) ν ++ (wR aq (h 0) ++ (wD γ ad δ ++ (wP γ ap z9.2 ++ (r)))))))) [some (.ref b), some (.ref as9), some (.int i2), none, some (.int i4), some (.int i5), some (.int z9.1), some (.int i7), none, none, none, none, none, none, none, none, none, none] cs ss 1025 []) : V l γ X M (wB γ h σ ++ (wB γ g τ ++ (wS as9 (h 0) (g 0) an aq (ad 0) (ap 0) ++ (wN an (h 0) ν ++ (wR aq (h 0) ++ (wD γ ad δ ++ (wP γ ap π ++ (r)))))))) [some (.ref b), some (.ref as9), some (.int i2), none, some (.int i4), some (.int i5), some (.int i6), some (.int i7), none, none, none, none, none, none, none, none, none, none] cs ss 1003 [.int c0, .int (1 : Int32)] := by
  unfold st_cb at hR
  refine r_ldc 1003 900000 K (dk_of tL_law_5 19 rfl) w895 ?_
  obtain ⟨x1, hc, hR⟩ := o1 hR
  refine r_cSi 1005 [.int c0, .int (900000 : Int32)] [.int (1 : Int32)] x1 (wB γ h σ ++ (wB γ g τ ++ (wS as9 (h 0) (g 0) an aq (ad 0) (ap 0) ++ (wN an (h 0) ν ++ (wR aq (h 0) ++ (wD γ ad δ ++ (wP γ ap π ++ (r)))))))) K (ct_L_low hl hc.symm) cs_L_60 ⟨rfl, rfl, rfl⟩ (dk_of tL_law_5 20 rfl) rfl rfl rfl (bbL (by omega) (by omega)) ?_
  refine r_iadd 1008 K (dk_of tL_law_5 21 rfl) ?_
  refine r_nmI hR (fun x2 hR => ?_)
  refine r_istore 1009 8 [some (.ref b), some (.ref as9), some (.int i2), none, some (.int i4), some (.int i5), some (.int i6), some (.int i7), some (.int x2), none, none, none, none, none, none, none, none, none] K (dk_of tL_law_5 22 rfl) rfl rfl (by decide) ?_
  refine r_aload_n 1011 1 K (dk_of tL_law_5 23 rfl) rfl rfl ?_
  refine r_iload 1012 8 K (dk_of tL_law_5 24 rfl) rfl ?_
  obtain ⟨x3, π4, hc, hR⟩ := ot2 hR
  refine r_cVi 1014 52 [.int x2] [] x3 (wB γ h σ ++ (wB γ g τ ++ (wS as9 (h 0) (g 0) an aq (ad 0) (ap 0) ++ (wN an (h 0) ν ++ (wR aq (h 0) ++ (wD γ ad δ ++ (wP γ ap π4 ++ (r)))))))) K (ct_X9_claim hl (z := .inl (x3, π4)) hc.symm) cs_L_109 ⟨rfl, rfl, rfl⟩ (dk_of tL_law_5 25 rfl) rfl rfl rfl rfl rfl (bbL (by omega) (by omega)) ?_
  refine r_pop 1017 K (dk_of tL_law_5 26 rfl) rfl ?_
  refine r_iload 1018 6 K (dk_of tL_law_5 27 rfl) rfl ?_
  refine r_iload 1020 8 K (dk_of tL_law_5 28 rfl) rfl ?_
  refine r_iadd 1022 K (dk_of tL_law_5 29 rfl) ?_
  refine r_nmI hR (fun x5 hR => ?_)
  refine r_istore 1023 6 [some (.ref b), some (.ref as9), some (.int i2), none, some (.int i4), some (.int i5), some (.int x5), some (.int i7), some (.int x2), none, none, none, none, none, none, none, none, none] K (dk_of tL_law_5 30 rfl) rfl rfl (by decide) ?_
  cases hR
  exact r_msk [true, true, true, true, true, true, true, true, false, true, true, true, true, true, true, true, true, true] [some (.ref b), some (.ref as9), some (.int i2), none, some (.int i4), some (.int i5), some (.int x5), some (.int i7), none, none, none, none, none, none, none, none, none, none] rfl (kk)

def st_ow (i2 : Int32) (i4 : Int32) (i5 : Int32) (i6 : Int32) (c0 : Int32) (σ : St) (τ : St) (ν : (Nat → Int32)) (δ : St) (π : (St × Int64)) : Option (Int32) := b1 (sp_L_low c0 (2000000 : Int32)) (fun (x1 : Int32) => some x1)
set_option maxHeartbeats 4000000 in
set_option maxRecDepth 100000 in
theorem law_ow {l : Launch} (hl : l.stackTraces = false) {γ : Gd} {h g : Nat → Nat} {as9 an aq : Nat} {ad ap : Nat → Nat} {r : va_W} {σ : St} {τ : St} {ν : (Nat → Int32)} {δ : St} {π : (St × Int64)} {X : CX} {M : MX} {y : MethodName} {tb : List ExceptionTableEntry} {b : Nat} {i2 i4 i5 i6 c0 : Int32} {cs ss : Nat} (K : KX l γ X M y cL_law RL 18 rmL (some .boolean) tb) (hcs : cs + 0 ≤ 205) (hss : ss + 0 ≤ 2077) {z9 : Int32} (hR : some z9 = st_ow i2 i4 i5 i6 c0 σ τ ν δ π)
    (kk : V l γ X M (wB γ h σ ++ (wB γ g τ ++ (wS as9 (h 0) (g 0) an aq (ad 0) (ap 0) ++ (wN an (h 0) ν ++ (wR aq (h 0) ++ (wD γ ad δ ++ (wP γ ap π ++ (r)))))))) [some (.ref b), some (.ref as9), some (.int i2), none, some (.int i4), some (.int i5), some (.int i6), some (.int z9), none, none, none, none, none, none, none, none, none, none] cs ss 1044 []) : V l γ X M (wB γ h σ ++ (wB γ g τ ++ (wS as9 (h 0) (g 0) an aq (ad 0) (ap 0) ++ (wN an (h 0) ν ++ (wR aq (h 0) ++ (wD γ ad δ ++ (wP γ ap π ++ (r)))))))) [some (.ref b), some (.ref as9), some (.int i2), none, some (.int i4), some (.int i5), some (.int i6), none, none, none, none, none, none, none, none, none, none, none] cs ss 1037 [.int c0] := by
  unfold st_ow at hR
  refine r_ldc 1037 2000000 K (dk_of tL_law_5 36 rfl) w896 ?_
  obtain ⟨x1, hc, hR⟩ := o1 hR
  refine r_cSi 1039 [.int c0, .int (2000000 : Int32)] [] x1 (wB γ h σ ++ (wB γ g τ ++ (wS as9 (h 0) (g 0) an aq (ad 0) (ap 0) ++ (wN an (h 0) ν ++ (wR aq (h 0) ++ (wD γ ad δ ++ (wP γ ap π ++ (r)))))))) K (ct_L_low hl hc.symm) cs_L_60 ⟨rfl, rfl, rfl⟩ (dk_of tL_law_5 37 rfl) rfl rfl rfl (bbL (by omega) (by omega)) ?_
  refine r_istore 1042 7 [some (.ref b), some (.ref as9), some (.int i2), none, some (.int i4), some (.int i5), some (.int i6), some (.int x1), none, none, none, none, none, none, none, none, none, none] K (dk_of tL_law_5 38 rfl) rfl rfl (by decide) ?_
  have e9 := Option.some.inj hR
  rw [e9] at kk
  exact r_msk [true, true, true, true, true, true, true, true, true, true, true, true, true, true, true, true, true, true] [some (.ref b), some (.ref as9), some (.int i2), none, some (.int i4), some (.int i5), some (.int i6), some (.int x1), none, none, none, none, none, none, none, none, none, none] rfl (kk)

def st_fu (i2 : Int32) (i4 : Int32) (i5 : Int32) (i6 : Int32) (i7 : Int32) (c0 : Int32) (σ : St) (τ : St) (ν : (Nat → Int32)) (δ : St) (π : (St × Int64)) : Option (Int32 × (St × Int64)) := b1 (sp_L_low c0 (2000000 : Int32)) (fun (x1 : Int32) => bt2 (sp_X9_layers i7 x1 π) (fun (x2 : Int32) (π3 : (St × Int64)) => some (x1, π3)))
set_option maxHeartbeats 4000000 in
set_option maxRecDepth 100000 in
theorem law_fu {l : Launch} (hl : l.stackTraces = false) {γ : Gd} {h g : Nat → Nat} {as9 an aq : Nat} {ad ap : Nat → Nat} {r : va_W} {σ : St} {τ : St} {ν : (Nat → Int32)} {δ : St} {π : (St × Int64)} {X : CX} {M : MX} {y : MethodName} {tb : List ExceptionTableEntry} {b : Nat} {i2 i4 i5 i6 i7 c0 : Int32} {cs ss : Nat} (K : KX l γ X M y cL_law RL 18 rmL (some .boolean) tb) (hcs : cs + 0 ≤ 205) (hss : ss + 0 ≤ 2077) {z9 : Int32 × (St × Int64)} (hR : some z9 = st_fu i2 i4 i5 i6 i7 c0 σ τ ν δ π)
    (kk : V l γ X M (wB γ h σ ++ (wB γ g τ ++ (wS as9 (h 0) (g 0) an aq (ad 0) (ap 0) ++ (wN an (h 0) ν ++ (wR aq (h 0) ++ (wD γ ad δ ++ (wP γ ap z9.2 ++ (r)))))))) [some (.ref b), some (.ref as9), some (.int i2), none, some (.int i4), some (.int i5), some (.int i6), some (.int i7), some (.int z9.1), none, none, none, none, none, none, none, none, none] cs ss 1066 []) : V l γ X M (wB γ h σ ++ (wB γ g τ ++ (wS as9 (h 0) (g 0) an aq (ad 0) (ap 0) ++ (wN an (h 0) ν ++ (wR aq (h 0) ++ (wD γ ad δ ++ (wP γ ap π ++ (r)))))))) [some (.ref b), some (.ref as9), some (.int i2), none, some (.int i4), some (.int i5), some (.int i6), some (.int i7), none, none, none, none, none, none, none, none, none, none] cs ss 1050 [.int c0] := by
  unfold st_fu at hR
  refine r_ldc 1050 2000000 K (dk_of tL_law_5 42 rfl) w896 ?_
  obtain ⟨x1, hc, hR⟩ := o1 hR
  refine r_cSi 1052 [.int c0, .int (2000000 : Int32)] [] x1 (wB γ h σ ++ (wB γ g τ ++ (wS as9 (h 0) (g 0) an aq (ad 0) (ap 0) ++ (wN an (h 0) ν ++ (wR aq (h 0) ++ (wD γ ad δ ++ (wP γ ap π ++ (r)))))))) K (ct_L_low hl hc.symm) cs_L_60 ⟨rfl, rfl, rfl⟩ (dk_of tL_law_5 43 rfl) rfl rfl rfl (bbL (by omega) (by omega)) ?_
  refine r_istore 1055 8 [some (.ref b), some (.ref as9), some (.int i2), none, some (.int i4), some (.int i5), some (.int i6), some (.int i7), some (.int x1), none, none, none, none, none, none, none, none, none] K (dk_of tL_law_5 44 rfl) rfl rfl (by decide) ?_
  refine r_aload_n 1057 1 K (dk_of tL_law_5 45 rfl) rfl rfl ?_
  refine r_iload 1058 7 K (dk_of tL_law_5 46 rfl) rfl ?_
  refine r_iload 1060 8 K (dk_of tL_law_5 47 rfl) rfl ?_
  obtain ⟨x2, π3, hc, hR⟩ := ot2 hR
  refine r_cVi 1062 52 [.int i7, .int x1] [] x2 (wB γ h σ ++ (wB γ g τ ++ (wS as9 (h 0) (g 0) an aq (ad 0) (ap 0) ++ (wN an (h 0) ν ++ (wR aq (h 0) ++ (wD γ ad δ ++ (wP γ ap π3 ++ (r)))))))) K (ct_X9_layers hl (z := .inl (x2, π3)) hc.symm) cs_L_113 ⟨rfl, rfl, rfl⟩ (dk_of tL_law_5 48 rfl) rfl rfl rfl rfl rfl (bbL (by omega) (by omega)) ?_
  refine r_pop 1065 K (dk_of tL_law_5 49 rfl) rfl ?_
  cases hR
  exact r_msk [true, true, true, true, true, true, true, true, true, true, true, true, true, true, true, true, true, true] [some (.ref b), some (.ref as9), some (.int i2), none, some (.int i4), some (.int i5), some (.int i6), some (.int i7), some (.int x1), none, none, none, none, none, none, none, none, none] rfl (kk)

def st_db (i2 : Int32) (i4 : Int32) (i5 : Int32) (i6 : Int32) (i7 : Int32) (i8 : Int32) (i9 : Int32) (i10 : Int32) (i11 : Int32) (σ : St) (τ : St) (ν : (Nat → Int32)) (δ : St) (π : (St × Int64)) : Option (Int32 × Int32) := bt1 (sp_X9_due i11 (0 : Int32) π) (fun (x1 : Int32) => sl ((i10 + x1)) (fun x2 : Int32 => bt1 (sp_X9_due i11 (0 : Int32) π) (fun (x3 : Int32) => bt1 (sp_X9_due i11 (1 : Int32) π) (fun (x4 : Int32) => sl ((i9 + (x3 + x4))) (fun x5 : Int32 => some (x5, x2))))))
set_option maxHeartbeats 4000000 in
set_option maxRecDepth 100000 in
theorem law_db {l : Launch} (hl : l.stackTraces = false) {γ : Gd} {h g : Nat → Nat} {as9 an aq : Nat} {ad ap : Nat → Nat} {r : va_W} {σ : St} {τ : St} {ν : (Nat → Int32)} {δ : St} {π : (St × Int64)} {X : CX} {M : MX} {y : MethodName} {tb : List ExceptionTableEntry} {b : Nat} {i2 i4 i5 i6 i7 i8 i9 i10 i11 : Int32} {cs ss : Nat} (K : KX l γ X M y cL_law RL 18 rmL (some .boolean) tb) (hcs : cs + 0 ≤ 205) (hss : ss + 0 ≤ 2077) {z9 : Int32 × Int32} (hR : some z9 = st_db i2 i4 i5 i6 i7 i8 i9 i10 i11 σ τ ν δ π)
    (kk : V l γ X M (wB γ h σ ++ (wB γ g τ ++ (wS as9 (h 0) (g 0) an aq (ad 0) (ap 0) ++ (wN an (h 0) ν ++ (wR aq (h 0) ++ (wD γ ad δ ++ (wP γ ap π ++ (r)))))))) [some (.ref b), some (.ref as9), some (.int i2), none, some (.int i4), some (.int i5), some (.int i6), some (.int i7), some (.int i8), some (.int z9.1), some (.int z9.2), some (.int i11), none, none, none, none, none, none] cs ss 1114 []) : V l γ X M (wB γ h σ ++ (wB γ g τ ++ (wS as9 (h 0) (g 0) an aq (ad 0) (ap 0) ++ (wN an (h 0) ν ++ (wR aq (h 0) ++ (wD γ ad δ ++ (wP γ ap π ++ (r)))))))) [some (.ref b), some (.ref as9), some (.int i2), none, some (.int i4), some (.int i5), some (.int i6), some (.int i7), some (.int i8), some (.int i9), some (.int i10), some (.int i11), none, none, none, none, none, none] cs ss 1082 [] := by
  unfold st_db at hR
  refine r_iload 1082 10 K (dk_of tL_law_5 59 rfl) rfl ?_
  refine r_aload_n 1084 1 K (dk_of tL_law_5 60 rfl) rfl rfl ?_
  refine r_iload 1085 11 K (dk_of tL_law_5 61 rfl) rfl ?_
  refine r_iconst 1087 (0 : Int32) K (dk_of tL_law_5 62 rfl) (by decide) ?_
  obtain ⟨x1, hc, hR⟩ := ot1 hR
  refine r_cVi 1088 52 [.int i11, .int (0 : Int32)] [.int i10] x1 (wB γ h σ ++ (wB γ g τ ++ (wS as9 (h 0) (g 0) an aq (ad 0) (ap 0) ++ (wN an (h 0) ν ++ (wR aq (h 0) ++ (wD γ ad δ ++ (wP γ ap π ++ (r)))))))) K (ct_X9_due hl (z := .inl x1) hc.symm) cs_L_116 ⟨rfl, rfl, rfl⟩ (dk_of tL_law_5 63 rfl) rfl rfl rfl rfl rfl (bbL (by omega) (by omega)) ?_
  refine r_iadd 1091 K (dk_of tL_law_5 64 rfl) ?_
  refine r_nmI hR (fun x2 hR => ?_)
  refine r_istore 1092 10 [some (.ref b), some (.ref as9), some (.int i2), none, some (.int i4), some (.int i5), some (.int i6), some (.int i7), some (.int i8), some (.int i9), some (.int x2), some (.int i11), none, none, none, none, none, none] K (dk_of tL_law_5 65 rfl) rfl rfl (by decide) ?_
  refine r_iload 1094 9 K (dk_of tL_law_5 66 rfl) rfl ?_
  refine r_aload_n 1096 1 K (dk_of tL_law_5 67 rfl) rfl rfl ?_
  refine r_iload 1097 11 K (dk_of tL_law_5 68 rfl) rfl ?_
  refine r_iconst 1099 (0 : Int32) K (dk_of tL_law_5 69 rfl) (by decide) ?_
  obtain ⟨x3, hc, hR⟩ := ot1 hR
  refine r_cVi 1100 52 [.int i11, .int (0 : Int32)] [.int i9] x3 (wB γ h σ ++ (wB γ g τ ++ (wS as9 (h 0) (g 0) an aq (ad 0) (ap 0) ++ (wN an (h 0) ν ++ (wR aq (h 0) ++ (wD γ ad δ ++ (wP γ ap π ++ (r)))))))) K (ct_X9_due hl (z := .inl x3) hc.symm) cs_L_116 ⟨rfl, rfl, rfl⟩ (dk_of tL_law_5 70 rfl) rfl rfl rfl rfl rfl (bbL (by omega) (by omega)) ?_
  refine r_aload_n 1103 1 K (dk_of tL_law_5 71 rfl) rfl rfl ?_
  refine r_iload 1104 11 K (dk_of tL_law_5 72 rfl) rfl ?_
  refine r_iconst 1106 (1 : Int32) K (dk_of tL_law_5 73 rfl) (by decide) ?_
  obtain ⟨x4, hc, hR⟩ := ot1 hR
  refine r_cVi 1107 52 [.int i11, .int (1 : Int32)] [.int x3, .int i9] x4 (wB γ h σ ++ (wB γ g τ ++ (wS as9 (h 0) (g 0) an aq (ad 0) (ap 0) ++ (wN an (h 0) ν ++ (wR aq (h 0) ++ (wD γ ad δ ++ (wP γ ap π ++ (r)))))))) K (ct_X9_due hl (z := .inl x4) hc.symm) cs_L_116 ⟨rfl, rfl, rfl⟩ (dk_of tL_law_5 74 rfl) rfl rfl rfl rfl rfl (bbL (by omega) (by omega)) ?_
  refine r_iadd 1110 K (dk_of tL_law_5 75 rfl) ?_
  refine r_iadd 1111 K (dk_of tL_law_5 76 rfl) ?_
  refine r_nmI hR (fun x5 hR => ?_)
  refine r_istore 1112 9 [some (.ref b), some (.ref as9), some (.int i2), none, some (.int i4), some (.int i5), some (.int i6), some (.int i7), some (.int i8), some (.int x5), some (.int x2), some (.int i11), none, none, none, none, none, none] K (dk_of tL_law_5 77 rfl) rfl rfl (by decide) ?_
  cases hR
  exact r_msk [true, true, true, true, true, true, true, true, true, true, true, true, true, true, true, true, true, true] [some (.ref b), some (.ref as9), some (.int i2), none, some (.int i4), some (.int i5), some (.int i6), some (.int i7), some (.int i8), some (.int x5), some (.int x2), some (.int i11), none, none, none, none, none, none] rfl (kk)

def sg_en_1140 (y1 : Int32) (y2 : Int32) (y3 : Int32) (y4 : Int32) (y5 : Int32) (y6 : Int32) (y7 : Int32) (σ8 : St) (τ9 : St) (ν10 : (Nat → Int32)) (δ11 : St) (π12 : (St × Int64)) : Option (Unit) := if y7 < y5 then (none) else (if y5 ≤ (y7 - y3) then (none) else (if y4 < y6 then (none) else (b1 (sp_L_closes y1 y2 σ8 δ11) (fun (x13 : Int32) => if x13 = 0 then (none) else (some ())))))
def st_en (i2 : Int32) (i4 : Int32) (i5 : Int32) (i6 : Int32) (i7 : Int32) (i8 : Int32) (i9 : Int32) (i10 : Int32) (σ : St) (τ : St) (ν : (Nat → Int32)) (δ : St) (π : (St × Int64)) : Option (Unit) := if i6 ≤ (i7 + i8) then (sg_en_1140 i2 i4 i5 i7 i9 i10 i6 σ τ ν δ π) else (sg_en_1140 i2 i4 i5 i7 i9 i10 (i7 + i8) σ τ ν δ π)
set_option maxHeartbeats 4000000 in
set_option maxRecDepth 100000 in
theorem law_en {l : Launch} (hl : l.stackTraces = false) {γ : Gd} {h g : Nat → Nat} {as9 an aq : Nat} {ad ap : Nat → Nat} {r : va_W} {σ : St} {τ : St} {ν : (Nat → Int32)} {δ : St} {π : (St × Int64)} {X : CX} {M : MX} {y : MethodName} {tb : List ExceptionTableEntry} {b : Nat} {i2 i4 i5 i6 i7 i8 i9 i10 : Int32} {cs ss : Nat} (K : KX l γ X M y cL_law RL 18 rmL (some .boolean) tb) (hcs : cs + 0 ≤ 205) (hss : ss + 0 ≤ 2077) {z9 : Unit} (hR : some z9 = st_en i2 i4 i5 i6 i7 i8 i9 i10 σ τ ν δ π)
    (hend : ∀ (cs ss : Nat) (w : va_W) (L : List (Option Value)), cs ≤ 205 → ss ≤ 2077 → V l γ X M w L cs ss 1181 [.int 1]) : V l γ X M (wB γ h σ ++ (wB γ g τ ++ (wS as9 (h 0) (g 0) an aq (ad 0) (ap 0) ++ (wN an (h 0) ν ++ (wR aq (h 0) ++ (wD γ ad δ ++ (wP γ ap π ++ (r)))))))) [some (.ref b), some (.ref as9), some (.int i2), none, some (.int i4), some (.int i5), some (.int i6), some (.int i7), some (.int i8), some (.int i9), some (.int i10), none, none, none, none, none, none, none] cs ss 1120 [] := by
  unfold st_en at hR
  have b1140 : ∀ (y1 : Int32) (y2 : Int32) (y3 : Int32) (y4 : Int32) (y5 : Int32) (y6 : Int32) (y7 : Int32) (σ8 : St) (τ9 : St) (ν10 : (Nat → Int32)) (δ11 : St) (π12 : (St × Int64)), some z9 = sg_en_1140 y1 y2 y3 y4 y5 y6 y7 σ8 τ9 ν10 δ11 π12 → V l γ X M (wB γ h σ8 ++ (wB γ g τ9 ++ (wS as9 (h 0) (g 0) an aq (ad 0) (ap 0) ++ (wN an (h 0) ν10 ++ (wR aq (h 0) ++ (wD γ ad δ11 ++ (wP γ ap π12 ++ (r)))))))) [none, some (.ref as9), some (.int y1), none, some (.int y2), some (.int y3), none, some (.int y4), none, some (.int y5), some (.int y6), none, none, none, none, none, none, none] cs ss 1140 [.int y7] := by
    intro y1 y2 y3 y4 y5 y6 y7 σ8 τ9 ν10 δ11 π12 hR
    unfold sg_en_1140 at hR
    refine r_istore 1140 11 [none, some (.ref as9), some (.int y1), none, some (.int y2), some (.int y3), none, some (.int y4), none, some (.int y5), some (.int y6), some (.int y7), none, none, none, none, none, none] K (dk_of tL_law_5 90 rfl) rfl rfl (by decide) ?_
    refine r_iload 1142 9 K (dk_of tL_law_5 91 rfl) rfl ?_
    refine r_iload 1144 11 K (dk_of tL_law_5 92 rfl) rfl ?_
    refine r_ic_gt 1146 1180 K (dk_of tL_law_5 93 rfl) (by decide) hR (fun hR => ?_) (fun hR => ?_)
    · refine r_iconst 1180 (0 : Int32) K (dk_of tL_law_6 9 rfl) (by decide) ?_
      exact nn_ hR
    · refine r_iload 1149 9 K (dk_of tL_law_5 94 rfl) rfl ?_
      refine r_iload 1151 11 K (dk_of tL_law_5 95 rfl) rfl ?_
      refine r_iload 1153 5 K (dk_of tL_law_5 96 rfl) rfl ?_
      refine r_isub 1155 K (dk_of tL_law_5 97 rfl) ?_
      refine r_ic_le 1156 1180 K (dk_of tL_law_5 98 rfl) (by decide) hR (fun hR => ?_) (fun hR => ?_)
      · refine r_iconst 1180 (0 : Int32) K (dk_of tL_law_6 9 rfl) (by decide) ?_
        exact nn_ hR
      · refine r_iload 1159 10 K (dk_of tL_law_5 99 rfl) rfl ?_
        refine r_iload 1161 7 K (dk_of tL_law_6 0 rfl) rfl ?_
        refine r_ic_gt 1163 1180 K (dk_of tL_law_6 1 rfl) (by decide) hR (fun hR => ?_) (fun hR => ?_)
        · refine r_iconst 1180 (0 : Int32) K (dk_of tL_law_6 9 rfl) (by decide) ?_
          exact nn_ hR
        · refine r_aload_n 1166 1 K (dk_of tL_law_6 2 rfl) rfl rfl ?_
          refine r_iload_n 1167 2 K (dk_of tL_law_6 3 rfl) rfl rfl ?_
          refine r_iload 1168 4 K (dk_of tL_law_6 4 rfl) rfl ?_
          obtain ⟨x13, hc, hR⟩ := o1 hR
          refine r_cSi 1170 [.ref as9, .int y1, .int y2] [] x13 (wB γ h σ8 ++ (wB γ g τ9 ++ (wS as9 (h 0) (g 0) an aq (ad 0) (ap 0) ++ (wN an (h 0) ν10 ++ (wR aq (h 0) ++ (wD γ ad δ11 ++ (wP γ ap π12 ++ (r)))))))) K (ct_L_closes hl hc.symm) cs_L_104 ⟨rfl, rfl, rfl⟩ (dk_of tL_law_6 5 rfl) rfl rfl rfl (bbL (by omega) (by omega)) ?_
          refine r_if_eq 1173 1180 K (dk_of tL_law_6 6 rfl) (by decide) hR (fun hR => ?_) (fun hR => ?_)
          · refine r_iconst 1180 (0 : Int32) K (dk_of tL_law_6 9 rfl) (by decide) ?_
            exact nn_ hR
          · refine r_iconst 1176 (1 : Int32) K (dk_of tL_law_6 7 rfl) (by decide) ?_
            refine r_goto 1177 1181 K (dk_of tL_law_6 8 rfl) (by decide) ?_
            exact hend _ _ _ _ (by omega) (by omega)
  refine r_iload 1120 7 K (dk_of tL_law_5 80 rfl) rfl ?_
  refine r_iload 1122 8 K (dk_of tL_law_5 81 rfl) rfl ?_
  refine r_iadd 1124 K (dk_of tL_law_5 82 rfl) ?_
  refine r_iload 1125 6 K (dk_of tL_law_5 83 rfl) rfl ?_
  refine r_ic_ge 1127 1138 K (dk_of tL_law_5 84 rfl) (by decide) hR (fun hR => ?_) (fun hR => ?_)
  · refine r_iload 1138 6 K (dk_of tL_law_5 89 rfl) rfl ?_
    exact r_msk [false, true, true, true, true, true, false, true, false, true, true, true, true, true, true, true, true, true] [none, some (.ref as9), some (.int i2), none, some (.int i4), some (.int i5), none, some (.int i7), none, some (.int i9), some (.int i10), none, none, none, none, none, none, none] rfl (b1140 i2 i4 i5 i7 i9 i10 i6 σ τ ν δ π hR)
  · refine r_iload 1130 7 K (dk_of tL_law_5 85 rfl) rfl ?_
    refine r_iload 1132 8 K (dk_of tL_law_5 86 rfl) rfl ?_
    refine r_iadd 1134 K (dk_of tL_law_5 87 rfl) ?_
    refine r_goto 1135 1140 K (dk_of tL_law_5 88 rfl) (by decide) ?_
    exact r_msk [false, true, true, true, true, true, false, true, false, true, true, true, true, true, true, true, true, true] [none, some (.ref as9), some (.int i2), none, some (.int i4), some (.int i5), none, some (.int i7), none, some (.int i9), some (.int i10), none, none, none, none, none, none, none] rfl (b1140 i2 i4 i5 i7 i9 i10 (i7 + i8) σ τ ν δ π hR)
