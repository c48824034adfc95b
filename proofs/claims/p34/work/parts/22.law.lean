/-! the law, by segments -/
theorem r_wide {l : Launch} {γ : Gd} {X : CX} {M : MX} {w : va_W} {L : List (Option Value)} {cs ss cs2 ss2 pc : Nat} {st : List Value} (h1 : cs ≤ cs2) (h2 : ss ≤ ss2) (k : V l γ X M w L cs2 ss2 pc st) : V l γ X M w L cs ss pc st := fun H locs ls hP hD hS hl => W.widen h1 h2 (k H locs ls hP hD hS hl)
theorem cwx_tryLay : Cond.codeWith yL_tryLay cL_tryLay 6 (some .int) [(0, 60, 61, 22), (0, 60, 67, 24), (0, 60, 72, 26)] ∈ Gw := gwc in_3_1 (i := 17) rfl rfl
theorem cwx_tryMean : Cond.codeWith yL_tryMean cL_tryMean 5 (some .int) [(0, 32, 33, 22), (0, 32, 39, 26)] ∈ Gw := gwc in_3_2 (i := 8) rfl rfl
theorem cwx_tryUse : Cond.codeWith yL_tryUse cL_tryUse 4 (some .int) [(0, 6, 7, 22), (0, 6, 12, 24), (0, 6, 16, 26)] ∈ Gw := gwc in_3_3 (i := 2) rfl rfl
theorem cwx_tryWhy : Cond.codeWith yL_tryWhy cL_tryWhy 5 (some .int) [(0, 7, 8, 22), (0, 7, 14, 24), (0, 7, 19, 26)] ∈ Gw := gwc in_3_3 (i := 34) rfl rfl

def st_su (i2 : Int32) (i3 : Int32) (i4 : Int32) (i5 : Int32) (c0 : Int32) (σ : St) (τ : St) (ν : (Nat → Int32)) (δ : St) (π : (St × Int64)) : Option (St) := b1 (sp_L_low c0 (24 : Int32)) (fun (x1 : Int32) => b1 (sp_L_low (c0 >>> ((5 : Int32) &&& 31)) (4 : Int32)) (fun (x2 : Int32) => bt2 (sp_X9_shore x1 x2 σ) (fun (x3 : Int32) (σ4 : St) => b1 (sp_L_low c0 (24 : Int32)) (fun (x5 : Int32) => bt1 (sp_X9_at x5 (3 : Int32) σ4) (fun (x6 : Int32) => if x6 ≤ 0 then (some σ4) else (b1 (sp_L_low c0 (24 : Int32)) (fun (x7 : Int32) => b1 (sp_L_low (c0 >>> ((7 : Int32) &&& 31)) (30 : Int32)) (fun (x8 : Int32) => bt2 (sp_X9_birds x7 ((1 : Int32) + x8) σ4) (fun (x9 : Int32) (σ10 : St) => some σ10)))))))))
set_option maxHeartbeats 4000000 in
set_option maxRecDepth 100000 in
theorem law_su {l : Launch} (hl : l.stackTraces = false) {γ : Gd} {h g : Nat → Nat} {as9 an aq : Nat} {ad ap : Nat → Nat} {r : va_W} {σ : St} {τ : St} {ν : (Nat → Int32)} {δ : St} {π : (St × Int64)} {X : CX} {M : MX} {y : MethodName} {tb : List ExceptionTableEntry} {b : Nat} {i2 i3 i4 i5 c0 : Int32} {cs ss : Nat} (K : KX l γ X M y cL_law RL 18 rmL (some .boolean) tb) (hcs : cs + 0 ≤ 205) (hss : ss + 0 ≤ 2077) {z9 : St} (hR : some z9 = st_su i2 i3 i4 i5 c0 σ τ ν δ π)
    (kk : V l γ X M (wB γ h z9 ++ (wB γ g τ ++ (wS as9 (h 0) (g 0) an aq (ad 0) (ap 0) ++ (wN an (h 0) ν ++ (wR aq (h 0) ++ (wD γ ad δ ++ (wP γ ap π ++ (r)))))))) [some (.ref b), some (.ref as9), some (.int i2), some (.int i3), some (.int i4), some (.int i5), none, none, none, none, none, none, none, none, none, none, none, none] cs ss 92 []) : V l γ X M (wB γ h σ ++ (wB γ g τ ++ (wS as9 (h 0) (g 0) an aq (ad 0) (ap 0) ++ (wN an (h 0) ν ++ (wR aq (h 0) ++ (wD γ ad δ ++ (wP γ ap π ++ (r)))))))) [some (.ref b), some (.ref as9), some (.int i2), some (.int i3), some (.int i4), some (.int i5), none, none, none, none, none, none, none, none, none, none, none, none] cs ss 31 [.int c0] := by
  unfold st_su at hR
  refine r_istore 31 6 [some (.ref b), some (.ref as9), some (.int i2), some (.int i3), some (.int i4), some (.int i5), some (.int c0), none, none, none, none, none, none, none, none, none, none, none] K (dk_of tL_law_0 18 rfl) rfl rfl (by decide) ?_
  refine r_aload_n 33 1 K (dk_of tL_law_0 19 rfl) rfl rfl ?_
  refine r_iload 34 6 K (dk_of tL_law_0 20 rfl) rfl ?_
  refine r_bipush 36 (24 : Int32) K (dk_of tL_law_0 21 rfl) (by decide) ?_
  obtain ⟨x1, hc, hR⟩ := o1 hR
  refine r_cSi 38 [.int c0, .int (24 : Int32)] [.ref as9] x1 (wB γ h σ ++ (wB γ g τ ++ (wS as9 (h 0) (g 0) an aq (ad 0) (ap 0) ++ (wN an (h 0) ν ++ (wR aq (h 0) ++ (wD γ ad δ ++ (wP γ ap π ++ (r)))))))) K (ct_L_low hl hc.symm) cs_L_60 ⟨rfl, rfl, rfl⟩ (dk_of tL_law_0 22 rfl) rfl rfl rfl (bbL (by omega) (by omega)) ?_
  refine r_iload 41 6 K (dk_of tL_law_0 23 rfl) rfl ?_
  refine r_iconst 43 (5 : Int32) K (dk_of tL_law_0 24 rfl) (by decide) ?_
  refine r_ishr 44 K (dk_of tL_law_0 25 rfl) ?_
  refine r_iconst 45 (4 : Int32) K (dk_of tL_law_0 26 rfl) (by decide) ?_
  obtain ⟨x2, hc, hR⟩ := o1 hR
  refine r_cSi 46 [.int (c0 >>> ((5 : Int32) &&& 31)), .int (4 : Int32)] [.int x1, .ref as9] x2 (wB γ h σ ++ (wB γ g τ ++ (wS as9 (h 0) (g 0) an aq (ad 0) (ap 0) ++ (wN an (h 0) ν ++ (wR aq (h 0) ++ (wD γ ad δ ++ (wP γ ap π ++ (r)))))))) K (ct_L_low hl hc.symm) cs_L_60 ⟨rfl, rfl, rfl⟩ (dk_of tL_law_0 27 rfl) rfl rfl rfl (bbL (by omega) (by omega)) ?_
  obtain ⟨x3, σ4, hc, hR⟩ := ot2 hR
  refine r_cVi 49 52 [.int x1, .int x2] [] x3 (wB γ h σ4 ++ (wB γ g τ ++ (wS as9 (h 0) (g 0) an aq (ad 0) (ap 0) ++ (wN an (h 0) ν ++ (wR aq (h 0) ++ (wD γ ad δ ++ (wP γ ap π ++ (r)))))))) K (ct_X9_shore hl (z := .inl (x3, σ4)) hc.symm) cs_L_63 ⟨rfl, rfl, rfl⟩ (dk_of tL_law_0 28 rfl) rfl rfl rfl rfl rfl (bbL (by omega) (by omega)) ?_
  refine r_pop 52 K (dk_of tL_law_0 29 rfl) rfl ?_
  refine r_aload_n 53 1 K (dk_of tL_law_0 30 rfl) rfl rfl ?_
  refine r_iload 54 6 K (dk_of tL_law_0 31 rfl) rfl ?_
  refine r_bipush 56 (24 : Int32) K (dk_of tL_law_0 32 rfl) (by decide) ?_
  obtain ⟨x5, hc, hR⟩ := o1 hR
  refine r_cSi 58 [.int c0, .int (24 : Int32)] [.ref as9] x5 (wB γ h σ4 ++ (wB γ g τ ++ (wS as9 (h 0) (g 0) an aq (ad 0) (ap 0) ++ (wN an (h 0) ν ++ (wR aq (h 0) ++ (wD γ ad δ ++ (wP γ ap π ++ (r)))))))) K (ct_L_low hl hc.symm) cs_L_60 ⟨rfl, rfl, rfl⟩ (dk_of tL_law_0 33 rfl) rfl rfl rfl (bbL (by omega) (by omega)) ?_
  refine r_iconst 61 (3 : Int32) K (dk_of tL_law_0 34 rfl) (by decide) ?_
  obtain ⟨x6, hc, hR⟩ := ot1 hR
  refine r_cVi 62 52 [.int x5, .int (3 : Int32)] [] x6 (wB γ h σ4 ++ (wB γ g τ ++ (wS as9 (h 0) (g 0) an aq (ad 0) (ap 0) ++ (wN an (h 0) ν ++ (wR aq (h 0) ++ (wD γ ad δ ++ (wP γ ap π ++ (r)))))))) K (ct_X9_at hl (z := .inl x6) hc.symm) cs_L_44 ⟨rfl, rfl, rfl⟩ (dk_of tL_law_0 35 rfl) rfl rfl rfl rfl rfl (bbL (by omega) (by omega)) ?_
  refine r_if_le 65 92 K (dk_of tL_law_0 36 rfl) (by decide) hR (fun hR => ?_) (fun hR => ?_)
  · cases hR
    exact r_msk [true, true, true, true, true, true, false, true, true, true, true, true, true, true, true, true, true, true] [some (.ref b), some (.ref as9), some (.int i2), some (.int i3), some (.int i4), some (.int i5), none, none, none, none, none, none, none, none, none, none, none, none] rfl (kk)
  · refine r_aload_n 68 1 K (dk_of tL_law_0 37 rfl) rfl rfl ?_
    refine r_iload 69 6 K (dk_of tL_law_0 38 rfl) rfl ?_
    refine r_bipush 71 (24 : Int32) K (dk_of tL_law_0 39 rfl) (by decide) ?_
    obtain ⟨x7, hc, hR⟩ := o1 hR
    refine r_cSi 73 [.int c0, .int (24 : Int32)] [.ref as9] x7 (wB γ h σ4 ++ (wB γ g τ ++ (wS as9 (h 0) (g 0) an aq (ad 0) (ap 0) ++ (wN an (h 0) ν ++ (wR aq (h 0) ++ (wD γ ad δ ++ (wP γ ap π ++ (r)))))))) K (ct_L_low hl hc.symm) cs_L_60 ⟨rfl, rfl, rfl⟩ (dk_of tL_law_0 40 rfl) rfl rfl rfl (bbL (by omega) (by omega)) ?_
    refine r_iconst 76 (1 : Int32) K (dk_of tL_law_0 41 rfl) (by decide) ?_
    refine r_iload 77 6 K (dk_of tL_law_0 42 rfl) rfl ?_
    refine r_bipush 79 (7 : Int32) K (dk_of tL_law_0 43 rfl) (by decide) ?_
    refine r_ishr 81 K (dk_of tL_law_0 44 rfl) ?_
    refine r_bipush 82 (30 : Int32) K (dk_of tL_law_0 45 rfl) (by decide) ?_
    obtain ⟨x8, hc, hR⟩ := o1 hR
    refine r_cSi 84 [.int (c0 >>> ((7 : Int32) &&& 31)), .int (30 : Int32)] [.int (1 : Int32), .int x7, .ref as9] x8 (wB γ h σ4 ++ (wB γ g τ ++ (wS as9 (h 0) (g 0) an aq (ad 0) (ap 0) ++ (wN an (h 0) ν ++ (wR aq (h 0) ++ (wD γ ad δ ++ (wP γ ap π ++ (r)))))))) K (ct_L_low hl hc.symm) cs_L_60 ⟨rfl, rfl, rfl⟩ (dk_of tL_law_0 46 rfl) rfl rfl rfl (bbL (by omega) (by omega)) ?_
    refine r_iadd 87 K (dk_of tL_law_0 47 rfl) ?_
    obtain ⟨x9, σ10, hc, hR⟩ := ot2 hR
    refine r_cVi 88 52 [.int x7, .int ((1 : Int32) + x8)] [] x9 (wB γ h σ10 ++ (wB γ g τ ++ (wS as9 (h 0) (g 0) an aq (ad 0) (ap 0) ++ (wN an (h 0) ν ++ (wR aq (h 0) ++ (wD γ ad δ ++ (wP γ ap π ++ (r)))))))) K (ct_X9_birds hl (z := .inl (x9, σ10)) hc.symm) cs_L_66 ⟨rfl, rfl, rfl⟩ (dk_of tL_law_0 48 rfl) rfl rfl rfl rfl rfl (bbL (by omega) (by omega)) ?_
    refine r_pop 91 K (dk_of tL_law_0 49 rfl) rfl ?_
    cases hR
    exact r_msk [true, true, true, true, true, true, false, true, true, true, true, true, true, true, true, true, true, true] [some (.ref b), some (.ref as9), some (.int i2), some (.int i3), some (.int i4), some (.int i5), none, none, none, none, none, none, none, none, none, none, none, none] rfl (kk)

def sg_act_940 (y83 : Int32) (y84 : Int32) (y85 : Int32) (y86 : Int32) (σ87 : St) (τ88 : St) (ν89 : (Nat → Int32)) (δ90 : St) (π91 : (St × Int64)) : Option (Int32 × Int32 × Int32 × St × St × (Nat → Int32) × St × (St × Int64)) := if (y86 - y86 / (5 : Int32) * (5 : Int32)) = (4 : Int32) then (b1 (sp_L_closes y83 y85 σ87 δ90) (fun (x92 : Int32) => if x92 = 0 then (none) else (some (y83, y84, y85, σ87, τ88, ν89, δ90, π91)))) else (some (y83, y84, y85, σ87, τ88, ν89, δ90, π91))
def sg_act_278 (y74 : Int32) (y75 : Int32) (y76 : Int32) (y77 : Int32) (σ78 : St) (τ79 : St) (ν80 : (Nat → Int32)) (δ81 : St) (π82 : (St × Int64)) : Option (Int32 × Int32 × Int32 × St × St × (Nat → Int32) × St × (St × Int64)) := sg_act_940 y74 y75 y76 y77 σ78 τ79 ν80 δ81 π82
def sg_act_243 (y60 : Int32) (y61 : Int32) (y62 : Int32) (y63 : Int32) (y64 : Int32) (y65 : Int32) (y66 : Int32) (y67 : Int32) (y68 : Int32) (σ69 : St) (τ70 : St) (ν71 : (Nat → Int32)) (δ72 : St) (π73 : (St × Int64)) : Option (Int32 × Int32 × Int32 × St × St × (Nat → Int32) × St × (St × Int64)) := if y67 = y68 then (if y65 = 0 then (sg_act_278 y60 y61 y62 y63 σ69 τ70 ν71 δ72 π73) else (b1 (sp_L_low (y64 >>> ((5 : Int32) &&& 31)) (100 : Int32)) (fun (x93 : Int32) => bt2 (sp_X9_hole y60 x93 σ69) (fun (x94 : Int32) (σ95 : St) => sl ((y62 + y66)) (fun x96 : Int32 => sg_act_278 (y60 + 1) y61 x96 y63 σ95 τ70 ν71 δ72 π73))))) else (none)
def sg_act_201 (y42 : Int32) (y43 : Int32) (y44 : Int32) (y45 : Int32) (y46 : Int32) (y47 : Int32) (y48 : Int32) (y49 : Int32) (σ50 : St) (τ51 : St) (ν52 : (Nat → Int32)) (δ53 : St) (π54 : (St × Int64)) : Option (Int32 × Int32 × Int32 × St × St × (Nat → Int32) × St × (St × Int64)) := b1 (sp_L_low y46 (99999 : Int32)) (fun (x55 : Int32) => sl ((x55 - x55 / (9000 : Int32) * (9000 : Int32))) (fun x56 : Int32 => b1 (sp_L_low y46 (99999 : Int32)) (fun (x57 : Int32) => b2 (sp_L_tryLay (2 : Int32) y48 x57 (0 : Int32) σ50) (fun (x58 : Int32) (σ59 : St) => if y49 = 0 then (sg_act_243 y42 y43 y44 y45 y47 y49 x56 x58 (-200 : Int32) σ59 τ51 ν52 δ53 π54) else (sg_act_243 y42 y43 y44 y45 y47 y49 x56 x58 y42 σ59 τ51 ν52 δ53 π54)))))
def sg_act_200 (y30 : Int32) (y31 : Int32) (y32 : Int32) (y33 : Int32) (y34 : Int32) (y35 : Int32) (y36 : Int32) (σ37 : St) (τ38 : St) (ν39 : (Nat → Int32)) (δ40 : St) (π41 : (St × Int64)) : Option (Int32 × Int32 × Int32 × St × St × (Nat → Int32) × St × (St × Int64)) := sg_act_201 y30 y31 y32 y33 y34 y35 y36 (0 : Int32) σ37 τ38 ν39 δ40 π41
def sg_act_602 (y183 : Int32) (y184 : Int32) (y185 : Int32) (y186 : Int32) (σ187 : St) (τ188 : St) (ν189 : (Nat → Int32)) (δ190 : St) (π191 : (St × Int64)) : Option (Int32 × Int32 × Int32 × St × St × (Nat → Int32) × St × (St × Int64)) := sg_act_940 y183 y184 y185 y186 σ187 τ188 ν189 δ190 π191
def sg_act_564 (y167 : Int32) (y168 : Int32) (y169 : Int32) (y170 : Int32) (y171 : Int32) (y172 : Int32) (y173 : Int32) (y174 : Int32) (y175 : Int32) (y176 : Int32) (σ177 : St) (τ178 : St) (ν179 : (Nat → Int32)) (δ180 : St) (π181 : (St × Int64)) : Option (Int32 × Int32 × Int32 × St × St × (Nat → Int32) × St × (St × Int64)) := if y174 = (y175 + y176) then (b1 (sp_L_low (y171 >>> ((7 : Int32) &&& 31)) (3 : Int32)) (fun (x182 : Int32) => if x182 = (1 : Int32) then (if y173 < 0 then (sg_act_602 y167 y168 y169 y170 σ177 τ178 ν179 δ180 π181) else (bt1 (sp_X9_sum (8 : Int32) σ177 δ180) (fun (x192 : Int32) => if x192 = (y172 - y173) then (sg_act_602 y167 y168 y169 y170 σ177 τ178 ν179 δ180 π181) else (none)))) else (sg_act_602 y167 y168 y169 y170 σ177 τ178 ν179 δ180 π181))) else (none)
def sg_act_545 (y152 : Int32) (y153 : Int32) (y154 : Int32) (y155 : Int32) (y156 : Int32) (y157 : Int32) (y158 : Int32) (y159 : Int32) (y160 : Int32) (σ161 : St) (τ162 : St) (ν163 : (Nat → Int32)) (δ164 : St) (π165 : (St × Int64)) : Option (Int32 × Int32 × Int32 × St × St × (Nat → Int32) × St × (St × Int64)) := bt1 (sp_X9_sum (11 : Int32) σ161 δ164) (fun (x166 : Int32) => if y160 = 0 then (sg_act_564 y152 y153 y154 y155 y156 y157 y159 x166 y158 (0 : Int32) σ161 τ162 ν163 δ164 π165) else (sg_act_564 y152 y153 y154 y155 y156 y157 y159 x166 y158 y159 σ161 τ162 ν163 δ164 π165))
def sg_act_529 (y137 : Int32) (y138 : Int32) (y139 : Int32) (y140 : Int32) (y141 : Int32) (y142 : Int32) (y143 : Int32) (y144 : Int32) (y145 : Int32) (y146 : Int32) (σ147 : St) (τ148 : St) (ν149 : (Nat → Int32)) (δ150 : St) (π151 : (St × Int64)) : Option (Int32 × Int32 × Int32 × St × St × (Nat → Int32) × St × (St × Int64)) := if y142 < y138 then (sg_act_545 y137 y138 y139 y140 y141 y143 y144 y145 y146 σ147 τ148 ν149 δ150 π151) else (if y145 = (-300 : Int32) then (sg_act_545 y137 y138 y139 y140 y141 y143 y144 y145 y146 σ147 τ148 ν149 δ150 π151) else (none))
def sg_act_528 (y123 : Int32) (y124 : Int32) (y125 : Int32) (y126 : Int32) (y127 : Int32) (y128 : Int32) (y129 : Int32) (y130 : Int32) (y131 : Int32) (σ132 : St) (τ133 : St) (ν134 : (Nat → Int32)) (δ135 : St) (π136 : (St × Int64)) : Option (Int32 × Int32 × Int32 × St × St × (Nat → Int32) × St × (St × Int64)) := sg_act_529 y123 y124 y125 y126 y127 y128 y129 y130 y131 (0 : Int32) σ132 τ133 ν134 δ135 π136
def sg_act_784 (y245 : Int32) (y246 : Int32) (y247 : Int32) (y248 : Int32) (σ249 : St) (τ250 : St) (ν251 : (Nat → Int32)) (δ252 : St) (π253 : (St × Int64)) : Option (Int32 × Int32 × Int32 × St × St × (Nat → Int32) × St × (St × Int64)) := sg_act_940 y245 y246 y247 y248 σ249 τ250 ν251 δ252 π253
def sg_act_762 (y233 : Int32) (y234 : Int32) (y235 : Int32) (y236 : Int32) (y237 : Int32) (y238 : Int32) (y239 : Int32) (σ240 : St) (τ241 : St) (ν242 : (Nat → Int32)) (δ243 : St) (π244 : (St × Int64)) : Option (Int32 × Int32 × Int32 × St × St × (Nat → Int32) × St × (St × Int64)) := if y239 < 0 then (sg_act_784 y233 y234 y235 y236 σ240 τ241 ν242 δ243 π244) else (bt1 (sp_X9_at y237 (0 : Int32) σ240) (fun (x254 : Int32) => if x254 = (y238 - y239) then (sg_act_784 y233 y234 y235 y236 σ240 τ241 ν242 δ243 π244) else (none)))
def sg_act_740 (y271 : Int32) (y272 : Int32) (y273 : Int32) (y274 : Int32) (y275 : Int32) (y276 : Int32) (y277 : Int32) (y278 : Int32) (y279 : Int32) (y280 : Int32) (y281 : Int32) (y282 : Int32) (σ283 : St) (τ284 : St) (ν285 : (Nat → Int32)) (δ286 : St) (π287 : (St × Int64)) : Option (Int32 × Int32 × Int32 × St × St × (Nat → Int32) × St × (St × Int64)) := if y281 = y282 then (if y277 < y276 then (none) else (if ((y277 - y276) + (1 : Int32)) < y278 then (none) else (sg_act_762 y271 y272 y273 y274 y275 y279 y280 σ283 τ284 ν285 δ286 π287))) else (none)
def sg_act_730 (y255 : Int32) (y256 : Int32) (y257 : Int32) (y258 : Int32) (y259 : Int32) (y260 : Int32) (y261 : Int32) (y262 : Int32) (y263 : Int32) (y264 : Int32) (y265 : Int32) (σ266 : St) (τ267 : St) (ν268 : (Nat → Int32)) (δ269 : St) (π270 : (St × Int64)) : Option (Int32 × Int32 × Int32 × St × St × (Nat → Int32) × St × (St × Int64)) := if y262 = 0 then (sg_act_740 y255 y256 y257 y258 y259 y260 y261 y262 y263 y264 y265 (1 : Int32) σ266 τ267 ν268 δ269 π270) else (sg_act_740 y255 y256 y257 y258 y259 y260 y261 y262 y263 y264 y265 (0 : Int32) σ266 τ267 ν268 δ269 π270)
def sg_act_706 (y216 : Int32) (y217 : Int32) (y218 : Int32) (y219 : Int32) (y220 : Int32) (y221 : Int32) (y222 : Int32) (y223 : Int32) (y224 : Int32) (y225 : Int32) (y226 : Int32) (y227 : Int32) (σ228 : St) (τ229 : St) (ν230 : (Nat → Int32)) (δ231 : St) (π232 : (St × Int64)) : Option (Int32 × Int32 × Int32 × St × St × (Nat → Int32) × St × (St × Int64)) := if y226 = y227 then (if y221 = 0 then (sg_act_762 y216 y217 y218 y219 y220 y225 y226 σ228 τ229 ν230 δ231 π232) else (if y222 = 0 then (sg_act_730 y216 y217 y218 y219 y220 y222 y223 y224 y225 y226 (1 : Int32) σ228 τ229 ν230 δ231 π232) else (sg_act_730 y216 y217 y218 y219 y220 y222 y223 y224 y225 y226 (0 : Int32) σ228 τ229 ν230 δ231 π232))) else (none)
def sg_act_682 (y200 : Int32) (y201 : Int32) (y202 : Int32) (y203 : Int32) (y204 : Int32) (y205 : Int32) (y206 : Int32) (y207 : Int32) (y208 : Int32) (y209 : Int32) (y210 : Int32) (σ211 : St) (τ212 : St) (ν213 : (Nat → Int32)) (δ214 : St) (π215 : (St × Int64)) : Option (Int32 × Int32 × Int32 × St × St × (Nat → Int32) × St × (St × Int64)) := sg_act_706 y200 y201 y202 y203 y204 y205 y206 y207 y208 y209 y210 (-200 : Int32) σ211 τ212 ν213 δ214 π215
def sg_act_426 (y97 : Int32) (y98 : Int32) (y99 : Int32) (y100 : Int32) (y101 : Int32) (y102 : Int32) (y103 : Int32) (y104 : Int32) (y105 : Int32) (σ106 : St) (τ107 : St) (ν108 : (Nat → Int32)) (δ109 : St) (π110 : (St × Int64)) : Option (Int32 × Int32 × Int32 × St × St × (Nat → Int32) × St × (St × Int64)) := if y105 = (4 : Int32) then (b1 (sp_L_low y101 (4 : Int32)) (fun (x111 : Int32) => b1 (sp_L_low (y102 >>> ((3 : Int32) &&& 31)) (10 : Int32)) (fun (x112 : Int32) => bt2 (sp_X9_wind x111 x112 σ106) (fun (x113 : Int32) (σ114 : St) => sg_act_940 y97 y98 y99 y100 σ114 τ107 ν108 δ109 π110)))) else (if y105 = (5 : Int32) then (b1 (sp_L_low y101 (y98 + (1 : Int32))) (fun (x115 : Int32) => bt1 (sp_X9_sum (8 : Int32) σ106 δ109) (fun (x116 : Int32) => bt1 (sp_X9_sum (11 : Int32) σ106 δ109) (fun (x117 : Int32) => b1 (sp_L_low (y102 >>> ((7 : Int32) &&& 31)) (3 : Int32)) (fun (x118 : Int32) => b3 (sp_L_tryMean x118 x115 y103 σ106 δ109) (fun (x119 : Int32) (σ120 : St) (δ121 : St) => b1 (sp_L_low (y102 >>> ((7 : Int32) &&& 31)) (3 : Int32)) (fun (x122 : Int32) => if (2 : Int32) ≤ x122 then (sg_act_528 y97 y98 y99 y100 y102 x115 x116 x117 x119 σ120 τ107 ν108 δ121 π110) else (if x119 ≤ 0 then (sg_act_528 y97 y98 y99 y100 y102 x115 x116 x117 x119 σ120 τ107 ν108 δ121 π110) else (sg_act_529 y97 y98 y99 y100 y102 x115 x116 x117 x119 (1 : Int32) σ120 τ107 ν108 δ121 π110))))))))) else (if y105 = (6 : Int32) then (b1 (sp_L_low y101 (2 : Int32)) (fun (x193 : Int32) => b1 (sp_L_tryWhy y103 x193 (0 : Int32) σ106) (fun (x194 : Int32) => b1 (sp_L_tryWhy y103 x193 (1 : Int32) σ106) (fun (x195 : Int32) => b1 (sp_L_tryWhy y103 x193 (2 : Int32) σ106) (fun (x196 : Int32) => bt1 (sp_X9_at y103 (0 : Int32) σ106) (fun (x197 : Int32) => b2 (sp_L_tryUse y103 x193 σ106) (fun (x198 : Int32) (σ199 : St) => if y104 = 0 then (sg_act_682 y97 y98 y99 y100 y103 y104 x194 x195 x196 x197 x198 σ199 τ107 ν108 δ109 π110) else (if x196 ≤ 0 then (if x193 = 0 then (sg_act_706 y97 y98 y99 y100 y103 y104 x194 x195 x196 x197 x198 x197 σ199 τ107 ν108 δ109 π110) else (sg_act_706 y97 y98 y99 y100 y103 y104 x194 x195 x196 x197 x198 (((9 : Int32) * x197) / (10 : Int32)) σ199 τ107 ν108 δ109 π110)) else (sg_act_682 y97 y98 y99 y100 y103 y104 x194 x195 x196 x197 x198 σ199 τ107 ν108 δ109 π110))))))))) else (bt2 (sp_X9_nextAnew y103 σ106 ν108) (fun (x288 : Int32) (ν289 : (Nat → Int32)) => b1 (sp_L_low (y102 >>> ((9 : Int32) &&& 31)) (24 : Int32)) (fun (x290 : Int32) => bt2 (sp_X9_nextAnew x290 σ106 ν289) (fun (x291 : Int32) (ν292 : (Nat → Int32)) => bt2 (sp_X9_ahead y103 (3 : Int32) σ106 τ107) (fun (x293 : Int32) (τ294 : St) => bt2 (sp_X9_ahead y103 (1 : Int32) σ106 τ294) (fun (x295 : Int32) (τ296 : St) => if x295 = x288 then (bt2 (sp_X9_ahead x290 (1 : Int32) σ106 τ296) (fun (x297 : Int32) (τ298 : St) => if x297 = x291 then (bt2 (sp_X9_pass (1 : Int32) σ106) (fun (x299 : Int32) (σ300 : St) => bt1 (sp_X9_at y103 (0 : Int32) σ300) (fun (x301 : Int32) => bt1 (sp_X9_at y103 (1 : Int32) σ300) (fun (x302 : Int32) => bt1 (sp_X9_at y103 (2 : Int32) σ300) (fun (x303 : Int32) => if ((x301 + x302) + x303) = x288 then (bt1 (sp_X9_at x290 (0 : Int32) σ300) (fun (x304 : Int32) => bt1 (sp_X9_at x290 (1 : Int32) σ300) (fun (x305 : Int32) => bt1 (sp_X9_at x290 (2 : Int32) σ300) (fun (x306 : Int32) => if ((x304 + x305) + x306) = x291 then (bt2 (sp_X9_ahead y103 (2 : Int32) σ300 τ298) (fun (x307 : Int32) (τ308 : St) => if x307 = x293 then (b1 (sp_L_low y101 (7 : Int32)) (fun (x309 : Int32) => bt2 (sp_X9_pass ((2 : Int32) + x309) σ300) (fun (x310 : Int32) (σ311 : St) => sg_act_940 y97 y98 y99 y100 σ311 τ308 ν292 δ109 π110))) else (none))) else (none))))) else (none)))))) else (none))) else (none)))))))))
def sg_act_411 (y314 : Int32) (y315 : Int32) (y316 : Int32) (y317 : Int32) (y318 : Int32) (y319 : Int32) (σ320 : St) (τ321 : St) (ν322 : (Nat → Int32)) (δ323 : St) (π324 : (St × Int64)) : Option (Int32 × Int32 × Int32 × St × St × (Nat → Int32) × St × (St × Int64)) := bt2 (sp_X9_team y318 y319 σ320) (fun (x325 : Int32) (σ326 : St) => if x325 = y315 then (sg_act_940 y314 (y315 + 1) y316 y317 σ326 τ321 ν322 δ323 π324) else (none))
def sg_act_370 (y341 : Int32) (y342 : Int32) (y343 : Int32) (y344 : Int32) (y345 : Int32) (σ346 : St) (τ347 : St) (ν348 : (Nat → Int32)) (δ349 : St) (π350 : (St × Int64)) : Option (Int32 × Int32 × Int32 × St × St × (Nat → Int32) × St × (St × Int64)) := sl ((y344 + y345)) (fun x351 : Int32 => sg_act_940 y341 x351 y342 y343 σ346 τ347 ν348 δ349 π350)
def sg_act_359 (y331 : Int32) (y332 : Int32) (y333 : Int32) (y334 : Int32) (y335 : Int32) (σ336 : St) (τ337 : St) (ν338 : (Nat → Int32)) (δ339 : St) (π340 : (St × Int64)) : Option (Int32 × Int32 × Int32 × St × St × (Nat → Int32) × St × (St × Int64)) := if y335 < 0 then (sg_act_370 y331 y333 y334 y332 (0 : Int32) σ336 τ337 ν338 δ339 π340) else (sg_act_370 y331 y333 y334 y332 (1 : Int32) σ336 τ337 ν338 δ339 π340)
def sg_act_179 (y16 : Int32) (y17 : Int32) (y18 : Int32) (y19 : Int32) (y20 : Int32) (y21 : Int32) (y22 : Int32) (y23 : Int32) (y24 : Int32) (σ25 : St) (τ26 : St) (ν27 : (Nat → Int32)) (δ28 : St) (π29 : (St × Int64)) : Option (Int32 × Int32 × Int32 × St × St × (Nat → Int32) × St × (St × Int64)) := if y24 = 0 then (if y23 = 0 then (sg_act_200 y16 y17 y18 y19 y20 y21 y22 σ25 τ26 ν27 δ28 π29) else (if (4 : Int32) ≤ y16 then (sg_act_200 y16 y17 y18 y19 y20 y21 y22 σ25 τ26 ν27 δ28 π29) else (sg_act_201 y16 y17 y18 y19 y20 y21 y22 (1 : Int32) σ25 τ26 ν27 δ28 π29))) else (if (3 : Int32) ≤ y24 then (if y24 = (3 : Int32) then (if (20 : Int32) ≤ y17 then (sg_act_426 y16 y17 y18 y19 y20 y21 y22 y23 y24 σ25 τ26 ν27 δ28 π29) else (b1 (sp_L_low y20 (50 : Int32)) (fun (x312 : Int32) => b1 (sp_L_low y21 (2 : Int32)) (fun (x313 : Int32) => if x313 = 0 then (sg_act_411 y16 y17 y18 y19 ((1 : Int32) + x312) (1 : Int32) σ25 τ26 ν27 δ28 π29) else (sg_act_411 y16 y17 y18 y19 ((1 : Int32) + x312) (0 : Int32) σ25 τ26 ν27 δ28 π29))))) else (sg_act_426 y16 y17 y18 y19 y20 y21 y22 y23 y24 σ25 τ26 ν27 δ28 π29)) else (b1 (sp_L_low y20 (9999 : Int32)) (fun (x327 : Int32) => b1 (sp_L_low (y21 >>> ((6 : Int32) &&& 31)) (9999 : Int32)) (fun (x328 : Int32) => b2 (sp_L_tryLay (y24 - (1 : Int32)) y22 x327 x328 σ25) (fun (x329 : Int32) (σ330 : St) => if x329 < 0 then (if x329 = (-200 : Int32) then (if y24 = (2 : Int32) then (if y23 = 0 then (sg_act_359 y16 y17 y18 y19 x329 σ330 τ26 ν27 δ28 π29) else (if (20 : Int32) ≤ y17 then (sg_act_359 y16 y17 y18 y19 x329 σ330 τ26 ν27 δ28 π29) else (none))) else (sg_act_359 y16 y17 y18 y19 x329 σ330 τ26 ν27 δ28 π29)) else (none)) else (if x329 = y17 then (sg_act_359 y16 y17 y18 y19 x329 σ330 τ26 ν27 δ28 π29) else (none)))))))
def sg_act_158 (y3 : Int32) (y4 : Int32) (y5 : Int32) (y6 : Int32) (y7 : Int32) (y8 : Int32) (y9 : Int32) (y10 : Int32) (σ11 : St) (τ12 : St) (ν13 : (Nat → Int32)) (δ14 : St) (π15 : (St × Int64)) : Option (Int32 × Int32 × Int32 × St × St × (Nat → Int32) × St × (St × Int64)) := if y6 = 0 then (sg_act_179 y3 y4 y5 y6 y7 y8 y9 y10 (0 : Int32) σ11 τ12 ν13 δ14 π15) else (b1 (sp_L_low (y7 >>> ((20 : Int32) &&& 31)) (11 : Int32)) (fun (x352 : Int32) => sg_act_179 y3 y4 y5 y6 y7 y8 y9 y10 x352 σ11 τ12 ν13 δ14 π15))
def st_act (i2 : Int32) (i3 : Int32) (i4 : Int32) (i5 : Int32) (c0 : Int32) (c1 : Int32) (σ : St) (τ : St) (ν : (Nat → Int32)) (δ : St) (π : (St × Int64)) : Option (Int32 × Int32 × Int32 × St × St × (Nat → Int32) × St × (St × Int64)) := b1 (sp_L_low c1 (24 : Int32)) (fun (x1 : Int32) => bt1 (sp_X9_at x1 (3 : Int32) σ) (fun (x2 : Int32) => if x2 = 0 then (sg_act_158 i2 i3 i4 i5 c0 c1 x1 (1 : Int32) σ τ ν δ π) else (sg_act_158 i2 i3 i4 i5 c0 c1 x1 (0 : Int32) σ τ ν δ π)))
set_option maxHeartbeats 4000000 in
set_option maxRecDepth 100000 in
theorem law_act {l : Launch} (hl : l.stackTraces = false) {γ : Gd} {h g : Nat → Nat} {as9 an aq : Nat} {ad ap : Nat → Nat} {r : va_W} {σ : St} {τ : St} {ν : (Nat → Int32)} {δ : St} {π : (St × Int64)} {X : CX} {M : MX} {y : MethodName} {tb : List ExceptionTableEntry} {b : Nat} {i2 i3 i4 i5 c0 c1 : Int32} {cs ss : Nat} (K : KX l γ X M y cL_law RL 18 rmL (some .boolean) tb) (hcs : cs + 4 ≤ 205) (hss : ss + 24 ≤ 2077) {z9 : Int32 × Int32 × Int32 × St × St × (Nat → Int32) × St × (St × Int64)} (hR : some z9 = st_act i2 i3 i4 i5 c0 c1 σ τ ν δ π)
    (kk : V l γ X M (wB γ h z9.2.2.2.1 ++ (wB γ g z9.2.2.2.2.1 ++ (wS as9 (h 0) (g 0) an aq (ad 0) (ap 0) ++ (wN an (h 0) z9.2.2.2.2.2.1 ++ (wR aq (h 0) ++ (wD γ ad z9.2.2.2.2.2.2.1 ++ (wP γ ap z9.2.2.2.2.2.2.2 ++ (r)))))))) [some (.ref b), some (.ref as9), some (.int z9.1), some (.int z9.2.1), some (.int z9.2.2.1), some (.int i5), none, none, none, none, none, none, none, none, none, none, none, none] (cs + 4) (ss + 24) 960 []) : V l γ X M (wB γ h σ ++ (wB γ g τ ++ (wS as9 (h 0) (g 0) an aq (ad 0) (ap 0) ++ (wN an (h 0) ν ++ (wR aq (h 0) ++ (wD γ ad δ ++ (wP γ ap π ++ (r)))))))) [some (.ref b), some (.ref as9), some (.int i2), some (.int i3), some (.int i4), some (.int i5), some (.int c0), none, none, none, none, none, none, none, none, none, none, none] cs ss 132 [.int c1] := by
  unfold st_act at hR
  have b940 : ∀ (y83 : Int32) (y84 : Int32) (y85 : Int32) (y86 : Int32) (σ87 : St) (τ88 : St) (ν89 : (Nat → Int32)) (δ90 : St) (π91 : (St × Int64)), some z9 = sg_act_940 y83 y84 y85 y86 σ87 τ88 ν89 δ90 π91 → V l γ X M (wB γ h σ87 ++ (wB γ g τ88 ++ (wS as9 (h 0) (g 0) an aq (ad 0) (ap 0) ++ (wN an (h 0) ν89 ++ (wR aq (h 0) ++ (wD γ ad δ90 ++ (wP γ ap π91 ++ (r)))))))) [some (.ref b), some (.ref as9), some (.int y83), some (.int y84), some (.int y85), some (.int y86), none, none, none, none, none, none, none, none, none, none, none, none] (cs + 4) (ss + 24) 940 [] := by
    intro y83 y84 y85 y86 σ87 τ88 ν89 δ90 π91 hR
    unfold sg_act_940 at hR
    refine r_iload 940 5 K (dk_of tL_law_4 84 rfl) rfl ?_
    refine r_iconst 942 (5 : Int32) K (dk_of tL_law_4 85 rfl) (by decide) ?_
    refine r_irem 943 K (dk_of tL_law_4 86 rfl) (by decide) ?_
    refine r_iconst 944 (4 : Int32) K (dk_of tL_law_4 87 rfl) (by decide) ?_
    refine r_ic_ne 945 960 K (dk_of tL_law_4 88 rfl) (by decide) hR (fun hR => ?_) (fun hR => ?_)
    · refine r_aload_n 948 1 K (dk_of tL_law_4 89 rfl) rfl rfl ?_
      refine r_iload_n 949 2 K (dk_of tL_law_4 90 rfl) rfl rfl ?_
      refine r_iload 950 4 K (dk_of tL_law_4 91 rfl) rfl ?_
      obtain ⟨x92, hc, hR⟩ := o1 hR
      refine r_cSi 952 [.ref as9, .int y83, .int y85] [] x92 (wB γ h σ87 ++ (wB γ g τ88 ++ (wS as9 (h 0) (g 0) an aq (ad 0) (ap 0) ++ (wN an (h 0) ν89 ++ (wR aq (h 0) ++ (wD γ ad δ90 ++ (wP γ ap π91 ++ (r)))))))) K (ct_L_closes hl hc.symm) cs_L_104 ⟨rfl, rfl, rfl⟩ (dk_of tL_law_4 92 rfl) rfl rfl rfl (bbL (by omega) (by omega)) ?_
      refine r_if_ne 955 960 K (dk_of tL_law_4 93 rfl) (by decide) hR (fun hR => ?_) (fun hR => ?_)
      · refine r_iconst 958 (0 : Int32) K (dk_of tL_law_4 94 rfl) (by decide) ?_
        exact nn_ hR
      · cases hR
        exact r_msk [true, true, true, true, true, true, true, true, true, true, true, true, true, true, true, true, true, true] [some (.ref b), some (.ref as9), some (.int y83), some (.int y84), some (.int y85), some (.int y86), none, none, none, none, none, none, none, none, none, none, none, none] rfl (kk)
    · cases hR
      exact r_msk [true, true, true, true, true, true, true, true, true, true, true, true, true, true, true, true, true, true] [some (.ref b), some (.ref as9), some (.int y83), some (.int y84), some (.int y85), some (.int y86), none, none, none, none, none, none, none, none, none, none, none, none] rfl (kk)
  have b278 : ∀ (y74 : Int32) (y75 : Int32) (y76 : Int32) (y77 : Int32) (σ78 : St) (τ79 : St) (ν80 : (Nat → Int32)) (δ81 : St) (π82 : (St × Int64)), some z9 = sg_act_278 y74 y75 y76 y77 σ78 τ79 ν80 δ81 π82 → V l γ X M (wB γ h σ78 ++ (wB γ g τ79 ++ (wS as9 (h 0) (g 0) an aq (ad 0) (ap 0) ++ (wN an (h 0) ν80 ++ (wR aq (h 0) ++ (wD γ ad δ81 ++ (wP γ ap π82 ++ (r)))))))) [some (.ref b), some (.ref as9), some (.int y74), some (.int y75), some (.int y76), some (.int y77), none, none, none, none, none, none, none, none, none, none, none, none] (cs + 1) (ss + 6) 278 [] := by
    intro y74 y75 y76 y77 σ78 τ79 ν80 δ81 π82 hR
    unfold sg_act_278 at hR
    refine r_goto 278 940 K (dk_of tL_law_1 45 rfl) (by decide) ?_
    exact r_wide (by omega) (by omega) (b940 y74 y75 y76 y77 σ78 τ79 ν80 δ81 π82 hR)
  have b243 : ∀ (y60 : Int32) (y61 : Int32) (y62 : Int32) (y63 : Int32) (y64 : Int32) (y65 : Int32) (y66 : Int32) (y67 : Int32) (y68 : Int32) (σ69 : St) (τ70 : St) (ν71 : (Nat → Int32)) (δ72 : St) (π73 : (St × Int64)), some z9 = sg_act_243 y60 y61 y62 y63 y64 y65 y66 y67 y68 σ69 τ70 ν71 δ72 π73 → V l γ X M (wB γ h σ69 ++ (wB γ g τ70 ++ (wS as9 (h 0) (g 0) an aq (ad 0) (ap 0) ++ (wN an (h 0) ν71 ++ (wR aq (h 0) ++ (wD γ ad δ72 ++ (wP γ ap π73 ++ (r)))))))) [some (.ref b), some (.ref as9), some (.int y60), some (.int y61), some (.int y62), some (.int y63), none, some (.int y64), none, none, none, some (.int y65), some (.int y66), none, none, none, none, none] (cs + 1) (ss + 6) 243 [.int y68, .int y67] := by
    intro y60 y61 y62 y63 y64 y65 y66 y67 y68 σ69 τ70 ν71 δ72 π73 hR
    unfold sg_act_243 at hR
    refine r_ic_eq 243 248 K (dk_of tL_law_1 26 rfl) (by decide) hR (fun hR => ?_) (fun hR => ?_)
    · refine r_iload 248 11 K (dk_of tL_law_1 29 rfl) rfl ?_
      refine r_if_eq 250 278 K (dk_of tL_law_1 30 rfl) (by decide) hR (fun hR => ?_) (fun hR => ?_)
      · exact r_msk [true, true, true, true, true, true, true, false, true, true, true, false, false, true, true, true, true, true] [some (.ref b), some (.ref as9), some (.int y60), some (.int y61), some (.int y62), some (.int y63), none, none, none, none, none, none, none, none, none, none, none, none] rfl (b278 y60 y61 y62 y63 σ69 τ70 ν71 δ72 π73 hR)
      · refine r_aload_n 253 1 K (dk_of tL_law_1 31 rfl) rfl rfl ?_
        refine r_iload_n 254 2 K (dk_of tL_law_1 32 rfl) rfl rfl ?_
        refine r_iload 255 7 K (dk_of tL_law_1 33 rfl) rfl ?_
        refine r_iconst 257 (5 : Int32) K (dk_of tL_law_1 34 rfl) (by decide) ?_
        refine r_ishr 258 K (dk_of tL_law_1 35 rfl) ?_
        refine r_bipush 259 (100 : Int32) K (dk_of tL_law_1 36 rfl) (by decide) ?_
        obtain ⟨x93, hc, hR⟩ := o1 hR
        refine r_cSi 261 [.int (y64 >>> ((5 : Int32) &&& 31)), .int (100 : Int32)] [.int y60, .ref as9] x93 (wB γ h σ69 ++ (wB γ g τ70 ++ (wS as9 (h 0) (g 0) an aq (ad 0) (ap 0) ++ (wN an (h 0) ν71 ++ (wR aq (h 0) ++ (wD γ ad δ72 ++ (wP γ ap π73 ++ (r)))))))) K (ct_L_low hl hc.symm) cs_L_60 ⟨rfl, rfl, rfl⟩ (dk_of tL_law_1 37 rfl) rfl rfl rfl (bbL (by omega) (by omega)) ?_
        obtain ⟨x94, σ95, hc, hR⟩ := ot2 hR
        refine r_cVi 264 52 [.int y60, .int x93] [] x94 (wB γ h σ95 ++ (wB γ g τ70 ++ (wS as9 (h 0) (g 0) an aq (ad 0) (ap 0) ++ (wN an (h 0) ν71 ++ (wR aq (h 0) ++ (wD γ ad δ72 ++ (wP γ ap π73 ++ (r)))))))) K (ct_X9_hole hl (z := .inl (x94, σ95)) hc.symm) cs_L_74 ⟨rfl, rfl, rfl⟩ (dk_of tL_law_1 38 rfl) rfl rfl rfl rfl rfl (bbL (by omega) (by omega)) ?_
        refine r_pop 267 K (dk_of tL_law_1 39 rfl) rfl ?_
        refine r_iload 268 4 K (dk_of tL_law_1 40 rfl) rfl ?_
        refine r_iload 270 12 K (dk_of tL_law_1 41 rfl) rfl ?_
        refine r_iadd 272 K (dk_of tL_law_1 42 rfl) ?_
        refine r_nmI hR (fun x96 hR => ?_)
        refine r_istore 273 4 [some (.ref b), some (.ref as9), some (.int y60), some (.int y61), some (.int x96), some (.int y63), none, some (.int y64), none, none, none, some (.int y65), some (.int y66), none, none, none, none, none] K (dk_of tL_law_1 43 rfl) rfl rfl (by decide) ?_
        refine r_iinc 275 2 (y60 + 1) [some (.ref b), some (.ref as9), some (.int (y60 + 1)), some (.int y61), some (.int x96), some (.int y63), none, some (.int y64), none, none, none, some (.int y65), some (.int y66), none, none, none, none, none] K (dk_of tL_law_1 44 rfl) rfl rfl rfl rfl (by decide) ?_
        exact r_msk [true, true, true, true, true, true, true, false, true, true, true, false, false, true, true, true, true, true] [some (.ref b), some (.ref as9), some (.int (y60 + 1)), some (.int y61), some (.int x96), some (.int y63), none, none, none, none, none, none, none, none, none, none, none, none] rfl (b278 (y60 + 1) y61 x96 y63 σ95 τ70 ν71 δ72 π73 hR)
    · refine r_iconst 246 (0 : Int32) K (dk_of tL_law_1 27 rfl) (by decide) ?_
      exact nn_ hR
  have b201 : ∀ (y42 : Int32) (y43 : Int32) (y44 : Int32) (y45 : Int32) (y46 : Int32) (y47 : Int32) (y48 : Int32) (y49 : Int32) (σ50 : St) (τ51 : St) (ν52 : (Nat → Int32)) (δ53 : St) (π54 : (St × Int64)), some z9 = sg_act_201 y42 y43 y44 y45 y46 y47 y48 y49 σ50 τ51 ν52 δ53 π54 → V l γ X M (wB γ h σ50 ++ (wB γ g τ51 ++ (wS as9 (h 0) (g 0) an aq (ad 0) (ap 0) ++ (wN an (h 0) ν52 ++ (wR aq (h 0) ++ (wD γ ad δ53 ++ (wP γ ap π54 ++ (r)))))))) [some (.ref b), some (.ref as9), some (.int y42), some (.int y43), some (.int y44), some (.int y45), some (.int y46), some (.int y47), some (.int y48), none, none, none, none, none, none, none, none, none] cs ss 201 [.int y49] := by
    intro y42 y43 y44 y45 y46 y47 y48 y49 σ50 τ51 ν52 δ53 π54 hR
    unfold sg_act_201 at hR
    refine r_istore 201 11 [some (.ref b), some (.ref as9), some (.int y42), some (.int y43), some (.int y44), some (.int y45), some (.int y46), some (.int y47), some (.int y48), none, none, some (.int y49), none, none, none, none, none, none] K (dk_of tL_law_1 6 rfl) rfl rfl (by decide) ?_
    refine r_iload 203 6 K (dk_of tL_law_1 7 rfl) rfl ?_
    refine r_ldc 205 99999 K (dk_of tL_law_1 8 rfl) w894 ?_
    obtain ⟨x55, hc, hR⟩ := o1 hR
    refine r_cSi 207 [.int y46, .int (99999 : Int32)] [] x55 (wB γ h σ50 ++ (wB γ g τ51 ++ (wS as9 (h 0) (g 0) an aq (ad 0) (ap 0) ++ (wN an (h 0) ν52 ++ (wR aq (h 0) ++ (wD γ ad δ53 ++ (wP γ ap π54 ++ (r)))))))) K (ct_L_low hl hc.symm) cs_L_60 ⟨rfl, rfl, rfl⟩ (dk_of tL_law_1 9 rfl) rfl rfl rfl (bbL (by omega) (by omega)) ?_
    refine r_sipush 210 (9000 : Int32) K (dk_of tL_law_1 10 rfl) (by decide) ?_
    refine r_irem 213 K (dk_of tL_law_1 11 rfl) (by decide) ?_
    refine r_nmI hR (fun x56 hR => ?_)
    refine r_istore 214 12 [some (.ref b), some (.ref as9), some (.int y42), some (.int y43), some (.int y44), some (.int y45), some (.int y46), some (.int y47), some (.int y48), none, none, some (.int y49), some (.int x56), none, none, none, none, none] K (dk_of tL_law_1 12 rfl) rfl rfl (by decide) ?_
    refine r_aload_n 216 1 K (dk_of tL_law_1 13 rfl) rfl rfl ?_
    refine r_iconst 217 (2 : Int32) K (dk_of tL_law_1 14 rfl) (by decide) ?_
    refine r_iload 218 8 K (dk_of tL_law_1 15 rfl) rfl ?_
    refine r_iload 220 6 K (dk_of tL_law_1 16 rfl) rfl ?_
    refine r_ldc 222 99999 K (dk_of tL_law_1 17 rfl) w894 ?_
    obtain ⟨x57, hc, hR⟩ := o1 hR
    refine r_cSi 224 [.int y46, .int (99999 : Int32)] [.int y48, .int (2 : Int32), .ref as9] x57 (wB γ h σ50 ++ (wB γ g τ51 ++ (wS as9 (h 0) (g 0) an aq (ad 0) (ap 0) ++ (wN an (h 0) ν52 ++ (wR aq (h 0) ++ (wD γ ad δ53 ++ (wP γ ap π54 ++ (r)))))))) K (ct_L_low hl hc.symm) cs_L_60 ⟨rfl, rfl, rfl⟩ (dk_of tL_law_1 18 rfl) rfl rfl rfl (bbL (by omega) (by omega)) ?_
    refine r_iconst 227 (0 : Int32) K (dk_of tL_law_1 19 rfl) (by decide) ?_
    obtain ⟨x58, σ59, hc, hR⟩ := o2 hR
    refine r_cSh (mc := 1) (ms := 6) (n := 5) 228 [.ref as9, .int (2 : Int32), .int y48, .int x57, .int (0 : Int32)] [] x58 (wB γ h σ59 ++ (wB γ g τ51 ++ (wS as9 (h 0) (g 0) an aq (ad 0) (ap 0) ++ (wN an (h 0) ν52 ++ (wR aq (h 0) ++ (wD γ ad δ53 ++ (wP γ ap π54 ++ (r)))))))) K (ct_L_tryLay hl hc.symm) w775 w776 w0 cwx_tryLay (by decide +kernel) ⟨rfl, rfl, rfl⟩ (dk_of tL_law_1 20 rfl) rfl rfl rfl (aaL (by omega) (by omega)) ?_
    show V l γ X M (wB γ h σ59 ++ (wB γ g τ51 ++ (wS as9 (h 0) (g 0) an aq (ad 0) (ap 0) ++ (wN an (h 0) ν52 ++ (wR aq (h 0) ++ (wD γ ad δ53 ++ (wP γ ap π54 ++ (r)))))))) [some (.ref b), some (.ref as9), some (.int y42), some (.int y43), some (.int y44), some (.int y45), some (.int y46), some (.int y47), some (.int y48), none, none, some (.int y49), some (.int x56), none, none, none, none, none] (cs + 1) (ss + 6) 231 [.int x58]
    refine r_iload 231 11 K (dk_of tL_law_1 21 rfl) rfl ?_
    refine r_if_eq 233 240 K (dk_of tL_law_1 22 rfl) (by decide) hR (fun hR => ?_) (fun hR => ?_)
    · refine r_sipush 240 (-200 : Int32) K (dk_of tL_law_1 25 rfl) (by decide) ?_
      exact r_msk [true, true, true, true, true, true, false, true, false, true, true, true, true, true, true, true, true, true] [some (.ref b), some (.ref as9), some (.int y42), some (.int y43), some (.int y44), some (.int y45), none, some (.int y47), none, none, none, some (.int y49), some (.int x56), none, none, none, none, none] rfl (b243 y42 y43 y44 y45 y47 y49 x56 x58 (-200 : Int32) σ59 τ51 ν52 δ53 π54 hR)
    · refine r_iload_n 236 2 K (dk_of tL_law_1 23 rfl) rfl rfl ?_
      refine r_goto 237 243 K (dk_of tL_law_1 24 rfl) (by decide) ?_
      exact r_msk [true, true, true, true, true, true, false, true, false, true, true, true, true, true, true, true, true, true] [some (.ref b), some (.ref as9), some (.int y42), some (.int y43), some (.int y44), some (.int y45), none, some (.int y47), none, none, none, some (.int y49), some (.int x56), none, none, none, none, none] rfl (b243 y42 y43 y44 y45 y47 y49 x56 x58 y42 σ59 τ51 ν52 δ53 π54 hR)
  have b200 : ∀ (y30 : Int32) (y31 : Int32) (y32 : Int32) (y33 : Int32) (y34 : Int32) (y35 : Int32) (y36 : Int32) (σ37 : St) (τ38 : St) (ν39 : (Nat → Int32)) (δ40 : St) (π41 : (St × Int64)), some z9 = sg_act_200 y30 y31 y32 y33 y34 y35 y36 σ37 τ38 ν39 δ40 π41 → V l γ X M (wB γ h σ37 ++ (wB γ g τ38 ++ (wS as9 (h 0) (g 0) an aq (ad 0) (ap 0) ++ (wN an (h 0) ν39 ++ (wR aq (h 0) ++ (wD γ ad δ40 ++ (wP γ ap π41 ++ (r)))))))) [some (.ref b), some (.ref as9), some (.int y30), some (.int y31), some (.int y32), some (.int y33), some (.int y34), some (.int y35), some (.int y36), none, none, none, none, none, none, none, none, none] cs ss 200 [] := by
    intro y30 y31 y32 y33 y34 y35 y36 σ37 τ38 ν39 δ40 π41 hR
    unfold sg_act_200 at hR
    refine r_iconst 200 (0 : Int32) K (dk_of tL_law_1 5 rfl) (by decide) ?_
    exact b201 y30 y31 y32 y33 y34 y35 y36 (0 : Int32) σ37 τ38 ν39 δ40 π41 hR
  have b602 : ∀ (y183 : Int32) (y184 : Int32) (y185 : Int32) (y186 : Int32) (σ187 : St) (τ188 : St) (ν189 : (Nat → Int32)) (δ190 : St) (π191 : (St × Int64)), some z9 = sg_act_602 y183 y184 y185 y186 σ187 τ188 ν189 δ190 π191 → V l γ X M (wB γ h σ187 ++ (wB γ g τ188 ++ (wS as9 (h 0) (g 0) an aq (ad 0) (ap 0) ++ (wN an (h 0) ν189 ++ (wR aq (h 0) ++ (wD γ ad δ190 ++ (wP γ ap π191 ++ (r)))))))) [some (.ref b), some (.ref as9), some (.int y183), some (.int y184), some (.int y185), some (.int y186), none, none, none, none, none, none, none, none, none, none, none, none] (cs + 1) (ss + 6) 602 [] := by
    intro y183 y184 y185 y186 σ187 τ188 ν189 δ190 π191 hR
    unfold sg_act_602 at hR
    refine r_goto 602 940 K (dk_of tL_law_3 8 rfl) (by decide) ?_
    exact r_wide (by omega) (by omega) (b940 y183 y184 y185 y186 σ187 τ188 ν189 δ190 π191 hR)
  have b564 : ∀ (y167 : Int32) (y168 : Int32) (y169 : Int32) (y170 : Int32) (y171 : Int32) (y172 : Int32) (y173 : Int32) (y174 : Int32) (y175 : Int32) (y176 : Int32) (σ177 : St) (τ178 : St) (ν179 : (Nat → Int32)) (δ180 : St) (π181 : (St × Int64)), some z9 = sg_act_564 y167 y168 y169 y170 y171 y172 y173 y174 y175 y176 σ177 τ178 ν179 δ180 π181 → V l γ X M (wB γ h σ177 ++ (wB γ g τ178 ++ (wS as9 (h 0) (g 0) an aq (ad 0) (ap 0) ++ (wN an (h 0) ν179 ++ (wR aq (h 0) ++ (wD γ ad δ180 ++ (wP γ ap π181 ++ (r)))))))) [some (.ref b), some (.ref as9), some (.int y167), some (.int y168), some (.int y169), some (.int y170), none, some (.int y171), none, none, none, none, some (.int y172), none, some (.int y173), none, none, none] (cs + 1) (ss + 6) 564 [.int y176, .int y175, .int y174] := by
    intro y167 y168 y169 y170 y171 y172 y173 y174 y175 y176 σ177 τ178 ν179 δ180 π181 hR
    unfold sg_act_564 at hR
    refine r_iadd 564 K (dk_of tL_law_2 88 rfl) ?_
    refine r_ic_ne 565 600 K (dk_of tL_law_2 89 rfl) (by decide) hR (fun hR => ?_) (fun hR => ?_)
    · refine r_iload 568 7 K (dk_of tL_law_2 90 rfl) rfl ?_
      refine r_bipush 570 (7 : Int32) K (dk_of tL_law_2 91 rfl) (by decide) ?_
      refine r_ishr 572 K (dk_of tL_law_2 92 rfl) ?_
      refine r_iconst 573 (3 : Int32) K (dk_of tL_law_2 93 rfl) (by decide) ?_
      obtain ⟨x182, hc, hR⟩ := o1 hR
      refine r_cSi 574 [.int (y171 >>> ((7 : Int32) &&& 31)), .int (3 : Int32)] [] x182 (wB γ h σ177 ++ (wB γ g τ178 ++ (wS as9 (h 0) (g 0) an aq (ad 0) (ap 0) ++ (wN an (h 0) ν179 ++ (wR aq (h 0) ++ (wD γ ad δ180 ++ (wP γ ap π181 ++ (r)))))))) K (ct_L_low hl hc.symm) cs_L_60 ⟨rfl, rfl, rfl⟩ (dk_of tL_law_2 94 rfl) rfl rfl rfl (bbL (by omega) (by omega)) ?_
      refine r_iconst 577 (1 : Int32) K (dk_of tL_law_2 95 rfl) (by decide) ?_
      refine r_ic_ne 578 602 K (dk_of tL_law_2 96 rfl) (by decide) hR (fun hR => ?_) (fun hR => ?_)
      · refine r_iload 581 14 K (dk_of tL_law_2 97 rfl) rfl ?_
        refine r_if_lt 583 602 K (dk_of tL_law_2 98 rfl) (by decide) hR (fun hR => ?_) (fun hR => ?_)
        · exact r_msk [true, true, true, true, true, true, true, false, true, true, true, true, false, true, false, true, true, true] [some (.ref b), some (.ref as9), some (.int y167), some (.int y168), some (.int y169), some (.int y170), none, none, none, none, none, none, none, none, none, none, none, none] rfl (b602 y167 y168 y169 y170 σ177 τ178 ν179 δ180 π181 hR)
        · refine r_aload_n 586 1 K (dk_of tL_law_2 99 rfl) rfl rfl ?_
          refine r_bipush 587 (8 : Int32) K (dk_of tL_law_3 0 rfl) (by decide) ?_
          obtain ⟨x192, hc, hR⟩ := ot1 hR
          refine r_cVi 589 52 [.int (8 : Int32)] [] x192 (wB γ h σ177 ++ (wB γ g τ178 ++ (wS as9 (h 0) (g 0) an aq (ad 0) (ap 0) ++ (wN an (h 0) ν179 ++ (wR aq (h 0) ++ (wD γ ad δ180 ++ (wP γ ap π181 ++ (r)))))))) K (ct_X9_sum hl (z := .inl x192) hc.symm) cs_L_50 ⟨rfl, rfl, rfl⟩ (dk_of tL_law_3 1 rfl) rfl rfl rfl rfl rfl (bbL (by omega) (by omega)) ?_
          refine r_iload 592 12 K (dk_of tL_law_3 2 rfl) rfl ?_
          refine r_iload 594 14 K (dk_of tL_law_3 3 rfl) rfl ?_
          refine r_isub 596 K (dk_of tL_law_3 4 rfl) ?_
          refine r_ic_eq 597 602 K (dk_of tL_law_3 5 rfl) (by decide) hR (fun hR => ?_) (fun hR => ?_)
          · exact r_msk [true, true, true, true, true, true, true, false, true, true, true, true, false, true, false, true, true, true] [some (.ref b), some (.ref as9), some (.int y167), some (.int y168), some (.int y169), some (.int y170), none, none, none, none, none, none, none, none, none, none, none, none] rfl (b602 y167 y168 y169 y170 σ177 τ178 ν179 δ180 π181 hR)
          · refine r_iconst 600 (0 : Int32) K (dk_of tL_law_3 6 rfl) (by decide) ?_
            exact nn_ hR
      · exact r_msk [true, true, true, true, true, true, true, false, true, true, true, true, false, true, false, true, true, true] [some (.ref b), some (.ref as9), some (.int y167), some (.int y168), some (.int y169), some (.int y170), none, none, none, none, none, none, none, none, none, none, none, none] rfl (b602 y167 y168 y169 y170 σ177 τ178 ν179 δ180 π181 hR)
    · refine r_iconst 600 (0 : Int32) K (dk_of tL_law_3 6 rfl) (by decide) ?_
      exact nn_ hR
  have b545 : ∀ (y152 : Int32) (y153 : Int32) (y154 : Int32) (y155 : Int32) (y156 : Int32) (y157 : Int32) (y158 : Int32) (y159 : Int32) (y160 : Int32) (σ161 : St) (τ162 : St) (ν163 : (Nat → Int32)) (δ164 : St) (π165 : (St × Int64)), some z9 = sg_act_545 y152 y153 y154 y155 y156 y157 y158 y159 y160 σ161 τ162 ν163 δ164 π165 → V l γ X M (wB γ h σ161 ++ (wB γ g τ162 ++ (wS as9 (h 0) (g 0) an aq (ad 0) (ap 0) ++ (wN an (h 0) ν163 ++ (wR aq (h 0) ++ (wD γ ad δ164 ++ (wP γ ap π165 ++ (r)))))))) [some (.ref b), some (.ref as9), some (.int y152), some (.int y153), some (.int y154), some (.int y155), none, some (.int y156), none, none, none, none, some (.int y157), some (.int y158), some (.int y159), some (.int y160), none, none] (cs + 1) (ss + 6) 545 [] := by
    intro y152 y153 y154 y155 y156 y157 y158 y159 y160 σ161 τ162 ν163 δ164 π165 hR
    unfold sg_act_545 at hR
    refine r_aload_n 545 1 K (dk_of tL_law_2 79 rfl) rfl rfl ?_
    refine r_bipush 546 (11 : Int32) K (dk_of tL_law_2 80 rfl) (by decide) ?_
    obtain ⟨x166, hc, hR⟩ := ot1 hR
    refine r_cVi 548 52 [.int (11 : Int32)] [] x166 (wB γ h σ161 ++ (wB γ g τ162 ++ (wS as9 (h 0) (g 0) an aq (ad 0) (ap 0) ++ (wN an (h 0) ν163 ++ (wR aq (h 0) ++ (wD γ ad δ164 ++ (wP γ ap π165 ++ (r)))))))) K (ct_X9_sum hl (z := .inl x166) hc.symm) cs_L_50 ⟨rfl, rfl, rfl⟩ (dk_of tL_law_2 81 rfl) rfl rfl rfl rfl rfl (bbL (by omega) (by omega)) ?_
    refine r_iload 551 13 K (dk_of tL_law_2 82 rfl) rfl ?_
    refine r_iload 553 15 K (dk_of tL_law_2 83 rfl) rfl ?_
    refine r_if_eq 555 563 K (dk_of tL_law_2 84 rfl) (by decide) hR (fun hR => ?_) (fun hR => ?_)
    · refine r_iconst 563 (0 : Int32) K (dk_of tL_law_2 87 rfl) (by decide) ?_
      exact r_msk [true, true, true, true, true, true, true, true, true, true, true, true, true, false, true, false, true, true] [some (.ref b), some (.ref as9), some (.int y152), some (.int y153), some (.int y154), some (.int y155), none, some (.int y156), none, none, none, none, some (.int y157), none, some (.int y159), none, none, none] rfl (b564 y152 y153 y154 y155 y156 y157 y159 x166 y158 (0 : Int32) σ161 τ162 ν163 δ164 π165 hR)
    · refine r_iload 558 14 K (dk_of tL_law_2 85 rfl) rfl ?_
      refine r_goto 560 564 K (dk_of tL_law_2 86 rfl) (by decide) ?_
      exact r_msk [true, true, true, true, true, true, true, true, true, true, true, true, true, false, true, false, true, true] [some (.ref b), some (.ref as9), some (.int y152), some (.int y153), some (.int y154), some (.int y155), none, some (.int y156), none, none, none, none, some (.int y157), none, some (.int y159), none, none, none] rfl (b564 y152 y153 y154 y155 y156 y157 y159 x166 y158 y159 σ161 τ162 ν163 δ164 π165 hR)
  have b529 : ∀ (y137 : Int32) (y138 : Int32) (y139 : Int32) (y140 : Int32) (y141 : Int32) (y142 : Int32) (y143 : Int32) (y144 : Int32) (y145 : Int32) (y146 : Int32) (σ147 : St) (τ148 : St) (ν149 : (Nat → Int32)) (δ150 : St) (π151 : (St × Int64)), some z9 = sg_act_529 y137 y138 y139 y140 y141 y142 y143 y144 y145 y146 σ147 τ148 ν149 δ150 π151 → V l γ X M (wB γ h σ147 ++ (wB γ g τ148 ++ (wS as9 (h 0) (g 0) an aq (ad 0) (ap 0) ++ (wN an (h 0) ν149 ++ (wR aq (h 0) ++ (wD γ ad δ150 ++ (wP γ ap π151 ++ (r)))))))) [some (.ref b), some (.ref as9), some (.int y137), some (.int y138), some (.int y139), some (.int y140), none, some (.int y141), none, none, none, some (.int y142), some (.int y143), some (.int y144), some (.int y145), none, none, none] (cs + 1) (ss + 6) 529 [.int y146] := by
    intro y137 y138 y139 y140 y141 y142 y143 y144 y145 y146 σ147 τ148 ν149 δ150 π151 hR
    unfold sg_act_529 at hR
    refine r_istore 529 15 [some (.ref b), some (.ref as9), some (.int y137), some (.int y138), some (.int y139), some (.int y140), none, some (.int y141), none, none, none, some (.int y142), some (.int y143), some (.int y144), some (.int y145), some (.int y146), none, none] K (dk_of tL_law_2 72 rfl) rfl rfl (by decide) ?_
    refine r_iload 531 11 K (dk_of tL_law_2 73 rfl) rfl ?_
    refine r_iload_n 533 3 K (dk_of tL_law_2 74 rfl) rfl rfl ?_
    refine r_ic_lt 534 545 K (dk_of tL_law_2 75 rfl) (by decide) hR (fun hR => ?_) (fun hR => ?_)
    · exact r_msk [true, true, true, true, true, true, true, true, true, true, true, false, true, true, true, true, true, true] [some (.ref b), some (.ref as9), some (.int y137), some (.int y138), some (.int y139), some (.int y140), none, some (.int y141), none, none, none, none, some (.int y143), some (.int y144), some (.int y145), some (.int y146), none, none] rfl (b545 y137 y138 y139 y140 y141 y143 y144 y145 y146 σ147 τ148 ν149 δ150 π151 hR)
    · refine r_iload 537 14 K (dk_of tL_law_2 76 rfl) rfl ?_
      refine r_sipush 539 (-300 : Int32) K (dk_of tL_law_2 77 rfl) (by decide) ?_
      refine r_ic_ne 542 600 K (dk_of tL_law_2 78 rfl) (by decide) hR (fun hR => ?_) (fun hR => ?_)
      · exact r_msk [true, true, true, true, true, true, true, true, true, true, true, false, true, true, true, true, true, true] [some (.ref b), some (.ref as9), some (.int y137), some (.int y138), some (.int y139), some (.int y140), none, some (.int y141), none, none, none, none, some (.int y143), some (.int y144), some (.int y145), some (.int y146), none, none] rfl (b545 y137 y138 y139 y140 y141 y143 y144 y145 y146 σ147 τ148 ν149 δ150 π151 hR)
      · refine r_iconst 600 (0 : Int32) K (dk_of tL_law_3 6 rfl) (by decide) ?_
        exact nn_ hR
  have b528 : ∀ (y123 : Int32) (y124 : Int32) (y125 : Int32) (y126 : Int32) (y127 : Int32) (y128 : Int32) (y129 : Int32) (y130 : Int32) (y131 : Int32) (σ132 : St) (τ133 : St) (ν134 : (Nat → Int32)) (δ135 : St) (π136 : (St × Int64)), some z9 = sg_act_528 y123 y124 y125 y126 y127 y128 y129 y130 y131 σ132 τ133 ν134 δ135 π136 → V l γ X M (wB γ h σ132 ++ (wB γ g τ133 ++ (wS as9 (h 0) (g 0) an aq (ad 0) (ap 0) ++ (wN an (h 0) ν134 ++ (wR aq (h 0) ++ (wD γ ad δ135 ++ (wP γ ap π136 ++ (r)))))))) [some (.ref b), some (.ref as9), some (.int y123), some (.int y124), some (.int y125), some (.int y126), none, some (.int y127), none, none, none, some (.int y128), some (.int y129), some (.int y130), some (.int y131), none, none, none] (cs + 1) (ss + 6) 528 [] := by
    intro y123 y124 y125 y126 y127 y128 y129 y130 y131 σ132 τ133 ν134 δ135 π136 hR
    unfold sg_act_528 at hR
    refine r_iconst 528 (0 : Int32) K (dk_of tL_law_2 71 rfl) (by decide) ?_
    exact b529 y123 y124 y125 y126 y127 y128 y129 y130 y131 (0 : Int32) σ132 τ133 ν134 δ135 π136 hR
  have b784 : ∀ (y245 : Int32) (y246 : Int32) (y247 : Int32) (y248 : Int32) (σ249 : St) (τ250 : St) (ν251 : (Nat → Int32)) (δ252 : St) (π253 : (St × Int64)), some z9 = sg_act_784 y245 y246 y247 y248 σ249 τ250 ν251 δ252 π253 → V l γ X M (wB γ h σ249 ++ (wB γ g τ250 ++ (wS as9 (h 0) (g 0) an aq (ad 0) (ap 0) ++ (wN an (h 0) ν251 ++ (wR aq (h 0) ++ (wD γ ad δ252 ++ (wP γ ap π253 ++ (r)))))))) [some (.ref b), some (.ref as9), some (.int y245), some (.int y246), some (.int y247), some (.int y248), none, none, none, none, none, none, none, none, none, none, none, none] (cs + 4) (ss + 24) 784 [] := by
    intro y245 y246 y247 y248 σ249 τ250 ν251 δ252 π253 hR
    unfold sg_act_784 at hR
    refine r_goto 784 940 K (dk_of tL_law_3 98 rfl) (by decide) ?_
    exact b940 y245 y246 y247 y248 σ249 τ250 ν251 δ252 π253 hR
  have b762 : ∀ (y233 : Int32) (y234 : Int32) (y235 : Int32) (y236 : Int32) (y237 : Int32) (y238 : Int32) (y239 : Int32) (σ240 : St) (τ241 : St) (ν242 : (Nat → Int32)) (δ243 : St) (π244 : (St × Int64)), some z9 = sg_act_762 y233 y234 y235 y236 y237 y238 y239 σ240 τ241 ν242 δ243 π244 → V l γ X M (wB γ h σ240 ++ (wB γ g τ241 ++ (wS as9 (h 0) (g 0) an aq (ad 0) (ap 0) ++ (wN an (h 0) ν242 ++ (wR aq (h 0) ++ (wD γ ad δ243 ++ (wP γ ap π244 ++ (r)))))))) [some (.ref b), some (.ref as9), some (.int y233), some (.int y234), some (.int y235), some (.int y236), none, none, some (.int y237), none, none, none, none, none, none, some (.int y238), some (.int y239), none] (cs + 4) (ss + 24) 762 [] := by
    intro y233 y234 y235 y236 y237 y238 y239 σ240 τ241 ν242 δ243 π244 hR
    unfold sg_act_762 at hR
    refine r_iload 762 16 K (dk_of tL_law_3 86 rfl) rfl ?_
    refine r_if_lt 764 784 K (dk_of tL_law_3 87 rfl) (by decide) hR (fun hR => ?_) (fun hR => ?_)
    · exact r_msk [true, true, true, true, true, true, true, true, false, true, true, true, true, true, true, false, false, true] [some (.ref b), some (.ref as9), some (.int y233), some (.int y234), some (.int y235), some (.int y236), none, none, none, none, none, none, none, none, none, none, none, none] rfl (b784 y233 y234 y235 y236 σ240 τ241 ν242 δ243 π244 hR)
    · refine r_aload_n 767 1 K (dk_of tL_law_3 88 rfl) rfl rfl ?_
      refine r_iload 768 8 K (dk_of tL_law_3 89 rfl) rfl ?_
      refine r_iconst 770 (0 : Int32) K (dk_of tL_law_3 90 rfl) (by decide) ?_
      obtain ⟨x254, hc, hR⟩ := ot1 hR
      refine r_cVi 771 52 [.int y237, .int (0 : Int32)] [] x254 (wB γ h σ240 ++ (wB γ g τ241 ++ (wS as9 (h 0) (g 0) an aq (ad 0) (ap 0) ++ (wN an (h 0) ν242 ++ (wR aq (h 0) ++ (wD γ ad δ243 ++ (wP γ ap π244 ++ (r)))))))) K (ct_X9_at hl (z := .inl x254) hc.symm) cs_L_44 ⟨rfl, rfl, rfl⟩ (dk_of tL_law_3 91 rfl) rfl rfl rfl rfl rfl (bbL (by omega) (by omega)) ?_
      refine r_iload 774 15 K (dk_of tL_law_3 92 rfl) rfl ?_
      refine r_iload 776 16 K (dk_of tL_law_3 93 rfl) rfl ?_
      refine r_isub 778 K (dk_of tL_law_3 94 rfl) ?_
      refine r_ic_eq 779 784 K (dk_of tL_law_3 95 rfl) (by decide) hR (fun hR => ?_) (fun hR => ?_)
      · exact r_msk [true, true, true, true, true, true, true, true, false, true, true, true, true, true, true, false, false, true] [some (.ref b), some (.ref as9), some (.int y233), some (.int y234), some (.int y235), some (.int y236), none, none, none, none, none, none, none, none, none, none, none, none] rfl (b784 y233 y234 y235 y236 σ240 τ241 ν242 δ243 π244 hR)
      · refine r_iconst 782 (0 : Int32) K (dk_of tL_law_3 96 rfl) (by decide) ?_
        exact nn_ hR
  have b740 : ∀ (y271 : Int32) (y272 : Int32) (y273 : Int32) (y274 : Int32) (y275 : Int32) (y276 : Int32) (y277 : Int32) (y278 : Int32) (y279 : Int32) (y280 : Int32) (y281 : Int32) (y282 : Int32) (σ283 : St) (τ284 : St) (ν285 : (Nat → Int32)) (δ286 : St) (π287 : (St × Int64)), some z9 = sg_act_740 y271 y272 y273 y274 y275 y276 y277 y278 y279 y280 y281 y282 σ283 τ284 ν285 δ286 π287 → V l γ X M (wB γ h σ283 ++ (wB γ g τ284 ++ (wS as9 (h 0) (g 0) an aq (ad 0) (ap 0) ++ (wN an (h 0) ν285 ++ (wR aq (h 0) ++ (wD γ ad δ286 ++ (wP γ ap π287 ++ (r)))))))) [some (.ref b), some (.ref as9), some (.int y271), some (.int y272), some (.int y273), some (.int y274), none, none, some (.int y275), none, none, none, some (.int y276), some (.int y277), some (.int y278), some (.int y279), some (.int y280), none] (cs + 4) (ss + 24) 740 [.int y282, .int y281] := by
    intro y271 y272 y273 y274 y275 y276 y277 y278 y279 y280 y281 y282 σ283 τ284 ν285 δ286 π287 hR
    unfold sg_act_740 at hR
    refine r_ic_ne 740 782 K (dk_of tL_law_3 75 rfl) (by decide) hR (fun hR => ?_) (fun hR => ?_)
    · refine r_iload 743 12 K (dk_of tL_law_3 76 rfl) rfl ?_
      refine r_iload 745 13 K (dk_of tL_law_3 77 rfl) rfl ?_
      refine r_ic_gt 747 782 K (dk_of tL_law_3 78 rfl) (by decide) hR (fun hR => ?_) (fun hR => ?_)
      · refine r_iconst 782 (0 : Int32) K (dk_of tL_law_3 96 rfl) (by decide) ?_
        exact nn_ hR
      · refine r_iload 750 14 K (dk_of tL_law_3 79 rfl) rfl ?_
        refine r_iload 752 13 K (dk_of tL_law_3 80 rfl) rfl ?_
        refine r_iload 754 12 K (dk_of tL_law_3 81 rfl) rfl ?_
        refine r_isub 756 K (dk_of tL_law_3 82 rfl) ?_
        refine r_iconst 757 (1 : Int32) K (dk_of tL_law_3 83 rfl) (by decide) ?_
        refine r_iadd 758 K (dk_of tL_law_3 84 rfl) ?_
        refine r_ic_gt 759 782 K (dk_of tL_law_3 85 rfl) (by decide) hR (fun hR => ?_) (fun hR => ?_)
        · refine r_iconst 782 (0 : Int32) K (dk_of tL_law_3 96 rfl) (by decide) ?_
          exact nn_ hR
        · exact r_msk [true, true, true, true, true, true, true, true, true, true, true, true, false, false, false, true, true, true] [some (.ref b), some (.ref as9), some (.int y271), some (.int y272), some (.int y273), some (.int y274), none, none, some (.int y275), none, none, none, none, none, none, some (.int y279), some (.int y280), none] rfl (b762 y271 y272 y273 y274 y275 y279 y280 σ283 τ284 ν285 δ286 π287 hR)
    · refine r_iconst 782 (0 : Int32) K (dk_of tL_law_3 96 rfl) (by decide) ?_
      exact nn_ hR
  have b730 : ∀ (y255 : Int32) (y256 : Int32) (y257 : Int32) (y258 : Int32) (y259 : Int32) (y260 : Int32) (y261 : Int32) (y262 : Int32) (y263 : Int32) (y264 : Int32) (y265 : Int32) (σ266 : St) (τ267 : St) (ν268 : (Nat → Int32)) (δ269 : St) (π270 : (St × Int64)), some z9 = sg_act_730 y255 y256 y257 y258 y259 y260 y261 y262 y263 y264 y265 σ266 τ267 ν268 δ269 π270 → V l γ X M (wB γ h σ266 ++ (wB γ g τ267 ++ (wS as9 (h 0) (g 0) an aq (ad 0) (ap 0) ++ (wN an (h 0) ν268 ++ (wR aq (h 0) ++ (wD γ ad δ269 ++ (wP γ ap π270 ++ (r)))))))) [some (.ref b), some (.ref as9), some (.int y255), some (.int y256), some (.int y257), some (.int y258), none, none, some (.int y259), none, none, none, some (.int y260), some (.int y261), some (.int y262), some (.int y263), some (.int y264), none] (cs + 4) (ss + 24) 730 [.int y265] := by
    intro y255 y256 y257 y258 y259 y260 y261 y262 y263 y264 y265 σ266 τ267 ν268 δ269 π270 hR
    unfold sg_act_730 at hR
    refine r_iload 730 14 K (dk_of tL_law_3 70 rfl) rfl ?_
    refine r_if_ne 732 739 K (dk_of tL_law_3 71 rfl) (by decide) hR (fun hR => ?_) (fun hR => ?_)
    · refine r_iconst 735 (1 : Int32) K (dk_of tL_law_3 72 rfl) (by decide) ?_
      refine r_goto 736 740 K (dk_of tL_law_3 73 rfl) (by decide) ?_
      exact b740 y255 y256 y257 y258 y259 y260 y261 y262 y263 y264 y265 (1 : Int32) σ266 τ267 ν268 δ269 π270 hR
    · refine r_iconst 739 (0 : Int32) K (dk_of tL_law_3 74 rfl) (by decide) ?_
      exact b740 y255 y256 y257 y258 y259 y260 y261 y262 y263 y264 y265 (0 : Int32) σ266 τ267 ν268 δ269 π270 hR
  have b706 : ∀ (y216 : Int32) (y217 : Int32) (y218 : Int32) (y219 : Int32) (y220 : Int32) (y221 : Int32) (y222 : Int32) (y223 : Int32) (y224 : Int32) (y225 : Int32) (y226 : Int32) (y227 : Int32) (σ228 : St) (τ229 : St) (ν230 : (Nat → Int32)) (δ231 : St) (π232 : (St × Int64)), some z9 = sg_act_706 y216 y217 y218 y219 y220 y221 y222 y223 y224 y225 y226 y227 σ228 τ229 ν230 δ231 π232 → V l γ X M (wB γ h σ228 ++ (wB γ g τ229 ++ (wS as9 (h 0) (g 0) an aq (ad 0) (ap 0) ++ (wN an (h 0) ν230 ++ (wR aq (h 0) ++ (wD γ ad δ231 ++ (wP γ ap π232 ++ (r)))))))) [some (.ref b), some (.ref as9), some (.int y216), some (.int y217), some (.int y218), some (.int y219), none, none, some (.int y220), some (.int y221), none, none, some (.int y222), some (.int y223), some (.int y224), some (.int y225), some (.int y226), none] (cs + 4) (ss + 24) 706 [.int y227] := by
    intro y216 y217 y218 y219 y220 y221 y222 y223 y224 y225 y226 y227 σ228 τ229 ν230 δ231 π232 hR
    unfold sg_act_706 at hR
    refine r_istore 706 17 [some (.ref b), some (.ref as9), some (.int y216), some (.int y217), some (.int y218), some (.int y219), none, none, some (.int y220), some (.int y221), none, none, some (.int y222), some (.int y223), some (.int y224), some (.int y225), some (.int y226), some (.int y227)] K (dk_of tL_law_3 59 rfl) rfl rfl (by decide) ?_
    refine r_iload 708 16 K (dk_of tL_law_3 60 rfl) rfl ?_
    refine r_iload 710 17 K (dk_of tL_law_3 61 rfl) rfl ?_
    refine r_ic_ne 712 782 K (dk_of tL_law_3 62 rfl) (by decide) hR (fun hR => ?_) (fun hR => ?_)
    · refine r_iload 715 9 K (dk_of tL_law_3 63 rfl) rfl ?_
      refine r_if_eq 717 762 K (dk_of tL_law_3 64 rfl) (by decide) hR (fun hR => ?_) (fun hR => ?_)
      · exact r_msk [true, true, true, true, true, true, true, true, true, false, true, true, false, false, false, true, true, false] [some (.ref b), some (.ref as9), some (.int y216), some (.int y217), some (.int y218), some (.int y219), none, none, some (.int y220), none, none, none, none, none, none, some (.int y225), some (.int y226), none] rfl (b762 y216 y217 y218 y219 y220 y225 y226 σ228 τ229 ν230 δ231 π232 hR)
      · refine r_iload 720 12 K (dk_of tL_law_3 65 rfl) rfl ?_
        refine r_if_ne 722 729 K (dk_of tL_law_3 66 rfl) (by decide) hR (fun hR => ?_) (fun hR => ?_)
        · refine r_iconst 725 (1 : Int32) K (dk_of tL_law_3 67 rfl) (by decide) ?_
          refine r_goto 726 730 K (dk_of tL_law_3 68 rfl) (by decide) ?_
          exact r_msk [true, true, true, true, true, true, true, true, true, false, true, true, true, true, true, true, true, false] [some (.ref b), some (.ref as9), some (.int y216), some (.int y217), some (.int y218), some (.int y219), none, none, some (.int y220), none, none, none, some (.int y222), some (.int y223), some (.int y224), some (.int y225), some (.int y226), none] rfl (b730 y216 y217 y218 y219 y220 y222 y223 y224 y225 y226 (1 : Int32) σ228 τ229 ν230 δ231 π232 hR)
        · refine r_iconst 729 (0 : Int32) K (dk_of tL_law_3 69 rfl) (by decide) ?_
          exact r_msk [true, true, true, true, true, true, true, true, true, false, true, true, true, true, true, true, true, false] [some (.ref b), some (.ref as9), some (.int y216), some (.int y217), some (.int y218), some (.int y219), none, none, some (.int y220), none, none, none, some (.int y222), some (.int y223), some (.int y224), some (.int y225), some (.int y226), none] rfl (b730 y216 y217 y218 y219 y220 y222 y223 y224 y225 y226 (0 : Int32) σ228 τ229 ν230 δ231 π232 hR)
    · refine r_iconst 782 (0 : Int32) K (dk_of tL_law_3 96 rfl) (by decide) ?_
      exact nn_ hR
  have b682 : ∀ (y200 : Int32) (y201 : Int32) (y202 : Int32) (y203 : Int32) (y204 : Int32) (y205 : Int32) (y206 : Int32) (y207 : Int32) (y208 : Int32) (y209 : Int32) (y210 : Int32) (σ211 : St) (τ212 : St) (ν213 : (Nat → Int32)) (δ214 : St) (π215 : (St × Int64)), some z9 = sg_act_682 y200 y201 y202 y203 y204 y205 y206 y207 y208 y209 y210 σ211 τ212 ν213 δ214 π215 → V l γ X M (wB γ h σ211 ++ (wB γ g τ212 ++ (wS as9 (h 0) (g 0) an aq (ad 0) (ap 0) ++ (wN an (h 0) ν213 ++ (wR aq (h 0) ++ (wD γ ad δ214 ++ (wP γ ap π215 ++ (r)))))))) [some (.ref b), some (.ref as9), some (.int y200), some (.int y201), some (.int y202), some (.int y203), none, none, some (.int y204), some (.int y205), none, none, some (.int y206), some (.int y207), some (.int y208), some (.int y209), some (.int y210), none] (cs + 4) (ss + 24) 682 [] := by
    intro y200 y201 y202 y203 y204 y205 y206 y207 y208 y209 y210 σ211 τ212 ν213 δ214 π215 hR
    unfold sg_act_682 at hR
    refine r_sipush 682 (-200 : Int32) K (dk_of tL_law_3 48 rfl) (by decide) ?_
    refine r_goto 685 706 K (dk_of tL_law_3 49 rfl) (by decide) ?_
    exact b706 y200 y201 y202 y203 y204 y205 y206 y207 y208 y209 y210 (-200 : Int32) σ211 τ212 ν213 δ214 π215 hR
  have b426 : ∀ (y97 : Int32) (y98 : Int32) (y99 : Int32) (y100 : Int32) (y101 : Int32) (y102 : Int32) (y103 : Int32) (y104 : Int32) (y105 : Int32) (σ106 : St) (τ107 : St) (ν108 : (Nat → Int32)) (δ109 : St) (π110 : (St × Int64)), some z9 = sg_act_426 y97 y98 y99 y100 y101 y102 y103 y104 y105 σ106 τ107 ν108 δ109 π110 → V l γ X M (wB γ h σ106 ++ (wB γ g τ107 ++ (wS as9 (h 0) (g 0) an aq (ad 0) (ap 0) ++ (wN an (h 0) ν108 ++ (wR aq (h 0) ++ (wD γ ad δ109 ++ (wP γ ap π110 ++ (r)))))))) [some (.ref b), some (.ref as9), some (.int y97), some (.int y98), some (.int y99), some (.int y100), some (.int y101), some (.int y102), some (.int y103), some (.int y104), some (.int y105), none, none, none, none, none, none, none] cs ss 426 [] := by
    intro y97 y98 y99 y100 y101 y102 y103 y104 y105 σ106 τ107 ν108 δ109 π110 hR
    unfold sg_act_426 at hR
    refine r_iload 426 10 K (dk_of tL_law_2 18 rfl) rfl ?_
    refine r_iconst 428 (4 : Int32) K (dk_of tL_law_2 19 rfl) (by decide) ?_
    refine r_ic_ne 429 455 K (dk_of tL_law_2 20 rfl) (by decide) hR (fun hR => ?_) (fun hR => ?_)
    · refine r_aload_n 432 1 K (dk_of tL_law_2 21 rfl) rfl rfl ?_
      refine r_iload 433 6 K (dk_of tL_law_2 22 rfl) rfl ?_
      refine r_iconst 435 (4 : Int32) K (dk_of tL_law_2 23 rfl) (by decide) ?_
      obtain ⟨x111, hc, hR⟩ := o1 hR
      refine r_cSi 436 [.int y101, .int (4 : Int32)] [.ref as9] x111 (wB γ h σ106 ++ (wB γ g τ107 ++ (wS as9 (h 0) (g 0) an aq (ad 0) (ap 0) ++ (wN an (h 0) ν108 ++ (wR aq (h 0) ++ (wD γ ad δ109 ++ (wP γ ap π110 ++ (r)))))))) K (ct_L_low hl hc.symm) cs_L_60 ⟨rfl, rfl, rfl⟩ (dk_of tL_law_2 24 rfl) rfl rfl rfl (bbL (by omega) (by omega)) ?_
      refine r_iload 439 7 K (dk_of tL_law_2 25 rfl) rfl ?_
      refine r_iconst 441 (3 : Int32) K (dk_of tL_law_2 26 rfl) (by decide) ?_
      refine r_ishr 442 K (dk_of tL_law_2 27 rfl) ?_
      refine r_bipush 443 (10 : Int32) K (dk_of tL_law_2 28 rfl) (by decide) ?_
      obtain ⟨x112, hc, hR⟩ := o1 hR
      refine r_cSi 445 [.int (y102 >>> ((3 : Int32) &&& 31)), .int (10 : Int32)] [.int x111, .ref as9] x112 (wB γ h σ106 ++ (wB γ g τ107 ++ (wS as9 (h 0) (g 0) an aq (ad 0) (ap 0) ++ (wN an (h 0) ν108 ++ (wR aq (h 0) ++ (wD γ ad δ109 ++ (wP γ ap π110 ++ (r)))))))) K (ct_L_low hl hc.symm) cs_L_60 ⟨rfl, rfl, rfl⟩ (dk_of tL_law_2 29 rfl) rfl rfl rfl (bbL (by omega) (by omega)) ?_
      obtain ⟨x113, σ114, hc, hR⟩ := ot2 hR
      refine r_cVi 448 52 [.int x111, .int x112] [] x113 (wB γ h σ114 ++ (wB γ g τ107 ++ (wS as9 (h 0) (g 0) an aq (ad 0) (ap 0) ++ (wN an (h 0) ν108 ++ (wR aq (h 0) ++ (wD γ ad δ109 ++ (wP γ ap π110 ++ (r)))))))) K (ct_X9_wind hl (z := .inl (x113, σ114)) hc.symm) cs_L_81 ⟨rfl, rfl, rfl⟩ (dk_of tL_law_2 30 rfl) rfl rfl rfl rfl rfl (bbL (by omega) (by omega)) ?_
      refine r_pop 451 K (dk_of tL_law_2 31 rfl) rfl ?_
      refine r_goto 452 940 K (dk_of tL_law_2 32 rfl) (by decide) ?_
      exact r_msk [true, true, true, true, true, true, false, false, false, false, false, true, true, true, true, true, true, true] [some (.ref b), some (.ref as9), some (.int y97), some (.int y98), some (.int y99), some (.int y100), none, none, none, none, none, none, none, none, none, none, none, none] rfl (r_wide (by omega) (by omega) (b940 y97 y98 y99 y100 σ114 τ107 ν108 δ109 π110 hR))
    · refine r_iload 455 10 K (dk_of tL_law_2 33 rfl) rfl ?_
      refine r_iconst 457 (5 : Int32) K (dk_of tL_law_2 34 rfl) (by decide) ?_
      refine r_ic_ne 458 605 K (dk_of tL_law_2 35 rfl) (by decide) hR (fun hR => ?_) (fun hR => ?_)
      · refine r_iload 461 6 K (dk_of tL_law_2 36 rfl) rfl ?_
        refine r_iload_n 463 3 K (dk_of tL_law_2 37 rfl) rfl rfl ?_
        refine r_iconst 464 (1 : Int32) K (dk_of tL_law_2 38 rfl) (by decide) ?_
        refine r_iadd 465 K (dk_of tL_law_2 39 rfl) ?_
        obtain ⟨x115, hc, hR⟩ := o1 hR
        refine r_cSi 466 [.int y101, .int (y98 + (1 : Int32))] [] x115 (wB γ h σ106 ++ (wB γ g τ107 ++ (wS as9 (h 0) (g 0) an aq (ad 0) (ap 0) ++ (wN an (h 0) ν108 ++ (wR aq (h 0) ++ (wD γ ad δ109 ++ (wP γ ap π110 ++ (r)))))))) K (ct_L_low hl hc.symm) cs_L_60 ⟨rfl, rfl, rfl⟩ (dk_of tL_law_2 40 rfl) rfl rfl rfl (bbL (by omega) (by omega)) ?_
        refine r_istore 469 11 [some (.ref b), some (.ref as9), some (.int y97), some (.int y98), some (.int y99), some (.int y100), some (.int y101), some (.int y102), some (.int y103), some (.int y104), some (.int y105), some (.int x115), none, none, none, none, none, none] K (dk_of tL_law_2 41 rfl) rfl rfl (by decide) ?_
        refine r_aload_n 471 1 K (dk_of tL_law_2 42 rfl) rfl rfl ?_
        refine r_bipush 472 (8 : Int32) K (dk_of tL_law_2 43 rfl) (by decide) ?_
        obtain ⟨x116, hc, hR⟩ := ot1 hR
        refine r_cVi 474 52 [.int (8 : Int32)] [] x116 (wB γ h σ106 ++ (wB γ g τ107 ++ (wS as9 (h 0) (g 0) an aq (ad 0) (ap 0) ++ (wN an (h 0) ν108 ++ (wR aq (h 0) ++ (wD γ ad δ109 ++ (wP γ ap π110 ++ (r)))))))) K (ct_X9_sum hl (z := .inl x116) hc.symm) cs_L_50 ⟨rfl, rfl, rfl⟩ (dk_of tL_law_2 44 rfl) rfl rfl rfl rfl rfl (bbL (by omega) (by omega)) ?_
        refine r_istore 477 12 [some (.ref b), some (.ref as9), some (.int y97), some (.int y98), some (.int y99), some (.int y100), some (.int y101), some (.int y102), some (.int y103), some (.int y104), some (.int y105), some (.int x115), some (.int x116), none, none, none, none, none] K (dk_of tL_law_2 45 rfl) rfl rfl (by decide) ?_
        refine r_aload_n 479 1 K (dk_of tL_law_2 46 rfl) rfl rfl ?_
        refine r_bipush 480 (11 : Int32) K (dk_of tL_law_2 47 rfl) (by decide) ?_
        obtain ⟨x117, hc, hR⟩ := ot1 hR
        refine r_cVi 482 52 [.int (11 : Int32)] [] x117 (wB γ h σ106 ++ (wB γ g τ107 ++ (wS as9 (h 0) (g 0) an aq (ad 0) (ap 0) ++ (wN an (h 0) ν108 ++ (wR aq (h 0) ++ (wD γ ad δ109 ++ (wP γ ap π110 ++ (r)))))))) K (ct_X9_sum hl (z := .inl x117) hc.symm) cs_L_50 ⟨rfl, rfl, rfl⟩ (dk_of tL_law_2 48 rfl) rfl rfl rfl rfl rfl (bbL (by omega) (by omega)) ?_
        refine r_istore 485 13 [some (.ref b), some (.ref as9), some (.int y97), some (.int y98), some (.int y99), some (.int y100), some (.int y101), some (.int y102), some (.int y103), some (.int y104), some (.int y105), some (.int x115), some (.int x116), some (.int x117), none, none, none, none] K (dk_of tL_law_2 49 rfl) rfl rfl (by decide) ?_
        refine r_aload_n 487 1 K (dk_of tL_law_2 50 rfl) rfl rfl ?_
        refine r_iload 488 7 K (dk_of tL_law_2 51 rfl) rfl ?_
        refine r_bipush 490 (7 : Int32) K (dk_of tL_law_2 52 rfl) (by decide) ?_
        refine r_ishr 492 K (dk_of tL_law_2 53 rfl) ?_
        refine r_iconst 493 (3 : Int32) K (dk_of tL_law_2 54 rfl) (by decide) ?_
        obtain ⟨x118, hc, hR⟩ := o1 hR
        refine r_cSi 494 [.int (y102 >>> ((7 : Int32) &&& 31)), .int (3 : Int32)] [.ref as9] x118 (wB γ h σ106 ++ (wB γ g τ107 ++ (wS as9 (h 0) (g 0) an aq (ad 0) (ap 0) ++ (wN an (h 0) ν108 ++ (wR aq (h 0) ++ (wD γ ad δ109 ++ (wP γ ap π110 ++ (r)))))))) K (ct_L_low hl hc.symm) cs_L_60 ⟨rfl, rfl, rfl⟩ (dk_of tL_law_2 55 rfl) rfl rfl rfl (bbL (by omega) (by omega)) ?_
        refine r_iload 497 11 K (dk_of tL_law_2 56 rfl) rfl ?_
        refine r_iload 499 8 K (dk_of tL_law_2 57 rfl) rfl ?_
        obtain ⟨x119, σ120, δ121, hc, hR⟩ := o3 hR
        refine r_cSh (mc := 1) (ms := 6) (n := 4) 501 [.ref as9, .int x118, .int x115, .int y103] [] x119 (wB γ h σ120 ++ (wB γ g τ107 ++ (wS as9 (h 0) (g 0) an aq (ad 0) (ap 0) ++ (wN an (h 0) ν108 ++ (wR aq (h 0) ++ (wD γ ad δ121 ++ (wP γ ap π110 ++ (r)))))))) K (ct_L_tryMean hl hc.symm) w806 w807 w0 cwx_tryMean (by decide +kernel) ⟨rfl, rfl, rfl⟩ (dk_of tL_law_2 58 rfl) rfl rfl rfl (aaL (by omega) (by omega)) ?_
        show V l γ X M (wB γ h σ120 ++ (wB γ g τ107 ++ (wS as9 (h 0) (g 0) an aq (ad 0) (ap 0) ++ (wN an (h 0) ν108 ++ (wR aq (h 0) ++ (wD γ ad δ121 ++ (wP γ ap π110 ++ (r)))))))) [some (.ref b), some (.ref as9), some (.int y97), some (.int y98), some (.int y99), some (.int y100), some (.int y101), some (.int y102), some (.int y103), some (.int y104), some (.int y105), some (.int x115), some (.int x116), some (.int x117), none, none, none, none] (cs + 1) (ss + 6) 504 [.int x119]
        refine r_istore 504 14 [some (.ref b), some (.ref as9), some (.int y97), some (.int y98), some (.int y99), some (.int y100), some (.int y101), some (.int y102), some (.int y103), some (.int y104), some (.int y105), some (.int x115), some (.int x116), some (.int x117), some (.int x119), none, none, none] K (dk_of tL_law_2 59 rfl) rfl rfl (by decide) ?_
        refine r_iload 506 7 K (dk_of tL_law_2 60 rfl) rfl ?_
        refine r_bipush 508 (7 : Int32) K (dk_of tL_law_2 61 rfl) (by decide) ?_
        refine r_ishr 510 K (dk_of tL_law_2 62 rfl) ?_
        refine r_iconst 511 (3 : Int32) K (dk_of tL_law_2 63 rfl) (by decide) ?_
        obtain ⟨x122, hc, hR⟩ := o1 hR
        refine r_cSi 512 [.int (y102 >>> ((7 : Int32) &&& 31)), .int (3 : Int32)] [] x122 (wB γ h σ120 ++ (wB γ g τ107 ++ (wS as9 (h 0) (g 0) an aq (ad 0) (ap 0) ++ (wN an (h 0) ν108 ++ (wR aq (h 0) ++ (wD γ ad δ121 ++ (wP γ ap π110 ++ (r)))))))) K (ct_L_low hl hc.symm) cs_L_60 ⟨rfl, rfl, rfl⟩ (dk_of tL_law_2 64 rfl) rfl rfl rfl (bbL (by omega) (by omega)) ?_
        refine r_iconst 515 (2 : Int32) K (dk_of tL_law_2 65 rfl) (by decide) ?_
        refine r_ic_ge 516 528 K (dk_of tL_law_2 66 rfl) (by decide) hR (fun hR => ?_) (fun hR => ?_)
        · exact r_msk [true, true, true, true, true, true, false, true, false, false, false, true, true, true, true, true, true, true] [some (.ref b), some (.ref as9), some (.int y97), some (.int y98), some (.int y99), some (.int y100), none, some (.int y102), none, none, none, some (.int x115), some (.int x116), some (.int x117), some (.int x119), none, none, none] rfl (b528 y97 y98 y99 y100 y102 x115 x116 x117 x119 σ120 τ107 ν108 δ121 π110 hR)
        · refine r_iload 519 14 K (dk_of tL_law_2 67 rfl) rfl ?_
          refine r_if_le 521 528 K (dk_of tL_law_2 68 rfl) (by decide) hR (fun hR => ?_) (fun hR => ?_)
          · exact r_msk [true, true, true, true, true, true, false, true, false, false, false, true, true, true, true, true, true, true] [some (.ref b), some (.ref as9), some (.int y97), some (.int y98), some (.int y99), some (.int y100), none, some (.int y102), none, none, none, some (.int x115), some (.int x116), some (.int x117), some (.int x119), none, none, none] rfl (b528 y97 y98 y99 y100 y102 x115 x116 x117 x119 σ120 τ107 ν108 δ121 π110 hR)
          · refine r_iconst 524 (1 : Int32) K (dk_of tL_law_2 69 rfl) (by decide) ?_
            refine r_goto 525 529 K (dk_of tL_law_2 70 rfl) (by decide) ?_
            exact r_msk [true, true, true, true, true, true, false, true, false, false, false, true, true, true, true, true, true, true] [some (.ref b), some (.ref as9), some (.int y97), some (.int y98), some (.int y99), some (.int y100), none, some (.int y102), none, none, none, some (.int x115), some (.int x116), some (.int x117), some (.int x119), none, none, none] rfl (b529 y97 y98 y99 y100 y102 x115 x116 x117 x119 (1 : Int32) σ120 τ107 ν108 δ121 π110 hR)
      · refine r_iload 605 10 K (dk_of tL_law_3 9 rfl) rfl ?_
        refine r_bipush 607 (6 : Int32) K (dk_of tL_law_3 10 rfl) (by decide) ?_
        refine r_ic_ne 609 787 K (dk_of tL_law_3 11 rfl) (by decide) hR (fun hR => ?_) (fun hR => ?_)
        · refine r_iload 612 6 K (dk_of tL_law_3 12 rfl) rfl ?_
          refine r_iconst 614 (2 : Int32) K (dk_of tL_law_3 13 rfl) (by decide) ?_
          obtain ⟨x193, hc, hR⟩ := o1 hR
          refine r_cSi 615 [.int y101, .int (2 : Int32)] [] x193 (wB γ h σ106 ++ (wB γ g τ107 ++ (wS as9 (h 0) (g 0) an aq (ad 0) (ap 0) ++ (wN an (h 0) ν108 ++ (wR aq (h 0) ++ (wD γ ad δ109 ++ (wP γ ap π110 ++ (r)))))))) K (ct_L_low hl hc.symm) cs_L_60 ⟨rfl, rfl, rfl⟩ (dk_of tL_law_3 14 rfl) rfl rfl rfl (bbL (by omega) (by omega)) ?_
          refine r_istore 618 11 [some (.ref b), some (.ref as9), some (.int y97), some (.int y98), some (.int y99), some (.int y100), some (.int y101), some (.int y102), some (.int y103), some (.int y104), some (.int y105), some (.int x193), none, none, none, none, none, none] K (dk_of tL_law_3 15 rfl) rfl rfl (by decide) ?_
          refine r_aload_n 620 1 K (dk_of tL_law_3 16 rfl) rfl rfl ?_
          refine r_iload 621 8 K (dk_of tL_law_3 17 rfl) rfl ?_
          refine r_iload 623 11 K (dk_of tL_law_3 18 rfl) rfl ?_
          refine r_iconst 625 (0 : Int32) K (dk_of tL_law_3 19 rfl) (by decide) ?_
          obtain ⟨x194, hc, hR⟩ := o1 hR
          refine r_cSh (mc := 1) (ms := 6) (n := 4) 626 [.ref as9, .int y103, .int x193, .int (0 : Int32)] [] x194 (wB γ h σ106 ++ (wB γ g τ107 ++ (wS as9 (h 0) (g 0) an aq (ad 0) (ap 0) ++ (wN an (h 0) ν108 ++ (wR aq (h 0) ++ (wD γ ad δ109 ++ (wP γ ap π110 ++ (r)))))))) K (ct_L_tryWhy hl hc.symm) w872 w873 w0 cwx_tryWhy (by decide +kernel) ⟨rfl, rfl, rfl⟩ (dk_of tL_law_3 20 rfl) rfl rfl rfl (aaL (by omega) (by omega)) ?_
          show V l γ X M (wB γ h σ106 ++ (wB γ g τ107 ++ (wS as9 (h 0) (g 0) an aq (ad 0) (ap 0) ++ (wN an (h 0) ν108 ++ (wR aq (h 0) ++ (wD γ ad δ109 ++ (wP γ ap π110 ++ (r)))))))) [some (.ref b), some (.ref as9), some (.int y97), some (.int y98), some (.int y99), some (.int y100), some (.int y101), some (.int y102), some (.int y103), some (.int y104), some (.int y105), some (.int x193), none, none, none, none, none, none] (cs + 1) (ss + 6) 629 [.int x194]
          refine r_istore 629 12 [some (.ref b), some (.ref as9), some (.int y97), some (.int y98), some (.int y99), some (.int y100), some (.int y101), some (.int y102), some (.int y103), some (.int y104), some (.int y105), some (.int x193), some (.int x194), none, none, none, none, none] K (dk_of tL_law_3 21 rfl) rfl rfl (by decide) ?_
          refine r_aload_n 631 1 K (dk_of tL_law_3 22 rfl) rfl rfl ?_
          refine r_iload 632 8 K (dk_of tL_law_3 23 rfl) rfl ?_
          refine r_iload 634 11 K (dk_of tL_law_3 24 rfl) rfl ?_
          refine r_iconst 636 (1 : Int32) K (dk_of tL_law_3 25 rfl) (by decide) ?_
          obtain ⟨x195, hc, hR⟩ := o1 hR
          refine r_cSh (mc := 1) (ms := 6) (n := 4) 637 [.ref as9, .int y103, .int x193, .int (1 : Int32)] [] x195 (wB γ h σ106 ++ (wB γ g τ107 ++ (wS as9 (h 0) (g 0) an aq (ad 0) (ap 0) ++ (wN an (h 0) ν108 ++ (wR aq (h 0) ++ (wD γ ad δ109 ++ (wP γ ap π110 ++ (r)))))))) K (ct_L_tryWhy hl hc.symm) w872 w873 w0 cwx_tryWhy (by decide +kernel) ⟨rfl, rfl, rfl⟩ (dk_of tL_law_3 26 rfl) rfl rfl rfl (aaL (by omega) (by omega)) ?_
          show V l γ X M (wB γ h σ106 ++ (wB γ g τ107 ++ (wS as9 (h 0) (g 0) an aq (ad 0) (ap 0) ++ (wN an (h 0) ν108 ++ (wR aq (h 0) ++ (wD γ ad δ109 ++ (wP γ ap π110 ++ (r)))))))) [some (.ref b), some (.ref as9), some (.int y97), some (.int y98), some (.int y99), some (.int y100), some (.int y101), some (.int y102), some (.int y103), some (.int y104), some (.int y105), some (.int x193), some (.int x194), none, none, none, none, none] (cs + 2) (ss + 12) 640 [.int x195]
          refine r_istore 640 13 [some (.ref b), some (.ref as9), some (.int y97), some (.int y98), some (.int y99), some (.int y100), some (.int y101), some (.int y102), some (.int y103), some (.int y104), some (.int y105), some (.int x193), some (.int x194), some (.int x195), none, none, none, none] K (dk_of tL_law_3 27 rfl) rfl rfl (by decide) ?_
          refine r_aload_n 642 1 K (dk_of tL_law_3 28 rfl) rfl rfl ?_
          refine r_iload 643 8 K (dk_of tL_law_3 29 rfl) rfl ?_
          refine r_iload 645 11 K (dk_of tL_law_3 30 rfl) rfl ?_
          refine r_iconst 647 (2 : Int32) K (dk_of tL_law_3 31 rfl) (by decide) ?_
          obtain ⟨x196, hc, hR⟩ := o1 hR
          refine r_cSh (mc := 1) (ms := 6) (n := 4) 648 [.ref as9, .int y103, .int x193, .int (2 : Int32)] [] x196 (wB γ h σ106 ++ (wB γ g τ107 ++ (wS as9 (h 0) (g 0) an aq (ad 0) (ap 0) ++ (wN an (h 0) ν108 ++ (wR aq (h 0) ++ (wD γ ad δ109 ++ (wP γ ap π110 ++ (r)))))))) K (ct_L_tryWhy hl hc.symm) w872 w873 w0 cwx_tryWhy (by decide +kernel) ⟨rfl, rfl, rfl⟩ (dk_of tL_law_3 32 rfl) rfl rfl rfl (aaL (by omega) (by omega)) ?_
          show V l γ X M (wB γ h σ106 ++ (wB γ g τ107 ++ (wS as9 (h 0) (g 0) an aq (ad 0) (ap 0) ++ (wN an (h 0) ν108 ++ (wR aq (h 0) ++ (wD γ ad δ109 ++ (wP γ ap π110 ++ (r)))))))) [some (.ref b), some (.ref as9), some (.int y97), some (.int y98), some (.int y99), some (.int y100), some (.int y101), some (.int y102), some (.int y103), some (.int y104), some (.int y105), some (.int x193), some (.int x194), some (.int x195), none, none, none, none] (cs + 3) (ss + 18) 651 [.int x196]
          refine r_istore 651 14 [some (.ref b), some (.ref as9), some (.int y97), some (.int y98), some (.int y99), some (.int y100), some (.int y101), some (.int y102), some (.int y103), some (.int y104), some (.int y105), some (.int x193), some (.int x194), some (.int x195), some (.int x196), none, none, none] K (dk_of tL_law_3 33 rfl) rfl rfl (by decide) ?_
          refine r_aload_n 653 1 K (dk_of tL_law_3 34 rfl) rfl rfl ?_
          refine r_iload 654 8 K (dk_of tL_law_3 35 rfl) rfl ?_
          refine r_iconst 656 (0 : Int32) K (dk_of tL_law_3 36 rfl) (by decide) ?_
          obtain ⟨x197, hc, hR⟩ := ot1 hR
          refine r_cVi 657 52 [.int y103, .int (0 : Int32)] [] x197 (wB γ h σ106 ++ (wB γ g τ107 ++ (wS as9 (h 0) (g 0) an aq (ad 0) (ap 0) ++ (wN an (h 0) ν108 ++ (wR aq (h 0) ++ (wD γ ad δ109 ++ (wP γ ap π110 ++ (r)))))))) K (ct_X9_at hl (z := .inl x197) hc.symm) cs_L_44 ⟨rfl, rfl, rfl⟩ (dk_of tL_law_3 37 rfl) rfl rfl rfl rfl rfl (bbL (by omega) (by omega)) ?_
          refine r_istore 660 15 [some (.ref b), some (.ref as9), some (.int y97), some (.int y98), some (.int y99), some (.int y100), some (.int y101), some (.int y102), some (.int y103), some (.int y104), some (.int y105), some (.int x193), some (.int x194), some (.int x195), some (.int x196), some (.int x197), none, none] K (dk_of tL_law_3 38 rfl) rfl rfl (by decide) ?_
          refine r_aload_n 662 1 K (dk_of tL_law_3 39 rfl) rfl rfl ?_
          refine r_iload 663 8 K (dk_of tL_law_3 40 rfl) rfl ?_
          refine r_iload 665 11 K (dk_of tL_law_3 41 rfl) rfl ?_
          obtain ⟨x198, σ199, hc, hR⟩ := o2 hR
          refine r_cSh (mc := 1) (ms := 6) (n := 3) 667 [.ref as9, .int y103, .int x193] [] x198 (wB γ h σ199 ++ (wB γ g τ107 ++ (wS as9 (h 0) (g 0) an aq (ad 0) (ap 0) ++ (wN an (h 0) ν108 ++ (wR aq (h 0) ++ (wD γ ad δ109 ++ (wP γ ap π110 ++ (r)))))))) K (ct_L_tryUse hl hc.symm) w840 w841 w0 cwx_tryUse (by decide +kernel) ⟨rfl, rfl, rfl⟩ (dk_of tL_law_3 42 rfl) rfl rfl rfl (aaL (by omega) (by omega)) ?_
          show V l γ X M (wB γ h σ199 ++ (wB γ g τ107 ++ (wS as9 (h 0) (g 0) an aq (ad 0) (ap 0) ++ (wN an (h 0) ν108 ++ (wR aq (h 0) ++ (wD γ ad δ109 ++ (wP γ ap π110 ++ (r)))))))) [some (.ref b), some (.ref as9), some (.int y97), some (.int y98), some (.int y99), some (.int y100), some (.int y101), some (.int y102), some (.int y103), some (.int y104), some (.int y105), some (.int x193), some (.int x194), some (.int x195), some (.int x196), some (.int x197), none, none] (cs + 4) (ss + 24) 670 [.int x198]
          refine r_istore 670 16 [some (.ref b), some (.ref as9), some (.int y97), some (.int y98), some (.int y99), some (.int y100), some (.int y101), some (.int y102), some (.int y103), some (.int y104), some (.int y105), some (.int x193), some (.int x194), some (.int x195), some (.int x196), some (.int x197), some (.int x198), none] K (dk_of tL_law_3 43 rfl) rfl rfl (by decide) ?_
          refine r_iload 672 9 K (dk_of tL_law_3 44 rfl) rfl ?_
          refine r_if_eq 674 682 K (dk_of tL_law_3 45 rfl) (by decide) hR (fun hR => ?_) (fun hR => ?_)
          · exact r_msk [true, true, true, true, true, true, false, false, true, true, false, false, true, true, true, true, true, true] [some (.ref b), some (.ref as9), some (.int y97), some (.int y98), some (.int y99), some (.int y100), none, none, some (.int y103), some (.int y104), none, none, some (.int x194), some (.int x195), some (.int x196), some (.int x197), some (.int x198), none] rfl (b682 y97 y98 y99 y100 y103 y104 x194 x195 x196 x197 x198 σ199 τ107 ν108 δ109 π110 hR)
          · refine r_iload 677 14 K (dk_of tL_law_3 46 rfl) rfl ?_
            refine r_if_le 679 688 K (dk_of tL_law_3 47 rfl) (by decide) hR (fun hR => ?_) (fun hR => ?_)
            · refine r_iload 688 11 K (dk_of tL_law_3 50 rfl) rfl ?_
              refine r_if_ne 690 698 K (dk_of tL_law_3 51 rfl) (by decide) hR (fun hR => ?_) (fun hR => ?_)
              · refine r_iload 693 15 K (dk_of tL_law_3 52 rfl) rfl ?_
                refine r_goto 695 706 K (dk_of tL_law_3 53 rfl) (by decide) ?_
                exact r_msk [true, true, true, true, true, true, false, false, true, true, false, false, true, true, true, true, true, true] [some (.ref b), some (.ref as9), some (.int y97), some (.int y98), some (.int y99), some (.int y100), none, none, some (.int y103), some (.int y104), none, none, some (.int x194), some (.int x195), some (.int x196), some (.int x197), some (.int x198), none] rfl (b706 y97 y98 y99 y100 y103 y104 x194 x195 x196 x197 x198 x197 σ199 τ107 ν108 δ109 π110 hR)
              · refine r_bipush 698 (9 : Int32) K (dk_of tL_law_3 54 rfl) (by decide) ?_
                refine r_iload 700 15 K (dk_of tL_law_3 55 rfl) rfl ?_
                refine r_imul 702 K (dk_of tL_law_3 56 rfl) ?_
                refine r_bipush 703 (10 : Int32) K (dk_of tL_law_3 57 rfl) (by decide) ?_
                refine r_idiv 705 K (dk_of tL_law_3 58 rfl) (by decide) ?_
                exact r_msk [true, true, true, true, true, true, false, false, true, true, false, false, true, true, true, true, true, true] [some (.ref b), some (.ref as9), some (.int y97), some (.int y98), some (.int y99), some (.int y100), none, none, some (.int y103), some (.int y104), none, none, some (.int x194), some (.int x195), some (.int x196), some (.int x197), some (.int x198), none] rfl (b706 y97 y98 y99 y100 y103 y104 x194 x195 x196 x197 x198 (((9 : Int32) * x197) / (10 : Int32)) σ199 τ107 ν108 δ109 π110 hR)
            · exact r_msk [true, true, true, true, true, true, false, false, true, true, false, false, true, true, true, true, true, true] [some (.ref b), some (.ref as9), some (.int y97), some (.int y98), some (.int y99), some (.int y100), none, none, some (.int y103), some (.int y104), none, none, some (.int x194), some (.int x195), some (.int x196), some (.int x197), some (.int x198), none] rfl (b682 y97 y98 y99 y100 y103 y104 x194 x195 x196 x197 x198 σ199 τ107 ν108 δ109 π110 hR)
        · refine r_aload_n 787 1 K (dk_of tL_law_3 99 rfl) rfl rfl ?_
          refine r_iload 788 8 K (dk_of tL_law_4 0 rfl) rfl ?_
          obtain ⟨x288, ν289, hc, hR⟩ := ot2 hR
          refine r_cVi 790 52 [.int y103] [] x288 (wB γ h σ106 ++ (wB γ g τ107 ++ (wS as9 (h 0) (g 0) an aq (ad 0) (ap 0) ++ (wN an (h 0) ν289 ++ (wR aq (h 0) ++ (wD γ ad δ109 ++ (wP γ ap π110 ++ (r)))))))) K (ct_X9_nextAnew hl (z := .inl (x288, ν289)) hc.symm) cs_L_95 ⟨rfl, rfl, rfl⟩ (dk_of tL_law_4 1 rfl) rfl rfl rfl rfl rfl (bbL (by omega) (by omega)) ?_
          refine r_istore 793 11 [some (.ref b), some (.ref as9), some (.int y97), some (.int y98), some (.int y99), some (.int y100), some (.int y101), some (.int y102), some (.int y103), some (.int y104), some (.int y105), some (.int x288), none, none, none, none, none, none] K (dk_of tL_law_4 2 rfl) rfl rfl (by decide) ?_
          refine r_iload 795 7 K (dk_of tL_law_4 3 rfl) rfl ?_
          refine r_bipush 797 (9 : Int32) K (dk_of tL_law_4 4 rfl) (by decide) ?_
          refine r_ishr 799 K (dk_of tL_law_4 5 rfl) ?_
          refine r_bipush 800 (24 : Int32) K (dk_of tL_law_4 6 rfl) (by decide) ?_
          obtain ⟨x290, hc, hR⟩ := o1 hR
          refine r_cSi 802 [.int (y102 >>> ((9 : Int32) &&& 31)), .int (24 : Int32)] [] x290 (wB γ h σ106 ++ (wB γ g τ107 ++ (wS as9 (h 0) (g 0) an aq (ad 0) (ap 0) ++ (wN an (h 0) ν289 ++ (wR aq (h 0) ++ (wD γ ad δ109 ++ (wP γ ap π110 ++ (r)))))))) K (ct_L_low hl hc.symm) cs_L_60 ⟨rfl, rfl, rfl⟩ (dk_of tL_law_4 7 rfl) rfl rfl rfl (bbL (by omega) (by omega)) ?_
          refine r_istore 805 12 [some (.ref b), some (.ref as9), some (.int y97), some (.int y98), some (.int y99), some (.int y100), some (.int y101), some (.int y102), some (.int y103), some (.int y104), some (.int y105), some (.int x288), some (.int x290), none, none, none, none, none] K (dk_of tL_law_4 8 rfl) rfl rfl (by decide) ?_
          refine r_aload_n 807 1 K (dk_of tL_law_4 9 rfl) rfl rfl ?_
          refine r_iload 808 12 K (dk_of tL_law_4 10 rfl) rfl ?_
          obtain ⟨x291, ν292, hc, hR⟩ := ot2 hR
          refine r_cVi 810 52 [.int x290] [] x291 (wB γ h σ106 ++ (wB γ g τ107 ++ (wS as9 (h 0) (g 0) an aq (ad 0) (ap 0) ++ (wN an (h 0) ν292 ++ (wR aq (h 0) ++ (wD γ ad δ109 ++ (wP γ ap π110 ++ (r)))))))) K (ct_X9_nextAnew hl (z := .inl (x291, ν292)) hc.symm) cs_L_95 ⟨rfl, rfl, rfl⟩ (dk_of tL_law_4 11 rfl) rfl rfl rfl rfl rfl (bbL (by omega) (by omega)) ?_
          refine r_istore 813 13 [some (.ref b), some (.ref as9), some (.int y97), some (.int y98), some (.int y99), some (.int y100), some (.int y101), some (.int y102), some (.int y103), some (.int y104), some (.int y105), some (.int x288), some (.int x290), some (.int x291), none, none, none, none] K (dk_of tL_law_4 12 rfl) rfl rfl (by decide) ?_
          refine r_aload_n 815 1 K (dk_of tL_law_4 13 rfl) rfl rfl ?_
          refine r_iload 816 8 K (dk_of tL_law_4 14 rfl) rfl ?_
          refine r_iconst 818 (3 : Int32) K (dk_of tL_law_4 15 rfl) (by decide) ?_
          obtain ⟨x293, τ294, hc, hR⟩ := ot2 hR
          refine r_cVi 819 52 [.int y103, .int (3 : Int32)] [] x293 (wB γ h σ106 ++ (wB γ g τ294 ++ (wS as9 (h 0) (g 0) an aq (ad 0) (ap 0) ++ (wN an (h 0) ν292 ++ (wR aq (h 0) ++ (wD γ ad δ109 ++ (wP γ ap π110 ++ (r)))))))) K (ct_X9_ahead hl (z := .inl (x293, τ294)) hc.symm) cs_L_98 ⟨rfl, rfl, rfl⟩ (dk_of tL_law_4 16 rfl) rfl rfl rfl rfl rfl (bbL (by omega) (by omega)) ?_
          refine r_istore 822 14 [some (.ref b), some (.ref as9), some (.int y97), some (.int y98), some (.int y99), some (.int y100), some (.int y101), some (.int y102), some (.int y103), some (.int y104), some (.int y105), some (.int x288), some (.int x290), some (.int x291), some (.int x293), none, none, none] K (dk_of tL_law_4 17 rfl) rfl rfl (by decide) ?_
          refine r_aload_n 824 1 K (dk_of tL_law_4 18 rfl) rfl rfl ?_
          refine r_iload 825 8 K (dk_of tL_law_4 19 rfl) rfl ?_
          refine r_iconst 827 (1 : Int32) K (dk_of tL_law_4 20 rfl) (by decide) ?_
          obtain ⟨x295, τ296, hc, hR⟩ := ot2 hR
          refine r_cVi 828 52 [.int y103, .int (1 : Int32)] [] x295 (wB γ h σ106 ++ (wB γ g τ296 ++ (wS as9 (h 0) (g 0) an aq (ad 0) (ap 0) ++ (wN an (h 0) ν292 ++ (wR aq (h 0) ++ (wD γ ad δ109 ++ (wP γ ap π110 ++ (r)))))))) K (ct_X9_ahead hl (z := .inl (x295, τ296)) hc.symm) cs_L_98 ⟨rfl, rfl, rfl⟩ (dk_of tL_law_4 21 rfl) rfl rfl rfl rfl rfl (bbL (by omega) (by omega)) ?_
          refine r_iload 831 11 K (dk_of tL_law_4 22 rfl) rfl ?_
          refine r_ic_ne 833 848 K (dk_of tL_law_4 23 rfl) (by decide) hR (fun hR => ?_) (fun hR => ?_)
          · refine r_aload_n 836 1 K (dk_of tL_law_4 24 rfl) rfl rfl ?_
            refine r_iload 837 12 K (dk_of tL_law_4 25 rfl) rfl ?_
            refine r_iconst 839 (1 : Int32) K (dk_of tL_law_4 26 rfl) (by decide) ?_
            obtain ⟨x297, τ298, hc, hR⟩ := ot2 hR
            refine r_cVi 840 52 [.int x290, .int (1 : Int32)] [] x297 (wB γ h σ106 ++ (wB γ g τ298 ++ (wS as9 (h 0) (g 0) an aq (ad 0) (ap 0) ++ (wN an (h 0) ν292 ++ (wR aq (h 0) ++ (wD γ ad δ109 ++ (wP γ ap π110 ++ (r)))))))) K (ct_X9_ahead hl (z := .inl (x297, τ298)) hc.symm) cs_L_98 ⟨rfl, rfl, rfl⟩ (dk_of tL_law_4 27 rfl) rfl rfl rfl rfl rfl (bbL (by omega) (by omega)) ?_
            refine r_iload 843 13 K (dk_of tL_law_4 28 rfl) rfl ?_
            refine r_ic_eq 845 850 K (dk_of tL_law_4 29 rfl) (by decide) hR (fun hR => ?_) (fun hR => ?_)
            · refine r_aload_n 850 1 K (dk_of tL_law_4 32 rfl) rfl rfl ?_
              refine r_iconst 851 (1 : Int32) K (dk_of tL_law_4 33 rfl) (by decide) ?_
              obtain ⟨x299, σ300, hc, hR⟩ := ot2 hR
              refine r_cVi 852 52 [.int (1 : Int32)] [] x299 (wB γ h σ300 ++ (wB γ g τ298 ++ (wS as9 (h 0) (g 0) an aq (ad 0) (ap 0) ++ (wN an (h 0) ν292 ++ (wR aq (h 0) ++ (wD γ ad δ109 ++ (wP γ ap π110 ++ (r)))))))) K (ct_X9_pass hl (z := .inl (x299, σ300)) hc.symm) cs_L_101 ⟨rfl, rfl, rfl⟩ (dk_of tL_law_4 34 rfl) rfl rfl rfl rfl rfl (bbL (by omega) (by omega)) ?_
              refine r_pop 855 K (dk_of tL_law_4 35 rfl) rfl ?_
              refine r_aload_n 856 1 K (dk_of tL_law_4 36 rfl) rfl rfl ?_
              refine r_iload 857 8 K (dk_of tL_law_4 37 rfl) rfl ?_
              refine r_iconst 859 (0 : Int32) K (dk_of tL_law_4 38 rfl) (by decide) ?_
              obtain ⟨x301, hc, hR⟩ := ot1 hR
              refine r_cVi 860 52 [.int y103, .int (0 : Int32)] [] x301 (wB γ h σ300 ++ (wB γ g τ298 ++ (wS as9 (h 0) (g 0) an aq (ad 0) (ap 0) ++ (wN an (h 0) ν292 ++ (wR aq (h 0) ++ (wD γ ad δ109 ++ (wP γ ap π110 ++ (r)))))))) K (ct_X9_at hl (z := .inl x301) hc.symm) cs_L_44 ⟨rfl, rfl, rfl⟩ (dk_of tL_law_4 39 rfl) rfl rfl rfl rfl rfl (bbL (by omega) (by omega)) ?_
              refine r_aload_n 863 1 K (dk_of tL_law_4 40 rfl) rfl rfl ?_
              refine r_iload 864 8 K (dk_of tL_law_4 41 rfl) rfl ?_
              refine r_iconst 866 (1 : Int32) K (dk_of tL_law_4 42 rfl) (by decide) ?_
              obtain ⟨x302, hc, hR⟩ := ot1 hR
              refine r_cVi 867 52 [.int y103, .int (1 : Int32)] [.int x301] x302 (wB γ h σ300 ++ (wB γ g τ298 ++ (wS as9 (h 0) (g 0) an aq (ad 0) (ap 0) ++ (wN an (h 0) ν292 ++ (wR aq (h 0) ++ (wD γ ad δ109 ++ (wP γ ap π110 ++ (r)))))))) K (ct_X9_at hl (z := .inl x302) hc.symm) cs_L_44 ⟨rfl, rfl, rfl⟩ (dk_of tL_law_4 43 rfl) rfl rfl rfl rfl rfl (bbL (by omega) (by omega)) ?_
              refine r_iadd 870 K (dk_of tL_law_4 44 rfl) ?_
              refine r_aload_n 871 1 K (dk_of tL_law_4 45 rfl) rfl rfl ?_
              refine r_iload 872 8 K (dk_of tL_law_4 46 rfl) rfl ?_
              refine r_iconst 874 (2 : Int32) K (dk_of tL_law_4 47 rfl) (by decide) ?_
              obtain ⟨x303, hc, hR⟩ := ot1 hR
              refine r_cVi 875 52 [.int y103, .int (2 : Int32)] [.int (x301 + x302)] x303 (wB γ h σ300 ++ (wB γ g τ298 ++ (wS as9 (h 0) (g 0) an aq (ad 0) (ap 0) ++ (wN an (h 0) ν292 ++ (wR aq (h 0) ++ (wD γ ad δ109 ++ (wP γ ap π110 ++ (r)))))))) K (ct_X9_at hl (z := .inl x303) hc.symm) cs_L_44 ⟨rfl, rfl, rfl⟩ (dk_of tL_law_4 48 rfl) rfl rfl rfl rfl rfl (bbL (by omega) (by omega)) ?_
              refine r_iadd 878 K (dk_of tL_law_4 49 rfl) ?_
              refine r_iload 879 11 K (dk_of tL_law_4 50 rfl) rfl ?_
              refine r_ic_ne 881 924 K (dk_of tL_law_4 51 rfl) (by decide) hR (fun hR => ?_) (fun hR => ?_)
              · refine r_aload_n 884 1 K (dk_of tL_law_4 52 rfl) rfl rfl ?_
                refine r_iload 885 12 K (dk_of tL_law_4 53 rfl) rfl ?_
                refine r_iconst 887 (0 : Int32) K (dk_of tL_law_4 54 rfl) (by decide) ?_
                obtain ⟨x304, hc, hR⟩ := ot1 hR
                refine r_cVi 888 52 [.int x290, .int (0 : Int32)] [] x304 (wB γ h σ300 ++ (wB γ g τ298 ++ (wS as9 (h 0) (g 0) an aq (ad 0) (ap 0) ++ (wN an (h 0) ν292 ++ (wR aq (h 0) ++ (wD γ ad δ109 ++ (wP γ ap π110 ++ (r)))))))) K (ct_X9_at hl (z := .inl x304) hc.symm) cs_L_44 ⟨rfl, rfl, rfl⟩ (dk_of tL_law_4 55 rfl) rfl rfl rfl rfl rfl (bbL (by omega) (by omega)) ?_
                refine r_aload_n 891 1 K (dk_of tL_law_4 56 rfl) rfl rfl ?_
                refine r_iload 892 12 K (dk_of tL_law_4 57 rfl) rfl ?_
                refine r_iconst 894 (1 : Int32) K (dk_of tL_law_4 58 rfl) (by decide) ?_
                obtain ⟨x305, hc, hR⟩ := ot1 hR
                refine r_cVi 895 52 [.int x290, .int (1 : Int32)] [.int x304] x305 (wB γ h σ300 ++ (wB γ g τ298 ++ (wS as9 (h 0) (g 0) an aq (ad 0) (ap 0) ++ (wN an (h 0) ν292 ++ (wR aq (h 0) ++ (wD γ ad δ109 ++ (wP γ ap π110 ++ (r)))))))) K (ct_X9_at hl (z := .inl x305) hc.symm) cs_L_44 ⟨rfl, rfl, rfl⟩ (dk_of tL_law_4 59 rfl) rfl rfl rfl rfl rfl (bbL (by omega) (by omega)) ?_
                refine r_iadd 898 K (dk_of tL_law_4 60 rfl) ?_
                refine r_aload_n 899 1 K (dk_of tL_law_4 61 rfl) rfl rfl ?_
                refine r_iload 900 12 K (dk_of tL_law_4 62 rfl) rfl ?_
                refine r_iconst 902 (2 : Int32) K (dk_of tL_law_4 63 rfl) (by decide) ?_
                obtain ⟨x306, hc, hR⟩ := ot1 hR
                refine r_cVi 903 52 [.int x290, .int (2 : Int32)] [.int (x304 + x305)] x306 (wB γ h σ300 ++ (wB γ g τ298 ++ (wS as9 (h 0) (g 0) an aq (ad 0) (ap 0) ++ (wN an (h 0) ν292 ++ (wR aq (h 0) ++ (wD γ ad δ109 ++ (wP γ ap π110 ++ (r)))))))) K (ct_X9_at hl (z := .inl x306) hc.symm) cs_L_44 ⟨rfl, rfl, rfl⟩ (dk_of tL_law_4 64 rfl) rfl rfl rfl rfl rfl (bbL (by omega) (by omega)) ?_
                refine r_iadd 906 K (dk_of tL_law_4 65 rfl) ?_
                refine r_iload 907 13 K (dk_of tL_law_4 66 rfl) rfl ?_
                refine r_ic_ne 909 924 K (dk_of tL_law_4 67 rfl) (by decide) hR (fun hR => ?_) (fun hR => ?_)
                · refine r_aload_n 912 1 K (dk_of tL_law_4 68 rfl) rfl rfl ?_
                  refine r_iload 913 8 K (dk_of tL_law_4 69 rfl) rfl ?_
                  refine r_iconst 915 (2 : Int32) K (dk_of tL_law_4 70 rfl) (by decide) ?_
                  obtain ⟨x307, τ308, hc, hR⟩ := ot2 hR
                  refine r_cVi 916 52 [.int y103, .int (2 : Int32)] [] x307 (wB γ h σ300 ++ (wB γ g τ308 ++ (wS as9 (h 0) (g 0) an aq (ad 0) (ap 0) ++ (wN an (h 0) ν292 ++ (wR aq (h 0) ++ (wD γ ad δ109 ++ (wP γ ap π110 ++ (r)))))))) K (ct_X9_ahead hl (z := .inl (x307, τ308)) hc.symm) cs_L_98 ⟨rfl, rfl, rfl⟩ (dk_of tL_law_4 71 rfl) rfl rfl rfl rfl rfl (bbL (by omega) (by omega)) ?_
                  refine r_iload 919 14 K (dk_of tL_law_4 72 rfl) rfl ?_
                  refine r_ic_eq 921 926 K (dk_of tL_law_4 73 rfl) (by decide) hR (fun hR => ?_) (fun hR => ?_)
                  · refine r_aload_n 926 1 K (dk_of tL_law_4 76 rfl) rfl rfl ?_
                    refine r_iconst 927 (2 : Int32) K (dk_of tL_law_4 77 rfl) (by decide) ?_
                    refine r_iload 928 6 K (dk_of tL_law_4 78 rfl) rfl ?_
                    refine r_bipush 930 (7 : Int32) K (dk_of tL_law_4 79 rfl) (by decide) ?_
                    obtain ⟨x309, hc, hR⟩ := o1 hR
                    refine r_cSi 932 [.int y101, .int (7 : Int32)] [.int (2 : Int32), .ref as9] x309 (wB γ h σ300 ++ (wB γ g τ308 ++ (wS as9 (h 0) (g 0) an aq (ad 0) (ap 0) ++ (wN an (h 0) ν292 ++ (wR aq (h 0) ++ (wD γ ad δ109 ++ (wP γ ap π110 ++ (r)))))))) K (ct_L_low hl hc.symm) cs_L_60 ⟨rfl, rfl, rfl⟩ (dk_of tL_law_4 80 rfl) rfl rfl rfl (bbL (by omega) (by omega)) ?_
                    refine r_iadd 935 K (dk_of tL_law_4 81 rfl) ?_
                    obtain ⟨x310, σ311, hc, hR⟩ := ot2 hR
                    refine r_cVi 936 52 [.int ((2 : Int32) + x309)] [] x310 (wB γ h σ311 ++ (wB γ g τ308 ++ (wS as9 (h 0) (g 0) an aq (ad 0) (ap 0) ++ (wN an (h 0) ν292 ++ (wR aq (h 0) ++ (wD γ ad δ109 ++ (wP γ ap π110 ++ (r)))))))) K (ct_X9_pass hl (z := .inl (x310, σ311)) hc.symm) cs_L_101 ⟨rfl, rfl, rfl⟩ (dk_of tL_law_4 82 rfl) rfl rfl rfl rfl rfl (bbL (by omega) (by omega)) ?_
                    refine r_pop 939 K (dk_of tL_law_4 83 rfl) rfl ?_
                    exact r_msk [true, true, true, true, true, true, false, false, false, false, false, false, false, false, false, true, true, true] [some (.ref b), some (.ref as9), some (.int y97), some (.int y98), some (.int y99), some (.int y100), none, none, none, none, none, none, none, none, none, none, none, none] rfl (r_wide (by omega) (by omega) (b940 y97 y98 y99 y100 σ311 τ308 ν292 δ109 π110 hR))
                  · refine r_iconst 924 (0 : Int32) K (dk_of tL_law_4 74 rfl) (by decide) ?_
                    exact nn_ hR
                · refine r_iconst 924 (0 : Int32) K (dk_of tL_law_4 74 rfl) (by decide) ?_
                  exact nn_ hR
              · refine r_iconst 924 (0 : Int32) K (dk_of tL_law_4 74 rfl) (by decide) ?_
                exact nn_ hR
            · refine r_iconst 848 (0 : Int32) K (dk_of tL_law_4 30 rfl) (by decide) ?_
              exact nn_ hR
          · refine r_iconst 848 (0 : Int32) K (dk_of tL_law_4 30 rfl) (by decide) ?_
            exact nn_ hR
  have b411 : ∀ (y314 : Int32) (y315 : Int32) (y316 : Int32) (y317 : Int32) (y318 : Int32) (y319 : Int32) (σ320 : St) (τ321 : St) (ν322 : (Nat → Int32)) (δ323 : St) (π324 : (St × Int64)), some z9 = sg_act_411 y314 y315 y316 y317 y318 y319 σ320 τ321 ν322 δ323 π324 → V l γ X M (wB γ h σ320 ++ (wB γ g τ321 ++ (wS as9 (h 0) (g 0) an aq (ad 0) (ap 0) ++ (wN an (h 0) ν322 ++ (wR aq (h 0) ++ (wD γ ad δ323 ++ (wP γ ap π324 ++ (r)))))))) [some (.ref b), some (.ref as9), some (.int y314), some (.int y315), some (.int y316), some (.int y317), none, none, none, none, none, none, none, none, none, none, none, none] cs ss 411 [.int y319, .int y318, .ref as9] := by
    intro y314 y315 y316 y317 y318 y319 σ320 τ321 ν322 δ323 π324 hR
    unfold sg_act_411 at hR
    obtain ⟨x325, σ326, hc, hR⟩ := ot2 hR
    refine r_cVi 411 52 [.int y318, .int y319] [] x325 (wB γ h σ326 ++ (wB γ g τ321 ++ (wS as9 (h 0) (g 0) an aq (ad 0) (ap 0) ++ (wN an (h 0) ν322 ++ (wR aq (h 0) ++ (wD γ ad δ323 ++ (wP γ ap π324 ++ (r)))))))) K (ct_X9_team hl (z := .inl (x325, σ326)) hc.symm) cs_L_77 ⟨rfl, rfl, rfl⟩ (dk_of tL_law_2 11 rfl) rfl rfl rfl rfl rfl (bbL (by omega) (by omega)) ?_
    refine r_iload_n 414 3 K (dk_of tL_law_2 12 rfl) rfl rfl ?_
    refine r_ic_eq 415 420 K (dk_of tL_law_2 13 rfl) (by decide) hR (fun hR => ?_) (fun hR => ?_)
    · refine r_iinc 420 3 (y315 + 1) [some (.ref b), some (.ref as9), some (.int y314), some (.int (y315 + 1)), some (.int y316), some (.int y317), none, none, none, none, none, none, none, none, none, none, none, none] K (dk_of tL_law_2 16 rfl) rfl rfl rfl rfl (by decide) ?_
      refine r_goto 423 940 K (dk_of tL_law_2 17 rfl) (by decide) ?_
      exact r_wide (by omega) (by omega) (b940 y314 (y315 + 1) y316 y317 σ326 τ321 ν322 δ323 π324 hR)
    · refine r_iconst 418 (0 : Int32) K (dk_of tL_law_2 14 rfl) (by decide) ?_
      exact nn_ hR
  have b370 : ∀ (y341 : Int32) (y342 : Int32) (y343 : Int32) (y344 : Int32) (y345 : Int32) (σ346 : St) (τ347 : St) (ν348 : (Nat → Int32)) (δ349 : St) (π350 : (St × Int64)), some z9 = sg_act_370 y341 y342 y343 y344 y345 σ346 τ347 ν348 δ349 π350 → V l γ X M (wB γ h σ346 ++ (wB γ g τ347 ++ (wS as9 (h 0) (g 0) an aq (ad 0) (ap 0) ++ (wN an (h 0) ν348 ++ (wR aq (h 0) ++ (wD γ ad δ349 ++ (wP γ ap π350 ++ (r)))))))) [some (.ref b), some (.ref as9), some (.int y341), none, some (.int y342), some (.int y343), none, none, none, none, none, none, none, none, none, none, none, none] (cs + 1) (ss + 6) 370 [.int y345, .int y344] := by
    intro y341 y342 y343 y344 y345 σ346 τ347 ν348 δ349 π350 hR
    unfold sg_act_370 at hR
    refine r_iadd 370 K (dk_of tL_law_1 89 rfl) ?_
    refine r_nmI hR (fun x351 hR => ?_)
    refine r_istore_n 371 3 [some (.ref b), some (.ref as9), some (.int y341), some (.int x351), some (.int y342), some (.int y343), none, none, none, none, none, none, none, none, none, none, none, none] K (dk_of tL_law_1 90 rfl) rfl rfl rfl (by decide) ?_
    refine r_goto 372 940 K (dk_of tL_law_1 91 rfl) (by decide) ?_
    exact r_wide (by omega) (by omega) (b940 y341 x351 y342 y343 σ346 τ347 ν348 δ349 π350 hR)
  have b359 : ∀ (y331 : Int32) (y332 : Int32) (y333 : Int32) (y334 : Int32) (y335 : Int32) (σ336 : St) (τ337 : St) (ν338 : (Nat → Int32)) (δ339 : St) (π340 : (St × Int64)), some z9 = sg_act_359 y331 y332 y333 y334 y335 σ336 τ337 ν338 δ339 π340 → V l γ X M (wB γ h σ336 ++ (wB γ g τ337 ++ (wS as9 (h 0) (g 0) an aq (ad 0) (ap 0) ++ (wN an (h 0) ν338 ++ (wR aq (h 0) ++ (wD γ ad δ339 ++ (wP γ ap π340 ++ (r)))))))) [some (.ref b), some (.ref as9), some (.int y331), some (.int y332), some (.int y333), some (.int y334), none, none, none, none, none, some (.int y335), none, none, none, none, none, none] (cs + 1) (ss + 6) 359 [] := by
    intro y331 y332 y333 y334 y335 σ336 τ337 ν338 δ339 π340 hR
    unfold sg_act_359 at hR
    refine r_iload_n 359 3 K (dk_of tL_law_1 83 rfl) rfl rfl ?_
    refine r_iload 360 11 K (dk_of tL_law_1 84 rfl) rfl ?_
    refine r_if_lt 362 369 K (dk_of tL_law_1 85 rfl) (by decide) hR (fun hR => ?_) (fun hR => ?_)
    · refine r_iconst 369 (0 : Int32) K (dk_of tL_law_1 88 rfl) (by decide) ?_
      exact r_msk [true, true, true, false, true, true, true, true, true, true, true, false, true, true, true, true, true, true] [some (.ref b), some (.ref as9), some (.int y331), none, some (.int y333), some (.int y334), none, none, none, none, none, none, none, none, none, none, none, none] rfl (b370 y331 y333 y334 y332 (0 : Int32) σ336 τ337 ν338 δ339 π340 hR)
    · refine r_iconst 365 (1 : Int32) K (dk_of tL_law_1 86 rfl) (by decide) ?_
      refine r_goto 366 370 K (dk_of tL_law_1 87 rfl) (by decide) ?_
      exact r_msk [true, true, true, false, true, true, true, true, true, true, true, false, true, true, true, true, true, true] [some (.ref b), some (.ref as9), some (.int y331), none, some (.int y333), some (.int y334), none, none, none, none, none, none, none, none, none, none, none, none] rfl (b370 y331 y333 y334 y332 (1 : Int32) σ336 τ337 ν338 δ339 π340 hR)
  have b179 : ∀ (y16 : Int32) (y17 : Int32) (y18 : Int32) (y19 : Int32) (y20 : Int32) (y21 : Int32) (y22 : Int32) (y23 : Int32) (y24 : Int32) (σ25 : St) (τ26 : St) (ν27 : (Nat → Int32)) (δ28 : St) (π29 : (St × Int64)), some z9 = sg_act_179 y16 y17 y18 y19 y20 y21 y22 y23 y24 σ25 τ26 ν27 δ28 π29 → V l γ X M (wB γ h σ25 ++ (wB γ g τ26 ++ (wS as9 (h 0) (g 0) an aq (ad 0) (ap 0) ++ (wN an (h 0) ν27 ++ (wR aq (h 0) ++ (wD γ ad δ28 ++ (wP γ ap π29 ++ (r)))))))) [some (.ref b), some (.ref as9), some (.int y16), some (.int y17), some (.int y18), some (.int y19), some (.int y20), some (.int y21), some (.int y22), some (.int y23), none, none, none, none, none, none, none, none] cs ss 179 [.int y24] := by
    intro y16 y17 y18 y19 y20 y21 y22 y23 y24 σ25 τ26 ν27 δ28 π29 hR
    unfold sg_act_179 at hR
    refine r_istore 179 10 [some (.ref b), some (.ref as9), some (.int y16), some (.int y17), some (.int y18), some (.int y19), some (.int y20), some (.int y21), some (.int y22), some (.int y23), some (.int y24), none, none, none, none, none, none, none] K (dk_of tL_law_0 95 rfl) rfl rfl (by decide) ?_
    refine r_iload 181 10 K (dk_of tL_law_0 96 rfl) rfl ?_
    refine r_if_ne 183 281 K (dk_of tL_law_0 97 rfl) (by decide) hR (fun hR => ?_) (fun hR => ?_)
    · refine r_iload 186 9 K (dk_of tL_law_0 98 rfl) rfl ?_
      refine r_if_eq 188 200 K (dk_of tL_law_0 99 rfl) (by decide) hR (fun hR => ?_) (fun hR => ?_)
      · exact r_msk [true, true, true, true, true, true, true, true, true, false, false, true, true, true, true, true, true, true] [some (.ref b), some (.ref as9), some (.int y16), some (.int y17), some (.int y18), some (.int y19), some (.int y20), some (.int y21), some (.int y22), none, none, none, none, none, none, none, none, none] rfl (b200 y16 y17 y18 y19 y20 y21 y22 σ25 τ26 ν27 δ28 π29 hR)
      · refine r_iload_n 191 2 K (dk_of tL_law_1 0 rfl) rfl rfl ?_
        refine r_iconst 192 (4 : Int32) K (dk_of tL_law_1 1 rfl) (by decide) ?_
        refine r_ic_ge 193 200 K (dk_of tL_law_1 2 rfl) (by decide) hR (fun hR => ?_) (fun hR => ?_)
        · exact r_msk [true, true, true, true, true, true, true, true, true, false, false, true, true, true, true, true, true, true] [some (.ref b), some (.ref as9), some (.int y16), some (.int y17), some (.int y18), some (.int y19), some (.int y20), some (.int y21), some (.int y22), none, none, none, none, none, none, none, none, none] rfl (b200 y16 y17 y18 y19 y20 y21 y22 σ25 τ26 ν27 δ28 π29 hR)
        · refine r_iconst 196 (1 : Int32) K (dk_of tL_law_1 3 rfl) (by decide) ?_
          refine r_goto 197 201 K (dk_of tL_law_1 4 rfl) (by decide) ?_
          exact r_msk [true, true, true, true, true, true, true, true, true, false, false, true, true, true, true, true, true, true] [some (.ref b), some (.ref as9), some (.int y16), some (.int y17), some (.int y18), some (.int y19), some (.int y20), some (.int y21), some (.int y22), none, none, none, none, none, none, none, none, none] rfl (b201 y16 y17 y18 y19 y20 y21 y22 (1 : Int32) σ25 τ26 ν27 δ28 π29 hR)
    · refine r_iload 281 10 K (dk_of tL_law_1 46 rfl) rfl ?_
      refine r_iconst 283 (3 : Int32) K (dk_of tL_law_1 47 rfl) (by decide) ?_
      refine r_ic_ge 284 375 K (dk_of tL_law_1 48 rfl) (by decide) hR (fun hR => ?_) (fun hR => ?_)
      · refine r_iload 375 10 K (dk_of tL_law_1 92 rfl) rfl ?_
        refine r_iconst 377 (3 : Int32) K (dk_of tL_law_1 93 rfl) (by decide) ?_
        refine r_ic_ne 378 426 K (dk_of tL_law_1 94 rfl) (by decide) hR (fun hR => ?_) (fun hR => ?_)
        · refine r_iload_n 381 3 K (dk_of tL_law_1 95 rfl) rfl rfl ?_
          refine r_bipush 382 (20 : Int32) K (dk_of tL_law_1 96 rfl) (by decide) ?_
          refine r_ic_ge 384 426 K (dk_of tL_law_1 97 rfl) (by decide) hR (fun hR => ?_) (fun hR => ?_)
          · exact b426 y16 y17 y18 y19 y20 y21 y22 y23 y24 σ25 τ26 ν27 δ28 π29 hR
          · refine r_aload_n 387 1 K (dk_of tL_law_1 98 rfl) rfl rfl ?_
            refine r_iconst 388 (1 : Int32) K (dk_of tL_law_1 99 rfl) (by decide) ?_
            refine r_iload 389 6 K (dk_of tL_law_2 0 rfl) rfl ?_
            refine r_bipush 391 (50 : Int32) K (dk_of tL_law_2 1 rfl) (by decide) ?_
            obtain ⟨x312, hc, hR⟩ := o1 hR
            refine r_cSi 393 [.int y20, .int (50 : Int32)] [.int (1 : Int32), .ref as9] x312 (wB γ h σ25 ++ (wB γ g τ26 ++ (wS as9 (h 0) (g 0) an aq (ad 0) (ap 0) ++ (wN an (h 0) ν27 ++ (wR aq (h 0) ++ (wD γ ad δ28 ++ (wP γ ap π29 ++ (r)))))))) K (ct_L_low hl hc.symm) cs_L_60 ⟨rfl, rfl, rfl⟩ (dk_of tL_law_2 2 rfl) rfl rfl rfl (bbL (by omega) (by omega)) ?_
            refine r_iadd 396 K (dk_of tL_law_2 3 rfl) ?_
            refine r_iload 397 7 K (dk_of tL_law_2 4 rfl) rfl ?_
            refine r_iconst 399 (2 : Int32) K (dk_of tL_law_2 5 rfl) (by decide) ?_
            obtain ⟨x313, hc, hR⟩ := o1 hR
            refine r_cSi 400 [.int y21, .int (2 : Int32)] [.int ((1 : Int32) + x312), .ref as9] x313 (wB γ h σ25 ++ (wB γ g τ26 ++ (wS as9 (h 0) (g 0) an aq (ad 0) (ap 0) ++ (wN an (h 0) ν27 ++ (wR aq (h 0) ++ (wD γ ad δ28 ++ (wP γ ap π29 ++ (r)))))))) K (ct_L_low hl hc.symm) cs_L_60 ⟨rfl, rfl, rfl⟩ (dk_of tL_law_2 6 rfl) rfl rfl rfl (bbL (by omega) (by omega)) ?_
            refine r_if_ne 403 410 K (dk_of tL_law_2 7 rfl) (by decide) hR (fun hR => ?_) (fun hR => ?_)
            · refine r_iconst 406 (1 : Int32) K (dk_of tL_law_2 8 rfl) (by decide) ?_
              refine r_goto 407 411 K (dk_of tL_law_2 9 rfl) (by decide) ?_
              exact r_msk [true, true, true, true, true, true, false, false, false, false, false, true, true, true, true, true, true, true] [some (.ref b), some (.ref as9), some (.int y16), some (.int y17), some (.int y18), some (.int y19), none, none, none, none, none, none, none, none, none, none, none, none] rfl (b411 y16 y17 y18 y19 ((1 : Int32) + x312) (1 : Int32) σ25 τ26 ν27 δ28 π29 hR)
            · refine r_iconst 410 (0 : Int32) K (dk_of tL_law_2 10 rfl) (by decide) ?_
              exact r_msk [true, true, true, true, true, true, false, false, false, false, false, true, true, true, true, true, true, true] [some (.ref b), some (.ref as9), some (.int y16), some (.int y17), some (.int y18), some (.int y19), none, none, none, none, none, none, none, none, none, none, none, none] rfl (b411 y16 y17 y18 y19 ((1 : Int32) + x312) (0 : Int32) σ25 τ26 ν27 δ28 π29 hR)
        · exact b426 y16 y17 y18 y19 y20 y21 y22 y23 y24 σ25 τ26 ν27 δ28 π29 hR
      · refine r_aload_n 287 1 K (dk_of tL_law_1 49 rfl) rfl rfl ?_
        refine r_iload 288 10 K (dk_of tL_law_1 50 rfl) rfl ?_
        refine r_iconst 290 (1 : Int32) K (dk_of tL_law_1 51 rfl) (by decide) ?_
        refine r_isub 291 K (dk_of tL_law_1 52 rfl) ?_
        refine r_iload 292 8 K (dk_of tL_law_1 53 rfl) rfl ?_
        refine r_iload 294 6 K (dk_of tL_law_1 54 rfl) rfl ?_
        refine r_sipush 296 (9999 : Int32) K (dk_of tL_law_1 55 rfl) (by decide) ?_
        obtain ⟨x327, hc, hR⟩ := o1 hR
        refine r_cSi 299 [.int y20, .int (9999 : Int32)] [.int y22, .int (y24 - (1 : Int32)), .ref as9] x327 (wB γ h σ25 ++ (wB γ g τ26 ++ (wS as9 (h 0) (g 0) an aq (ad 0) (ap 0) ++ (wN an (h 0) ν27 ++ (wR aq (h 0) ++ (wD γ ad δ28 ++ (wP γ ap π29 ++ (r)))))))) K (ct_L_low hl hc.symm) cs_L_60 ⟨rfl, rfl, rfl⟩ (dk_of tL_law_1 56 rfl) rfl rfl rfl (bbL (by omega) (by omega)) ?_
        refine r_iload 302 7 K (dk_of tL_law_1 57 rfl) rfl ?_
        refine r_bipush 304 (6 : Int32) K (dk_of tL_law_1 58 rfl) (by decide) ?_
        refine r_ishr 306 K (dk_of tL_law_1 59 rfl) ?_
        refine r_sipush 307 (9999 : Int32) K (dk_of tL_law_1 60 rfl) (by decide) ?_
        obtain ⟨x328, hc, hR⟩ := o1 hR
        refine r_cSi 310 [.int (y21 >>> ((6 : Int32) &&& 31)), .int (9999 : Int32)] [.int x327, .int y22, .int (y24 - (1 : Int32)), .ref as9] x328 (wB γ h σ25 ++ (wB γ g τ26 ++ (wS as9 (h 0) (g 0) an aq (ad 0) (ap 0) ++ (wN an (h 0) ν27 ++ (wR aq (h 0) ++ (wD γ ad δ28 ++ (wP γ ap π29 ++ (r)))))))) K (ct_L_low hl hc.symm) cs_L_60 ⟨rfl, rfl, rfl⟩ (dk_of tL_law_1 61 rfl) rfl rfl rfl (bbL (by omega) (by omega)) ?_
        obtain ⟨x329, σ330, hc, hR⟩ := o2 hR
        refine r_cSh (mc := 1) (ms := 6) (n := 5) 313 [.ref as9, .int (y24 - (1 : Int32)), .int y22, .int x327, .int x328] [] x329 (wB γ h σ330 ++ (wB γ g τ26 ++ (wS as9 (h 0) (g 0) an aq (ad 0) (ap 0) ++ (wN an (h 0) ν27 ++ (wR aq (h 0) ++ (wD γ ad δ28 ++ (wP γ ap π29 ++ (r)))))))) K (ct_L_tryLay hl hc.symm) w775 w776 w0 cwx_tryLay (by decide +kernel) ⟨rfl, rfl, rfl⟩ (dk_of tL_law_1 62 rfl) rfl rfl rfl (aaL (by omega) (by omega)) ?_
        show V l γ X M (wB γ h σ330 ++ (wB γ g τ26 ++ (wS as9 (h 0) (g 0) an aq (ad 0) (ap 0) ++ (wN an (h 0) ν27 ++ (wR aq (h 0) ++ (wD γ ad δ28 ++ (wP γ ap π29 ++ (r)))))))) [some (.ref b), some (.ref as9), some (.int y16), some (.int y17), some (.int y18), some (.int y19), some (.int y20), some (.int y21), some (.int y22), some (.int y23), some (.int y24), none, none, none, none, none, none, none] (cs + 1) (ss + 6) 316 [.int x329]
        refine r_istore 316 11 [some (.ref b), some (.ref as9), some (.int y16), some (.int y17), some (.int y18), some (.int y19), some (.int y20), some (.int y21), some (.int y22), some (.int y23), some (.int y24), some (.int x329), none, none, none, none, none, none] K (dk_of tL_law_1 63 rfl) rfl rfl (by decide) ?_
        refine r_iload 318 11 K (dk_of tL_law_1 64 rfl) rfl ?_
        refine r_if_lt 320 332 K (dk_of tL_law_1 65 rfl) (by decide) hR (fun hR => ?_) (fun hR => ?_)
        · refine r_iload 332 11 K (dk_of tL_law_1 70 rfl) rfl ?_
          refine r_sipush 334 (-200 : Int32) K (dk_of tL_law_1 71 rfl) (by decide) ?_
          refine r_ic_ne 337 357 K (dk_of tL_law_1 72 rfl) (by decide) hR (fun hR => ?_) (fun hR => ?_)
          · refine r_iload 340 10 K (dk_of tL_law_1 73 rfl) rfl ?_
            refine r_iconst 342 (2 : Int32) K (dk_of tL_law_1 74 rfl) (by decide) ?_
            refine r_ic_ne 343 359 K (dk_of tL_law_1 75 rfl) (by decide) hR (fun hR => ?_) (fun hR => ?_)
            · refine r_iload 346 9 K (dk_of tL_law_1 76 rfl) rfl ?_
              refine r_if_eq 348 359 K (dk_of tL_law_1 77 rfl) (by decide) hR (fun hR => ?_) (fun hR => ?_)
              · exact r_msk [true, true, true, true, true, true, false, false, false, false, false, true, true, true, true, true, true, true] [some (.ref b), some (.ref as9), some (.int y16), some (.int y17), some (.int y18), some (.int y19), none, none, none, none, none, some (.int x329), none, none, none, none, none, none] rfl (b359 y16 y17 y18 y19 x329 σ330 τ26 ν27 δ28 π29 hR)
              · refine r_iload_n 351 3 K (dk_of tL_law_1 78 rfl) rfl rfl ?_
                refine r_bipush 352 (20 : Int32) K (dk_of tL_law_1 79 rfl) (by decide) ?_
                refine r_ic_ge 354 359 K (dk_of tL_law_1 80 rfl) (by decide) hR (fun hR => ?_) (fun hR => ?_)
                · exact r_msk [true, true, true, true, true, true, false, false, false, false, false, true, true, true, true, true, true, true] [some (.ref b), some (.ref as9), some (.int y16), some (.int y17), some (.int y18), some (.int y19), none, none, none, none, none, some (.int x329), none, none, none, none, none, none] rfl (b359 y16 y17 y18 y19 x329 σ330 τ26 ν27 δ28 π29 hR)
                · refine r_iconst 357 (0 : Int32) K (dk_of tL_law_1 81 rfl) (by decide) ?_
                  exact nn_ hR
            · exact r_msk [true, true, true, true, true, true, false, false, false, false, false, true, true, true, true, true, true, true] [some (.ref b), some (.ref as9), some (.int y16), some (.int y17), some (.int y18), some (.int y19), none, none, none, none, none, some (.int x329), none, none, none, none, none, none] rfl (b359 y16 y17 y18 y19 x329 σ330 τ26 ν27 δ28 π29 hR)
          · refine r_iconst 357 (0 : Int32) K (dk_of tL_law_1 81 rfl) (by decide) ?_
            exact nn_ hR
        · refine r_iload 323 11 K (dk_of tL_law_1 66 rfl) rfl ?_
          refine r_iload_n 325 3 K (dk_of tL_law_1 67 rfl) rfl rfl ?_
          refine r_ic_eq 326 359 K (dk_of tL_law_1 68 rfl) (by decide) hR (fun hR => ?_) (fun hR => ?_)
          · exact r_msk [true, true, true, true, true, true, false, false, false, false, false, true, true, true, true, true, true, true] [some (.ref b), some (.ref as9), some (.int y16), some (.int y17), some (.int y18), some (.int y19), none, none, none, none, none, some (.int x329), none, none, none, none, none, none] rfl (b359 y16 y17 y18 y19 x329 σ330 τ26 ν27 δ28 π29 hR)
          · refine r_goto 329 357 K (dk_of tL_law_1 69 rfl) (by decide) ?_
            refine r_iconst 357 (0 : Int32) K (dk_of tL_law_1 81 rfl) (by decide) ?_
            exact nn_ hR
  have b158 : ∀ (y3 : Int32) (y4 : Int32) (y5 : Int32) (y6 : Int32) (y7 : Int32) (y8 : Int32) (y9 : Int32) (y10 : Int32) (σ11 : St) (τ12 : St) (ν13 : (Nat → Int32)) (δ14 : St) (π15 : (St × Int64)), some z9 = sg_act_158 y3 y4 y5 y6 y7 y8 y9 y10 σ11 τ12 ν13 δ14 π15 → V l γ X M (wB γ h σ11 ++ (wB γ g τ12 ++ (wS as9 (h 0) (g 0) an aq (ad 0) (ap 0) ++ (wN an (h 0) ν13 ++ (wR aq (h 0) ++ (wD γ ad δ14 ++ (wP γ ap π15 ++ (r)))))))) [some (.ref b), some (.ref as9), some (.int y3), some (.int y4), some (.int y5), some (.int y6), some (.int y7), some (.int y8), some (.int y9), none, none, none, none, none, none, none, none, none] cs ss 158 [.int y10] := by
    intro y3 y4 y5 y6 y7 y8 y9 y10 σ11 τ12 ν13 δ14 π15 hR
    unfold sg_act_158 at hR
    refine r_istore 158 9 [some (.ref b), some (.ref as9), some (.int y3), some (.int y4), some (.int y5), some (.int y6), some (.int y7), some (.int y8), some (.int y9), some (.int y10), none, none, none, none, none, none, none, none] K (dk_of tL_law_0 85 rfl) rfl rfl (by decide) ?_
    refine r_iload 160 5 K (dk_of tL_law_0 86 rfl) rfl ?_
    refine r_if_ne 162 169 K (dk_of tL_law_0 87 rfl) (by decide) hR (fun hR => ?_) (fun hR => ?_)
    · refine r_iconst 165 (0 : Int32) K (dk_of tL_law_0 88 rfl) (by decide) ?_
      refine r_goto 166 179 K (dk_of tL_law_0 89 rfl) (by decide) ?_
      exact b179 y3 y4 y5 y6 y7 y8 y9 y10 (0 : Int32) σ11 τ12 ν13 δ14 π15 hR
    · refine r_iload 169 6 K (dk_of tL_law_0 90 rfl) rfl ?_
      refine r_bipush 171 (20 : Int32) K (dk_of tL_law_0 91 rfl) (by decide) ?_
      refine r_ishr 173 K (dk_of tL_law_0 92 rfl) ?_
      refine r_bipush 174 (11 : Int32) K (dk_of tL_law_0 93 rfl) (by decide) ?_
      obtain ⟨x352, hc, hR⟩ := o1 hR
      refine r_cSi 176 [.int (y7 >>> ((20 : Int32) &&& 31)), .int (11 : Int32)] [] x352 (wB γ h σ11 ++ (wB γ g τ12 ++ (wS as9 (h 0) (g 0) an aq (ad 0) (ap 0) ++ (wN an (h 0) ν13 ++ (wR aq (h 0) ++ (wD γ ad δ14 ++ (wP γ ap π15 ++ (r)))))))) K (ct_L_low hl hc.symm) cs_L_60 ⟨rfl, rfl, rfl⟩ (dk_of tL_law_0 94 rfl) rfl rfl rfl (bbL (by omega) (by omega)) ?_
      exact b179 y3 y4 y5 y6 y7 y8 y9 y10 x352 σ11 τ12 ν13 δ14 π15 hR
  refine r_istore 132 7 [some (.ref b), some (.ref as9), some (.int i2), some (.int i3), some (.int i4), some (.int i5), some (.int c0), some (.int c1), none, none, none, none, none, none, none, none, none, none] K (dk_of tL_law_0 72 rfl) rfl rfl (by decide) ?_
  refine r_iload 134 7 K (dk_of tL_law_0 73 rfl) rfl ?_
  refine r_bipush 136 (24 : Int32) K (dk_of tL_law_0 74 rfl) (by decide) ?_
  obtain ⟨x1, hc, hR⟩ := o1 hR
  refine r_cSi 138 [.int c1, .int (24 : Int32)] [] x1 (wB γ h σ ++ (wB γ g τ ++ (wS as9 (h 0) (g 0) an aq (ad 0) (ap 0) ++ (wN an (h 0) ν ++ (wR aq (h 0) ++ (wD γ ad δ ++ (wP γ ap π ++ (r)))))))) K (ct_L_low hl hc.symm) cs_L_60 ⟨rfl, rfl, rfl⟩ (dk_of tL_law_0 75 rfl) rfl rfl rfl (bbL (by omega) (by omega)) ?_
  refine r_istore 141 8 [some (.ref b), some (.ref as9), some (.int i2), some (.int i3), some (.int i4), some (.int i5), some (.int c0), some (.int c1), some (.int x1), none, none, none, none, none, none, none, none, none] K (dk_of tL_law_0 76 rfl) rfl rfl (by decide) ?_
  refine r_aload_n 143 1 K (dk_of tL_law_0 77 rfl) rfl rfl ?_
  refine r_iload 144 8 K (dk_of tL_law_0 78 rfl) rfl ?_
  refine r_iconst 146 (3 : Int32) K (dk_of tL_law_0 79 rfl) (by decide) ?_
  obtain ⟨x2, hc, hR⟩ := ot1 hR
  refine r_cVi 147 52 [.int x1, .int (3 : Int32)] [] x2 (wB γ h σ ++ (wB γ g τ ++ (wS as9 (h 0) (g 0) an aq (ad 0) (ap 0) ++ (wN an (h 0) ν ++ (wR aq (h 0) ++ (wD γ ad δ ++ (wP γ ap π ++ (r)))))))) K (ct_X9_at hl (z := .inl x2) hc.symm) cs_L_44 ⟨rfl, rfl, rfl⟩ (dk_of tL_law_0 80 rfl) rfl rfl rfl rfl rfl (bbL (by omega) (by omega)) ?_
  refine r_if_ne 150 157 K (dk_of tL_law_0 81 rfl) (by decide) hR (fun hR => ?_) (fun hR => ?_)
  · refine r_iconst 153 (1 : Int32) K (dk_of tL_law_0 82 rfl) (by decide) ?_
    refine r_goto 154 158 K (dk_of tL_law_0 83 rfl) (by decide) ?_
    exact b158 i2 i3 i4 i5 c0 c1 x1 (1 : Int32) σ τ ν δ π hR
  · refine r_iconst 157 (0 : Int32) K (dk_of tL_law_0 84 rfl) (by decide) ?_
    exact b158 i2 i3 i4 i5 c0 c1 x1 (0 : Int32) σ τ ν δ π hR

def st_cl (i2 : Int32) (i4 : Int32) (c0 : Int32) (σ : St) (τ : St) (ν : (Nat → Int32)) (δ : St) (π : (St × Int64)) : Option (Int32) := b1 (sp_L_low c0 (5 : Int32)) (fun (x1 : Int32) => sl (((1 : Int32) + x1)) (fun x2 : Int32 => some x2))
set_option maxHeartbeats 4000000 in
set_option maxRecDepth 100000 in
theorem law_cl {l : Launch} (hl : l.stackTraces = false) {γ : Gd} {h g : Nat → Nat} {as9 an aq : Nat} {ad ap : Nat → Nat} {r : va_W} {σ : St} {τ : St} {ν : (Nat → Int32)} {δ : St} {π : (St × Int64)} {X : CX} {M : MX} {y : MethodName} {tb : List ExceptionTableEntry} {b : Nat} {i2 i4 c0 : Int32} {cs ss : Nat} (K : KX l γ X M y cL_law RL 18 rmL (some .boolean) tb) (hcs : cs + 0 ≤ 205) (hss : ss + 0 ≤ 2077) {z9 : Int32} (hR : some z9 = st_cl i2 i4 c0 σ τ ν δ π)
    (kk : V l γ X M (wB γ h σ ++ (wB γ g τ ++ (wS as9 (h 0) (g 0) an aq (ad 0) (ap 0) ++ (wN an (h 0) ν ++ (wR aq (h 0) ++ (wD γ ad δ ++ (wP γ ap π ++ (r)))))))) [some (.ref b), some (.ref as9), some (.int i2), none, some (.int i4), some (.int z9), none, none, none, none, none, none, none, none, none, none, none, none] cs ss 980 []) : V l γ X M (wB γ h σ ++ (wB γ g τ ++ (wS as9 (h 0) (g 0) an aq (ad 0) (ap 0) ++ (wN an (h 0) ν ++ (wR aq (h 0) ++ (wD γ ad δ ++ (wP γ ap π ++ (r)))))))) [some (.ref b), some (.ref as9), some (.int i2), none, some (.int i4), none, none, none, none, none, none, none, none, none, none, none, none, none] cs ss 973 [.int c0, .int (1 : Int32)] := by
  unfold st_cl at hR
  refine r_iconst 973 (5 : Int32) K (dk_of tL_law_5 2 rfl) (by decide) ?_
  obtain ⟨x1, hc, hR⟩ := o1 hR
  refine r_cSi 974 [.int c0, .int (5 : Int32)] [.int (1 : Int32)] x1 (wB γ h σ ++ (wB γ g τ ++ (wS as9 (h 0) (g 0) an aq (ad 0) (ap 0) ++ (wN an (h 0) ν ++ (wR aq (h 0) ++ (wD γ ad δ ++ (wP γ ap π ++ (r)))))))) K (ct_L_low hl hc.symm) cs_L_60 ⟨rfl, rfl, rfl⟩ (dk_of tL_law_5 3 rfl) rfl rfl rfl (bbL (by omega) (by omega)) ?_
  refine r_iadd 977 K (dk_of tL_law_5 4 rfl) ?_
  refine r_nmI hR (fun x2 hR => ?_)
  refine r_istore 978 5 [some (.ref b), some (.ref as9), some (.int i2), none, some (.int i4), some (.int x2), none, none, none, none, none, none, none, none, none, none, none, none] K (dk_of tL_law_5 5 rfl) rfl rfl (by decide) ?_
  cases hR
  exact r_msk [true, true, true, true, true, true, true, true, true, true, true, true, true, true, true, true, true, true] [some (.ref b), some (.ref as9), some (.int i2), none, some (.int i4), some (.int x2), none, none, none, none, none, none, none, none, none, none, none, none] rfl (kk)

def st_cb (i2 : Int32) (i4 : Int32) (i5 : Int32) (i6 : Int32) (i7 : Int32) (c0 : Int32) (σ : St) (τ : St) (ν : (Nat → Int32)) (δ : St) (π : (St × Int64)) : Option (Int32 × (St × Int64)) := b1 (sp_L_low c0 (900000 : Int32)) (fun (x1 : Int32) => sl (((1 : Int32) + x1)) (fun x2 : Int32 => bt2 (sp_X9_claim x2 π) (fun (x3 : Int32) (π4 : (St × Int64)) => sl ((i6 + x2)) (fun x5 : Int32 => some (x5, π4)))))
set_option maxHeartbeats 4000000 in
set_option maxRecDepth 100000 in
theorem law_cb {l : Launch} (hl : l.stackTraces = false) {γ : Gd} {h g : Nat → Nat} {as9 an aq : Nat} {ad ap : Nat → Nat} {r : va_W} {σ : St} {τ : St} {ν : (Nat → Int32)} {δ : St} {π : (St × Int64)} {X : CX} {M : MX} {y : MethodName} {tb : List ExceptionTableEntry} {b : Nat} {i2 i4 i5 i6 i7 c0 : Int32} {cs ss : Nat} (K : KX l γ X M y cL_law RL 18 rmL (some .boolean) tb) (hcs : cs + 0 ≤ 205) (hss : ss + 0 ≤ 2077) {z9 : Int32 × (St × Int64)} (hR : some z9 = st_cb i2 i4 i5 i6 i7 c0 σ τ ν δ π)
    (kk : V l γ X M (wB γ h σ ++ (wB γ g τ ++ (wS as9 (h 0) (g 0) an aq (ad 0) (ap 0) ++ (wN an (h 0) ν ++ (wR aq (h 0) ++ (wD γ ad δ ++ (wP γ ap z9.2 ++ (r)))))))) [some (.ref b), some (.ref as9), some (.int i2), none, some (.int i4), some (.int i5), some (.int z9.1), some (.int i7), none, none, none, none, none, none, none, none, none, none] cs ss 1025 []) : V l γ X M (wB γ h σ ++ (wB γ g τ ++ (wS as9 (h 0) (g 0) an aq (ad 0) (ap 0) ++ (wN an (h 0) ν ++ (wR aq (h 0) ++ (wD γ ad δ ++ (wP γ ap π ++ (r)))))))) [some (.ref b), some (.ref as9), some (.int i2), none, some (.int i4), some (.int i5), some (.int i6), some (.int i7), none, none, none, none, none, none, none, none, none, none] cs ss 1003 [.int c0, .int (1 : Int32)] := by
  unfold st_cb at hR
  refine r_ldc 1003 900000 K (dk_of tL_law_5 19 rfl) w895 ?_
  obtain ⟨x1, hc, hR⟩ := o1 hR
  refine r_cSi 1005 [.int c0, .int (900000 : Int32)] [.int (1 : Int32)] x1 (wB γ h σ ++ (wB γ g τ ++ (wS as9 (h 0) (g 0) an aq (ad 0) (ap 0) ++ (wN an (h 0) ν ++ (wR aq (h 0) ++ (wD γ ad δ ++ (wP γ ap π ++ (r)))))))) K (ct_L_low hl hc.symm) cs_L_60 ⟨rfl, rfl, rfl⟩ (dk_of tL_law_5 20 rfl) rfl rfl rfl (bbL (by omega) (by omega)) ?_
  refine r_iadd 1008 K (dk_of tL_law_5 21 rfl) ?_
  refine r_nmI hR (fun x2 hR => ?_)
  refine r_istore 1009 8 [some (.ref b), some (.ref as9), some (.int i2), none, some (.int i4), some (.int i5), some (.int i6), some (.int i7), some (.int x2), none, none, none, none, none, none, none, none, none] K (dk_of tL_law_5 22 rfl) rfl rfl (by decide) ?_
  refine r_aload_n 1011 1 K (dk_of tL_law_5 23 rfl) rfl rfl ?_
  refine r_iload 1012 8 K (dk_of tL_law_5 24 rfl) rfl ?_
  obtain ⟨x3, π4, hc, hR⟩ := ot2 hR
  refine r_cVi 1014 52 [.int x2] [] x3 (wB γ h σ ++ (wB γ g τ ++ (wS as9 (h 0) (g 0) an aq (ad 0) (ap 0) ++ (wN an (h 0) ν ++ (wR aq (h 0) ++ (wD γ ad δ ++ (wP γ ap π4 ++ (r)))))))) K (ct_X9_claim hl (z := .inl (x3, π4)) hc.symm) cs_L_109 ⟨rfl, rfl, rfl⟩ (dk_of tL_law_5 25 rfl) rfl rfl rfl rfl rfl (bbL (by omega) (by omega)) ?_
  refine r_pop 1017 K (dk_of tL_law_5 26 rfl) rfl ?_
  refine r_iload 1018 6 K (dk_of tL_law_5 27 rfl) rfl ?_
  refine r_iload 1020 8 K (dk_of tL_law_5 28 rfl) rfl ?_
  refine r_iadd 1022 K (dk_of tL_law_5 29 rfl) ?_
  refine r_nmI hR (fun x5 hR => ?_)
  refine r_istore 1023 6 [some (.ref b), some (.ref as9), some (.int i2), none, some (.int i4), some (.int i5), some (.int x5), some (.int i7), some (.int x2), none, none, none, none, none, none, none, none, none] K (dk_of tL_law_5 30 rfl) rfl rfl (by decide) ?_
  cases hR
  exact r_msk [true, true, true, true, true, true, true, true, false, true, true, true, true, true, true, true, true, true] [some (.ref b), some (.ref as9), some (.int i2), none, some (.int i4), some (.int i5), some (.int x5), some (.int i7), none, none, none, none, none, none, none, none, none, none] rfl (kk)

def st_ow (i2 : Int32) (i4 : Int32) (i5 : Int32) (i6 : Int32) (c0 : Int32) (σ : St) (τ : St) (ν : (Nat → Int32)) (δ : St) (π : (St × Int64)) : Option (Int32) := b1 (sp_L_low c0 (2000000 : Int32)) (fun (x1 : Int32) => some x1)
set_option maxHeartbeats 4000000 in
set_option maxRecDepth 100000 in
theorem law_ow {l : Launch} (hl : l.stackTraces = false) {γ : Gd} {h g : Nat → Nat} {as9 an aq : Nat} {ad ap : Nat → Nat} {r : va_W} {σ : St} {τ : St} {ν : (Nat → Int32)} {δ : St} {π : (St × Int64)} {X : CX} {M : MX} {y : MethodName} {tb : List ExceptionTableEntry} {b : Nat} {i2 i4 i5 i6 c0 : Int32} {cs ss : Nat} (K : KX l γ X M y cL_law RL 18 rmL (some .boolean) tb) (hcs : cs + 0 ≤ 205) (hss : ss + 0 ≤ 2077) {z9 : Int32} (hR : some z9 = st_ow i2 i4 i5 i6 c0 σ τ ν δ π)
    (kk : V l γ X M (wB γ h σ ++ (wB γ g τ ++ (wS as9 (h 0) (g 0) an aq (ad 0) (ap 0) ++ (wN an (h 0) ν ++ (wR aq (h 0) ++ (wD γ ad δ ++ (wP γ ap π ++ (r)))))))) [some (.ref b), some (.ref as9), some (.int i2), none, some (.int i4), some (.int i5), some (.int i6), some (.int z9), none, none, none, none, none, none, none, none, none, none] cs ss 1044 []) : V l γ X M (wB γ h σ ++ (wB γ g τ ++ (wS as9 (h 0) (g 0) an aq (ad 0) (ap 0) ++ (wN an (h 0) ν ++ (wR aq (h 0) ++ (wD γ ad δ ++ (wP γ ap π ++ (r)))))))) [some (.ref b), some (.ref as9), some (.int i2), none, some (.int i4), some (.int i5), some (.int i6), none, none, none, none, none, none, none, none, none, none, none] cs ss 1037 [.int c0] := by
  unfold st_ow at hR
  refine r_ldc 1037 2000000 K (dk_of tL_law_5 36 rfl) w896 ?_
  obtain ⟨x1, hc, hR⟩ := o1 hR
  refine r_cSi 1039 [.int c0, .int (2000000 : Int32)] [] x1 (wB γ h σ ++ (wB γ g τ ++ (wS as9 (h 0) (g 0) an aq (ad 0) (ap 0) ++ (wN an (h 0) ν ++ (wR aq (h 0) ++ (wD γ ad δ ++ (wP γ ap π ++ (r)))))))) K (ct_L_low hl hc.symm) cs_L_60 ⟨rfl, rfl, rfl⟩ (dk_of tL_law_5 37 rfl) rfl rfl rfl (bbL (by omega) (by omega)) ?_
  refine r_istore 1042 7 [some (.ref b), some (.ref as9), some (.int i2), none, some (.int i4), some (.int i5), some (.int i6), some (.int x1), none, none, none, none, none, none, none, none, none, none] K (dk_of tL_law_5 38 rfl) rfl rfl (by decide) ?_
  cases hR
  exact r_msk [true, true, true, true, true, true, true, true, true, true, true, true, true, true, true, true, true, true] [some (.ref b), some (.ref as9), some (.int i2), none, some (.int i4), some (.int i5), some (.int i6), some (.int x1), none, none, none, none, none, none, none, none, none, none] rfl (kk)

def st_fu (i2 : Int32) (i4 : Int32) (i5 : Int32) (i6 : Int32) (i7 : Int32) (c0 : Int32) (σ : St) (τ : St) (ν : (Nat → Int32)) (δ : St) (π : (St × Int64)) : Option (Int32 × (St × Int64)) := b1 (sp_L_low c0 (2000000 : Int32)) (fun (x1 : Int32) => bt2 (sp_X9_layers i7 x1 π) (fun (x2 : Int32) (π3 : (St × Int64)) => some (x1, π3)))
set_option maxHeartbeats 4000000 in
set_option maxRecDepth 100000 in
theorem law_fu {l : Launch} (hl : l.stackTraces = false) {γ : Gd} {h g : Nat → Nat} {as9 an aq : Nat} {ad ap : Nat → Nat} {r : va_W} {σ : St} {τ : St} {ν : (Nat → Int32)} {δ : St} {π : (St × Int64)} {X : CX} {M : MX} {y : MethodName} {tb : List ExceptionTableEntry} {b : Nat} {i2 i4 i5 i6 i7 c0 : Int32} {cs ss : Nat} (K : KX l γ X M y cL_law RL 18 rmL (some .boolean) tb) (hcs : cs + 0 ≤ 205) (hss : ss + 0 ≤ 2077) {z9 : Int32 × (St × Int64)} (hR : some z9 = st_fu i2 i4 i5 i6 i7 c0 σ τ ν δ π)
    (kk : V l γ X M (wB γ h σ ++ (wB γ g τ ++ (wS as9 (h 0) (g 0) an aq (ad 0) (ap 0) ++ (wN an (h 0) ν ++ (wR aq (h 0) ++ (wD γ ad δ ++ (wP γ ap z9.2 ++ (r)))))))) [some (.ref b), some (.ref as9), some (.int i2), none, some (.int i4), some (.int i5), some (.int i6), some (.int i7), some (.int z9.1), none, none, none, none, none, none, none, none, none] cs ss 1066 []) : V l γ X M (wB γ h σ ++ (wB γ g τ ++ (wS as9 (h 0) (g 0) an aq (ad 0) (ap 0) ++ (wN an (h 0) ν ++ (wR aq (h 0) ++ (wD γ ad δ ++ (wP γ ap π ++ (r)))))))) [some (.ref b), some (.ref as9), some (.int i2), none, some (.int i4), some (.int i5), some (.int i6), some (.int i7), none, none, none, none, none, none, none, none, none, none] cs ss 1050 [.int c0] := by
  unfold st_fu at hR
  refine r_ldc 1050 2000000 K (dk_of tL_law_5 42 rfl) w896 ?_
  obtain ⟨x1, hc, hR⟩ := o1 hR
  refine r_cSi 1052 [.int c0, .int (2000000 : Int32)] [] x1 (wB γ h σ ++ (wB γ g τ ++ (wS as9 (h 0) (g 0) an aq (ad 0) (ap 0) ++ (wN an (h 0) ν ++ (wR aq (h 0) ++ (wD γ ad δ ++ (wP γ ap π ++ (r)))))))) K (ct_L_low hl hc.symm) cs_L_60 ⟨rfl, rfl, rfl⟩ (dk_of tL_law_5 43 rfl) rfl rfl rfl (bbL (by omega) (by omega)) ?_
  refine r_istore 1055 8 [some (.ref b), some (.ref as9), some (.int i2), none, some (.int i4), some (.int i5), some (.int i6), some (.int i7), some (.int x1), none, none, none, none, none, none, none, none, none] K (dk_of tL_law_5 44 rfl) rfl rfl (by decide) ?_
  refine r_aload_n 1057 1 K (dk_of tL_law_5 45 rfl) rfl rfl ?_
  refine r_iload 1058 7 K (dk_of tL_law_5 46 rfl) rfl ?_
  refine r_iload 1060 8 K (dk_of tL_law_5 47 rfl) rfl ?_
  obtain ⟨x2, π3, hc, hR⟩ := ot2 hR
  refine r_cVi 1062 52 [.int i7, .int x1] [] x2 (wB γ h σ ++ (wB γ g τ ++ (wS as9 (h 0) (g 0) an aq (ad 0) (ap 0) ++ (wN an (h 0) ν ++ (wR aq (h 0) ++ (wD γ ad δ ++ (wP γ ap π3 ++ (r)))))))) K (ct_X9_layers hl (z := .inl (x2, π3)) hc.symm) cs_L_113 ⟨rfl, rfl, rfl⟩ (dk_of tL_law_5 48 rfl) rfl rfl rfl rfl rfl (bbL (by omega) (by omega)) ?_
  refine r_pop 1065 K (dk_of tL_law_5 49 rfl) rfl ?_
  cases hR
  exact r_msk [true, true, true, true, true, true, true, true, true, true, true, true, true, true, true, true, true, true] [some (.ref b), some (.ref as9), some (.int i2), none, some (.int i4), some (.int i5), some (.int i6), some (.int i7), some (.int x1), none, none, none, none, none, none, none, none, none] rfl (kk)

def st_db (i2 : Int32) (i4 : Int32) (i5 : Int32) (i6 : Int32) (i7 : Int32) (i8 : Int32) (i9 : Int32) (i10 : Int32) (i11 : Int32) (σ : St) (τ : St) (ν : (Nat → Int32)) (δ : St) (π : (St × Int64)) : Option (Int32 × Int32) := bt1 (sp_X9_due i11 (0 : Int32) π) (fun (x1 : Int32) => sl ((i10 + x1)) (fun x2 : Int32 => bt1 (sp_X9_due i11 (0 : Int32) π) (fun (x3 : Int32) => bt1 (sp_X9_due i11 (1 : Int32) π) (fun (x4 : Int32) => sl ((i9 + (x3 + x4))) (fun x5 : Int32 => some (x5, x2))))))
set_option maxHeartbeats 4000000 in
set_option maxRecDepth 100000 in
theorem law_db {l : Launch} (hl : l.stackTraces = false) {γ : Gd} {h g : Nat → Nat} {as9 an aq : Nat} {ad ap : Nat → Nat} {r : va_W} {σ : St} {τ : St} {ν : (Nat → Int32)} {δ : St} {π : (St × Int64)} {X : CX} {M : MX} {y : MethodName} {tb : List ExceptionTableEntry} {b : Nat} {i2 i4 i5 i6 i7 i8 i9 i10 i11 : Int32} {cs ss : Nat} (K : KX l γ X M y cL_law RL 18 rmL (some .boolean) tb) (hcs : cs + 0 ≤ 205) (hss : ss + 0 ≤ 2077) {z9 : Int32 × Int32} (hR : some z9 = st_db i2 i4 i5 i6 i7 i8 i9 i10 i11 σ τ ν δ π)
    (kk : V l γ X M (wB γ h σ ++ (wB γ g τ ++ (wS as9 (h 0) (g 0) an aq (ad 0) (ap 0) ++ (wN an (h 0) ν ++ (wR aq (h 0) ++ (wD γ ad δ ++ (wP γ ap π ++ (r)))))))) [some (.ref b), some (.ref as9), some (.int i2), none, some (.int i4), some (.int i5), some (.int i6), some (.int i7), some (.int i8), some (.int z9.1), some (.int z9.2), some (.int i11), none, none, none, none, none, none] cs ss 1114 []) : V l γ X M (wB γ h σ ++ (wB γ g τ ++ (wS as9 (h 0) (g 0) an aq (ad 0) (ap 0) ++ (wN an (h 0) ν ++ (wR aq (h 0) ++ (wD γ ad δ ++ (wP γ ap π ++ (r)))))))) [some (.ref b), some (.ref as9), some (.int i2), none, some (.int i4), some (.int i5), some (.int i6), some (.int i7), some (.int i8), some (.int i9), some (.int i10), some (.int i11), none, none, none, none, none, none] cs ss 1082 [] := by
  unfold st_db at hR
  refine r_iload 1082 10 K (dk_of tL_law_5 59 rfl) rfl ?_
  refine r_aload_n 1084 1 K (dk_of tL_law_5 60 rfl) rfl rfl ?_
  refine r_iload 1085 11 K (dk_of tL_law_5 61 rfl) rfl ?_
  refine r_iconst 1087 (0 : Int32) K (dk_of tL_law_5 62 rfl) (by decide) ?_
  obtain ⟨x1, hc, hR⟩ := ot1 hR
  refine r_cVi 1088 52 [.int i11, .int (0 : Int32)] [.int i10] x1 (wB γ h σ ++ (wB γ g τ ++ (wS as9 (h 0) (g 0) an aq (ad 0) (ap 0) ++ (wN an (h 0) ν ++ (wR aq (h 0) ++ (wD γ ad δ ++ (wP γ ap π ++ (r)))))))) K (ct_X9_due hl (z := .inl x1) hc.symm) cs_L_116 ⟨rfl, rfl, rfl⟩ (dk_of tL_law_5 63 rfl) rfl rfl rfl rfl rfl (bbL (by omega) (by omega)) ?_
  refine r_iadd 1091 K (dk_of tL_law_5 64 rfl) ?_
  refine r_nmI hR (fun x2 hR => ?_)
  refine r_istore 1092 10 [some (.ref b), some (.ref as9), some (.int i2), none, some (.int i4), some (.int i5), some (.int i6), some (.int i7), some (.int i8), some (.int i9), some (.int x2), some (.int i11), none, none, none, none, none, none] K (dk_of tL_law_5 65 rfl) rfl rfl (by decide) ?_
  refine r_iload 1094 9 K (dk_of tL_law_5 66 rfl) rfl ?_
  refine r_aload_n 1096 1 K (dk_of tL_law_5 67 rfl) rfl rfl ?_
  refine r_iload 1097 11 K (dk_of tL_law_5 68 rfl) rfl ?_
  refine r_iconst 1099 (0 : Int32) K (dk_of tL_law_5 69 rfl) (by decide) ?_
  obtain ⟨x3, hc, hR⟩ := ot1 hR
  refine r_cVi 1100 52 [.int i11, .int (0 : Int32)] [.int i9] x3 (wB γ h σ ++ (wB γ g τ ++ (wS as9 (h 0) (g 0) an aq (ad 0) (ap 0) ++ (wN an (h 0) ν ++ (wR aq (h 0) ++ (wD γ ad δ ++ (wP γ ap π ++ (r)))))))) K (ct_X9_due hl (z := .inl x3) hc.symm) cs_L_116 ⟨rfl, rfl, rfl⟩ (dk_of tL_law_5 70 rfl) rfl rfl rfl rfl rfl (bbL (by omega) (by omega)) ?_
  refine r_aload_n 1103 1 K (dk_of tL_law_5 71 rfl) rfl rfl ?_
  refine r_iload 1104 11 K (dk_of tL_law_5 72 rfl) rfl ?_
  refine r_iconst 1106 (1 : Int32) K (dk_of tL_law_5 73 rfl) (by decide) ?_
  obtain ⟨x4, hc, hR⟩ := ot1 hR
  refine r_cVi 1107 52 [.int i11, .int (1 : Int32)] [.int x3, .int i9] x4 (wB γ h σ ++ (wB γ g τ ++ (wS as9 (h 0) (g 0) an aq (ad 0) (ap 0) ++ (wN an (h 0) ν ++ (wR aq (h 0) ++ (wD γ ad δ ++ (wP γ ap π ++ (r)))))))) K (ct_X9_due hl (z := .inl x4) hc.symm) cs_L_116 ⟨rfl, rfl, rfl⟩ (dk_of tL_law_5 74 rfl) rfl rfl rfl rfl rfl (bbL (by omega) (by omega)) ?_
  refine r_iadd 1110 K (dk_of tL_law_5 75 rfl) ?_
  refine r_iadd 1111 K (dk_of tL_law_5 76 rfl) ?_
  refine r_nmI hR (fun x5 hR => ?_)
  refine r_istore 1112 9 [some (.ref b), some (.ref as9), some (.int i2), none, some (.int i4), some (.int i5), some (.int i6), some (.int i7), some (.int i8), some (.int x5), some (.int x2), some (.int i11), none, none, none, none, none, none] K (dk_of tL_law_5 77 rfl) rfl rfl (by decide) ?_
  cases hR
  exact r_msk [true, true, true, true, true, true, true, true, true, true, true, true, true, true, true, true, true, true] [some (.ref b), some (.ref as9), some (.int i2), none, some (.int i4), some (.int i5), some (.int i6), some (.int i7), some (.int i8), some (.int x5), some (.int x2), some (.int i11), none, none, none, none, none, none] rfl (kk)

def sg_en_1140 (y1 : Int32) (y2 : Int32) (y3 : Int32) (y4 : Int32) (y5 : Int32) (y6 : Int32) (y7 : Int32) (σ8 : St) (τ9 : St) (ν10 : (Nat → Int32)) (δ11 : St) (π12 : (St × Int64)) : Option (Unit) := if y7 < y5 then (none) else (if y5 ≤ (y7 - y3) then (none) else (if y4 < y6 then (none) else (b1 (sp_L_closes y1 y2 σ8 δ11) (fun (x13 : Int32) => if x13 = 0 then (none) else (some ())))))
def st_en (i2 : Int32) (i4 : Int32) (i5 : Int32) (i6 : Int32) (i7 : Int32) (i8 : Int32) (i9 : Int32) (i10 : Int32) (σ : St) (τ : St) (ν : (Nat → Int32)) (δ : St) (π : (St × Int64)) : Option (Unit) := if i6 ≤ (i7 + i8) then (sg_en_1140 i2 i4 i5 i7 i9 i10 i6 σ τ ν δ π) else (sg_en_1140 i2 i4 i5 i7 i9 i10 (i7 + i8) σ τ ν δ π)
set_option maxHeartbeats 4000000 in
set_option maxRecDepth 100000 in
theorem law_en {l : Launch} (hl : l.stackTraces = false) {γ : Gd} {h g : Nat → Nat} {as9 an aq : Nat} {ad ap : Nat → Nat} {r : va_W} {σ : St} {τ : St} {ν : (Nat → Int32)} {δ : St} {π : (St × Int64)} {X : CX} {M : MX} {y : MethodName} {tb : List ExceptionTableEntry} {b : Nat} {i2 i4 i5 i6 i7 i8 i9 i10 : Int32} {cs ss : Nat} (K : KX l γ X M y cL_law RL 18 rmL (some .boolean) tb) (hcs : cs + 0 ≤ 205) (hss : ss + 0 ≤ 2077) {z9 : Unit} (hR : some z9 = st_en i2 i4 i5 i6 i7 i8 i9 i10 σ τ ν δ π)
    (hend : ∀ (cs ss : Nat) (w : va_W) (L : List (Option Value)), cs ≤ 205 → ss ≤ 2077 → V l γ X M w L cs ss 1181 [.int 1]) : V l γ X M (wB γ h σ ++ (wB γ g τ ++ (wS as9 (h 0) (g 0) an aq (ad 0) (ap 0) ++ (wN an (h 0) ν ++ (wR aq (h 0) ++ (wD γ ad δ ++ (wP γ ap π ++ (r)))))))) [some (.ref b), some (.ref as9), some (.int i2), none, some (.int i4), some (.int i5), some (.int i6), some (.int i7), some (.int i8), some (.int i9), some (.int i10), none, none, none, none, none, none, none] cs ss 1120 [] := by
  unfold st_en at hR
  have b1140 : ∀ (y1 : Int32) (y2 : Int32) (y3 : Int32) (y4 : Int32) (y5 : Int32) (y6 : Int32) (y7 : Int32) (σ8 : St) (τ9 : St) (ν10 : (Nat → Int32)) (δ11 : St) (π12 : (St × Int64)), some z9 = sg_en_1140 y1 y2 y3 y4 y5 y6 y7 σ8 τ9 ν10 δ11 π12 → V l γ X M (wB γ h σ8 ++ (wB γ g τ9 ++ (wS as9 (h 0) (g 0) an aq (ad 0) (ap 0) ++ (wN an (h 0) ν10 ++ (wR aq (h 0) ++ (wD γ ad δ11 ++ (wP γ ap π12 ++ (r)))))))) [none, some (.ref as9), some (.int y1), none, some (.int y2), some (.int y3), none, some (.int y4), none, some (.int y5), some (.int y6), none, none, none, none, none, none, none] cs ss 1140 [.int y7] := by
    intro y1 y2 y3 y4 y5 y6 y7 σ8 τ9 ν10 δ11 π12 hR
    unfold sg_en_1140 at hR
    refine r_istore 1140 11 [none, some (.ref as9), some (.int y1), none, some (.int y2), some (.int y3), none, some (.int y4), none, some (.int y5), some (.int y6), some (.int y7), none, none, none, none, none, none] K (dk_of tL_law_5 90 rfl) rfl rfl (by decide) ?_
    refine r_iload 1142 9 K (dk_of tL_law_5 91 rfl) rfl ?_
    refine r_iload 1144 11 K (dk_of tL_law_5 92 rfl) rfl ?_
    refine r_ic_gt 1146 1180 K (dk_of tL_law_5 93 rfl) (by decide) hR (fun hR => ?_) (fun hR => ?_)
    · refine r_iconst 1180 (0 : Int32) K (dk_of tL_law_6 9 rfl) (by decide) ?_
      exact nn_ hR
    · refine r_iload 1149 9 K (dk_of tL_law_5 94 rfl) rfl ?_
      refine r_iload 1151 11 K (dk_of tL_law_5 95 rfl) rfl ?_
      refine r_iload 1153 5 K (dk_of tL_law_5 96 rfl) rfl ?_
      refine r_isub 1155 K (dk_of tL_law_5 97 rfl) ?_
      refine r_ic_le 1156 1180 K (dk_of tL_law_5 98 rfl) (by decide) hR (fun hR => ?_) (fun hR => ?_)
      · refine r_iconst 1180 (0 : Int32) K (dk_of tL_law_6 9 rfl) (by decide) ?_
        exact nn_ hR
      · refine r_iload 1159 10 K (dk_of tL_law_5 99 rfl) rfl ?_
        refine r_iload 1161 7 K (dk_of tL_law_6 0 rfl) rfl ?_
        refine r_ic_gt 1163 1180 K (dk_of tL_law_6 1 rfl) (by decide) hR (fun hR => ?_) (fun hR => ?_)
        · refine r_iconst 1180 (0 : Int32) K (dk_of tL_law_6 9 rfl) (by decide) ?_
          exact nn_ hR
        · refine r_aload_n 1166 1 K (dk_of tL_law_6 2 rfl) rfl rfl ?_
          refine r_iload_n 1167 2 K (dk_of tL_law_6 3 rfl) rfl rfl ?_
          refine r_iload 1168 4 K (dk_of tL_law_6 4 rfl) rfl ?_
          obtain ⟨x13, hc, hR⟩ := o1 hR
          refine r_cSi 1170 [.ref as9, .int y1, .int y2] [] x13 (wB γ h σ8 ++ (wB γ g τ9 ++ (wS as9 (h 0) (g 0) an aq (ad 0) (ap 0) ++ (wN an (h 0) ν10 ++ (wR aq (h 0) ++ (wD γ ad δ11 ++ (wP γ ap π12 ++ (r)))))))) K (ct_L_closes hl hc.symm) cs_L_104 ⟨rfl, rfl, rfl⟩ (dk_of tL_law_6 5 rfl) rfl rfl rfl (bbL (by omega) (by omega)) ?_
          refine r_if_eq 1173 1180 K (dk_of tL_law_6 6 rfl) (by decide) hR (fun hR => ?_) (fun hR => ?_)
          · refine r_iconst 1180 (0 : Int32) K (dk_of tL_law_6 9 rfl) (by decide) ?_
            exact nn_ hR
          · refine r_iconst 1176 (1 : Int32) K (dk_of tL_law_6 7 rfl) (by decide) ?_
            refine r_goto 1177 1181 K (dk_of tL_law_6 8 rfl) (by decide) ?_
            exact hend _ _ _ _ (by omega) (by omega)
  refine r_iload 1120 7 K (dk_of tL_law_5 80 rfl) rfl ?_
  refine r_iload 1122 8 K (dk_of tL_law_5 81 rfl) rfl ?_
  refine r_iadd 1124 K (dk_of tL_law_5 82 rfl) ?_
  refine r_iload 1125 6 K (dk_of tL_law_5 83 rfl) rfl ?_
  refine r_ic_ge 1127 1138 K (dk_of tL_law_5 84 rfl) (by decide) hR (fun hR => ?_) (fun hR => ?_)
  · refine r_iload 1138 6 K (dk_of tL_law_5 89 rfl) rfl ?_
    exact r_msk [false, true, true, true, true, true, false, true, false, true, true, true, true, true, true, true, true, true] [none, some (.ref as9), some (.int i2), none, some (.int i4), some (.int i5), none, some (.int i7), none, some (.int i9), some (.int i10), none, none, none, none, none, none, none] rfl (b1140 i2 i4 i5 i7 i9 i10 i6 σ τ ν δ π hR)
  · refine r_iload 1130 7 K (dk_of tL_law_5 85 rfl) rfl ?_
    refine r_iload 1132 8 K (dk_of tL_law_5 86 rfl) rfl ?_
    refine r_iadd 1134 K (dk_of tL_law_5 87 rfl) ?_
    refine r_goto 1135 1140 K (dk_of tL_law_5 88 rfl) (by decide) ?_
    exact r_msk [false, true, true, true, true, true, false, true, false, true, true, true, true, true, true, true, true, true] [none, some (.ref as9), some (.int i2), none, some (.int i4), some (.int i5), none, some (.int i7), none, some (.int i9), some (.int i10), none, none, none, none, none, none, none] rfl (b1140 i2 i4 i5 i7 i9 i10 (i7 + i8) σ τ ν δ π hR)
