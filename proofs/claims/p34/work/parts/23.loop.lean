/-! the law: loops -/
abbrev lawW (γ : Gd) (h g : Nat → Nat) (as9 an aq : Nat) (ad ap : Nat → Nat) (r : va_W) (σ τ : St) (ν : Nat → Int32) (δ : St) (π : St × Int64) : va_W := wB γ h σ ++ (wB γ g τ ++ (wS as9 (h 0) (g 0) an aq (ad 0) (ap 0) ++ (wN an (h 0) ν ++ (wR aq (h 0) ++ (wD γ ad δ ++ (wP γ ap π ++ (r)))))))
abbrev Z8 : Type := Int32 × Int32 × Int32 × St × St × (Nat → Int32) × St × (St × Int64)
theorem oI_le : ∀ a, a < 40 → ∀ c, c < 40 → (Int32.ofNat a ≤ Int32.ofNat c ↔ a ≤ c) := by decide +kernel
theorem oI_in : ∀ a, a < 40 → Int32.ofNat a + Int32.ofInt 1 = Int32.ofNat (a + 1) := by decide +kernel
theorem oI_6 : ∀ a, a < 30 → (6 : Int32) + (2 : Int32) * Int32.ofNat a = Int32.ofNat (6 + 2 * a) := by decide +kernel
theorem oI_7 : ∀ a, a < 30 → (7 : Int32) + (2 : Int32) * Int32.ofNat a = Int32.ofNat (7 + 2 * a) := by decide +kernel
theorem oI_67 : ∀ a, a < 10 → (67 : Int32) + Int32.ofNat a = Int32.ofNat (67 + a) := by decide +kernel
set_option maxHeartbeats 4000000 in
set_option maxRecDepth 100000 in
theorem setup_loop {l : Launch} (hl : l.stackTraces = false) {γ : Gd} {h g : Nat → Nat} {as9 an aq : Nat} {ad ap : Nat → Nat} {r : va_W} {X : CX} {M : MX} {y : MethodName} {tb : List ExceptionTableEntry} {b n : Nat} {xs : Nat → Int32} (K : KX l γ X M y cL_law RL 18 rmL (some .boolean) tb) (hn : n ≤ 260) (hX : va_X b n xs (ks X) (ks X).heap) (hbl : b < (ks X).heap.size) (hbA : ¬ Ax X M b) {τ : St} {ν : Nat → Int32} {δ : St} {π : St × Int64} {RS : Nat → St → Prop} (hstep : ∀ (k : Nat) (c0 : Int32) (σ : St), k < 6 → RS k σ → ∃ σ9, st_su 0 0 0 (Int32.ofNat k) c0 σ τ ν δ π = some σ9 ∧ RS (k + 1) σ9)
    (kend : ∀ σ, RS 6 σ → V l γ X M (lawW γ h g as9 an aq ad ap r σ τ ν δ π) [some (.ref b), some (.ref as9), some (.int 0), some (.int 0), some (.int 0), none, none, none, none, none, none, none, none, none, none, none, none, none] 60 947 98 []) :
    ∀ (m k : Nat) (σ : St), m + k = 6 → RS k σ → V l γ X M (lawW γ h g as9 an aq ad ap r σ τ ν δ π) [some (.ref b), some (.ref as9), some (.int 0), some (.int 0), some (.int 0), some (.int (Int32.ofNat k)), none, none, none, none, none, none, none, none, none, none, none, none] 60 947 18 [] := by
  intro m
  induction m with
  | zero =>
    intro k σ h1 h2
    have hk : k = 6 := by omega
    subst hk
    refine r_iload 18 5 K (dk_of tL_law_0 12 rfl) rfl ?_
    refine r_bipush 20 (6 : Int32) K (dk_of tL_law_0 13 rfl) (by decide) ?_
    refine r_ic_ge 22 98 K (u := ()) (A := some ()) (B := none) (dk_of tL_law_0 14 rfl) (by decide) rfl (fun _ => ?_) (fun hR => nn_ hR)
    exact r_msk [true, true, true, true, true, false, false, false, false, false, false, false, false, false, false, false, false, false] _ rfl (kend σ h2)
  | succ m ih =>
    intro k σ h1 h2
    have hk : k < 6 := by omega
    refine r_iload 18 5 K (dk_of tL_law_0 12 rfl) rfl ?_
    refine r_bipush 20 (6 : Int32) K (dk_of tL_law_0 13 rfl) (by decide) ?_
    refine r_ic_ge 22 98 K (u := ()) (A := none) (B := some ()) (dk_of tL_law_0 14 rfl) (by decide) (if_neg (fun q => by have := (oI_le 6 (by omega) k (by omega)).mp q; omega)).symm (fun hR => nn_ hR) (fun _ => ?_)
    refine r_aload_n 25 0 K (dk_of tL_law_0 15 rfl) rfl rfl ?_
    refine r_iload 26 5 K (dk_of tL_law_0 16 rfl) rfl ?_
    refine r_cell hl 28 K hn hX hbl hbA ⟨k, by omega, rfl⟩ (dk_of tL_law_0 17 rfl) (by decide) (by omega) (by omega) (fun c0 => ?_)
    obtain ⟨σ9, e9, r9⟩ := hstep k c0 σ hk h2
    refine law_su hl K (by omega) (by omega) e9.symm ?_
    refine r_iinc 92 5 (Int32.ofNat (k + 1)) [some (.ref b), some (.ref as9), some (.int 0), some (.int 0), some (.int 0), some (.int (Int32.ofNat (k + 1))), none, none, none, none, none, none, none, none, none, none, none, none] K (dk_of tL_law_0 50 rfl) rfl (oI_in k (by omega)) rfl rfl (by decide) ?_
    refine r_goto 95 18 K (dk_of tL_law_0 51 rfl) (by decide) ?_
    exact ih (k + 1) σ9 (by omega) r9
set_option maxHeartbeats 4000000 in
set_option maxRecDepth 100000 in
theorem act_loop {l : Launch} (hl : l.stackTraces = false) {γ : Gd} {h g : Nat → Nat} {as9 an aq : Nat} {ad ap : Nat → Nat} {r : va_W} {X : CX} {M : MX} {y : MethodName} {tb : List ExceptionTableEntry} {b n : Nat} {xs : Nat → Int32} (K : KX l γ X M y cL_law RL 18 rmL (some .boolean) tb) (hn : n ≤ 260) (hX : va_X b n xs (ks X) (ks X).heap) (hbl : b < (ks X).heap.size) (hbA : ¬ Ax X M b) {RA : Nat → Z8 → Prop} (hstep : ∀ (k : Nat) (c0 c1 : Int32) (z : Z8), k < 30 → RA k z → ∃ z9, st_act z.1 z.2.1 z.2.2.1 (Int32.ofNat k) c0 c1 z.2.2.2.1 z.2.2.2.2.1 z.2.2.2.2.2.1 z.2.2.2.2.2.2.1 z.2.2.2.2.2.2.2 = some z9 ∧ RA (k + 1) z9)
    (kend : ∀ z, RA 30 z → V l γ X M (lawW γ h g as9 an aq ad ap r z.2.2.2.1 z.2.2.2.2.1 z.2.2.2.2.2.1 z.2.2.2.2.2.2.1 z.2.2.2.2.2.2.2) [some (.ref b), some (.ref as9), some (.int z.1), some (.int z.2.1), some (.int z.2.2.1), none, none, none, none, none, none, none, none, none, none, none, none, none] 180 1667 966 []) :
    ∀ (m k : Nat) (z : Z8), m + k = 30 → RA k z → V l γ X M (lawW γ h g as9 an aq ad ap r z.2.2.2.1 z.2.2.2.2.1 z.2.2.2.2.2.1 z.2.2.2.2.2.2.1 z.2.2.2.2.2.2.2) [some (.ref b), some (.ref as9), some (.int z.1), some (.int z.2.1), some (.int z.2.2.1), some (.int (Int32.ofNat k)), none, none, none, none, none, none, none, none, none, none, none, none] (60 + 4 * k) (947 + 24 * k) 101 [] := by
  intro m
  induction m with
  | zero =>
    intro k z h1 h2
    have hk : k = 30 := by omega
    subst hk
    refine r_iload 101 5 K (dk_of tL_law_0 54 rfl) rfl ?_
    refine r_bipush 103 (30 : Int32) K (dk_of tL_law_0 55 rfl) (by decide) ?_
    refine r_ic_ge 105 966 K (u := ()) (A := some ()) (B := none) (dk_of tL_law_0 56 rfl) (by decide) rfl (fun _ => ?_) (fun hR => nn_ hR)
    exact r_msk [true, true, true, true, true, false, false, false, false, false, false, false, false, false, false, false, false, false] _ rfl (kend z h2)
  | succ m ih =>
    intro k z h1 h2
    have hk : k < 30 := by omega
    refine r_iload 101 5 K (dk_of tL_law_0 54 rfl) rfl ?_
    refine r_bipush 103 (30 : Int32) K (dk_of tL_law_0 55 rfl) (by decide) ?_
    refine r_ic_ge 105 966 K (u := ()) (A := none) (B := some ()) (dk_of tL_law_0 56 rfl) (by decide) (if_neg (fun q => by have := (oI_le 30 (by omega) k (by omega)).mp q; omega)).symm (fun hR => nn_ hR) (fun _ => ?_)
    refine r_aload_n 108 0 K (dk_of tL_law_0 57 rfl) rfl rfl ?_
    refine r_bipush 109 (6 : Int32) K (dk_of tL_law_0 58 rfl) (by decide) ?_
    refine r_iconst 111 (2 : Int32) K (dk_of tL_law_0 59 rfl) (by decide) ?_
    refine r_iload 112 5 K (dk_of tL_law_0 60 rfl) rfl ?_
    refine r_imul 114 K (dk_of tL_law_0 61 rfl) ?_
    refine r_iadd 115 K (dk_of tL_law_0 62 rfl) ?_
    refine r_cell hl 116 K hn hX hbl hbA ⟨6 + 2 * k, by omega, oI_6 k hk⟩ (dk_of tL_law_0 63 rfl) (by decide) (by omega) (by omega) (fun c0 => ?_)
    refine r_istore 119 6 [some (.ref b), some (.ref as9), some (.int z.1), some (.int z.2.1), some (.int z.2.2.1), some (.int (Int32.ofNat k)), some (.int c0), none, none, none, none, none, none, none, none, none, none, none] K (dk_of tL_law_0 64 rfl) rfl rfl (by decide) ?_
    refine r_aload_n 121 0 K (dk_of tL_law_0 65 rfl) rfl rfl ?_
    refine r_bipush 122 (7 : Int32) K (dk_of tL_law_0 66 rfl) (by decide) ?_
    refine r_iconst 124 (2 : Int32) K (dk_of tL_law_0 67 rfl) (by decide) ?_
    refine r_iload 125 5 K (dk_of tL_law_0 68 rfl) rfl ?_
    refine r_imul 127 K (dk_of tL_law_0 69 rfl) ?_
    refine r_iadd 128 K (dk_of tL_law_0 70 rfl) ?_
    refine r_cell hl 129 K hn hX hbl hbA ⟨7 + 2 * k, by omega, oI_7 k hk⟩ (dk_of tL_law_0 71 rfl) (by decide) (by omega) (by omega) (fun c1 => ?_)
    obtain ⟨z9, e9, r9⟩ := hstep k c0 c1 z hk h2
    refine law_act hl K (by omega) (by omega) e9.symm ?_
    refine r_iinc 960 5 (Int32.ofNat (k + 1)) [some (.ref b), some (.ref as9), some (.int z9.1), some (.int z9.2.1), some (.int z9.2.2.1), some (.int (Int32.ofNat (k + 1))), none, none, none, none, none, none, none, none, none, none, none, none] K (dk_of tL_law_4 96 rfl) rfl (oI_in k (by omega)) rfl rfl (by decide) ?_
    refine r_goto 963 101 K (dk_of tL_law_4 97 rfl) (by decide) ?_
    exact ih (k + 1) z9 (by omega) r9
set_option maxHeartbeats 4000000 in
set_option maxRecDepth 100000 in
theorem claim_loop {l : Launch} (hl : l.stackTraces = false) {γ : Gd} {h g : Nat → Nat} {as9 an aq : Nat} {ad ap : Nat → Nat} {r : va_W} {X : CX} {M : MX} {y : MethodName} {tb : List ExceptionTableEntry} {b n : Nat} {xs : Nat → Int32} (K : KX l γ X M y cL_law RL 18 rmL (some .boolean) tb) (hn : n ≤ 260) (hX : va_X b n xs (ks X) (ks X).heap) (hbl : b < (ks X).heap.size) (hbA : ¬ Ax X M b) {i2 i4 : Int32} {σ τ : St} {ν : Nat → Int32} {δ : St} {N : Nat} (hN : N ≤ 5) {RC : Nat → Int32 → (St × Int64) → Prop} (hstep : ∀ (k : Nat) (c0 a : Int32) (π : St × Int64), k < N → RC k a π → ∃ a9 π9, st_cb i2 i4 (Int32.ofNat N) a (Int32.ofNat k) c0 σ τ ν δ π = some (a9, π9) ∧ RC (k + 1) a9 π9)
    (kend : ∀ a π, RC N a π → V l γ X M (lawW γ h g as9 an aq ad ap r σ τ ν δ π) [some (.ref b), some (.ref as9), some (.int i2), none, some (.int i4), some (.int (Int32.ofNat N)), some (.int a), none, none, none, none, none, none, none, none, none, none, none] 180 1667 1031 []) :
    ∀ (m k : Nat) (a : Int32) (π : St × Int64), m + k = N → RC k a π → V l γ X M (lawW γ h g as9 an aq ad ap r σ τ ν δ π) [some (.ref b), some (.ref as9), some (.int i2), none, some (.int i4), some (.int (Int32.ofNat N)), some (.int a), some (.int (Int32.ofNat k)), none, none, none, none, none, none, none, none, none, none] 180 1667 986 [] := by
  intro m
  induction m with
  | zero =>
    intro k a π h1 h2
    have hk : k = N := by omega
    subst hk
    refine r_iload 986 7 K (dk_of tL_law_5 10 rfl) rfl ?_
    refine r_iload 988 5 K (dk_of tL_law_5 11 rfl) rfl ?_
    refine r_ic_ge 990 1031 K (u := ()) (A := some ()) (B := none) (dk_of tL_law_5 12 rfl) (by decide) (if_pos ((oI_le k (by omega) k (by omega)).mpr (Nat.le_refl k))).symm (fun _ => ?_) (fun hR => nn_ hR)
    exact r_msk [true, true, true, false, true, true, true, false, false, false, false, false, false, false, false, false, false, false] _ rfl (kend a π h2)
  | succ m ih =>
    intro k a π h1 h2
    have hk : k < N := by omega
    refine r_iload 986 7 K (dk_of tL_law_5 10 rfl) rfl ?_
    refine r_iload 988 5 K (dk_of tL_law_5 11 rfl) rfl ?_
    refine r_ic_ge 990 1031 K (u := ()) (A := none) (B := some ()) (dk_of tL_law_5 12 rfl) (by decide) (if_neg (fun q => by have := (oI_le N (by omega) k (by omega)).mp q; omega)).symm (fun hR => nn_ hR) (fun _ => ?_)
    refine r_iconst 993 (1 : Int32) K (dk_of tL_law_5 13 rfl) (by decide) ?_
    refine r_aload_n 994 0 K (dk_of tL_law_5 14 rfl) rfl rfl ?_
    refine r_bipush 995 (67 : Int32) K (dk_of tL_law_5 15 rfl) (by decide) ?_
    refine r_iload 997 7 K (dk_of tL_law_5 16 rfl) rfl ?_
    refine r_iadd 999 K (dk_of tL_law_5 17 rfl) ?_
    refine r_cell hl 1000 K hn hX hbl hbA ⟨67 + k, by omega, oI_67 k (by omega)⟩ (dk_of tL_law_5 18 rfl) (by decide) (by omega) (by omega) (fun c0 => ?_)
    obtain ⟨a9, π9, e9, r9⟩ := hstep k c0 a π hk h2
    refine law_cb hl K (by omega) (by omega) e9.symm ?_
    refine r_iinc 1025 7 (Int32.ofNat (k + 1)) [some (.ref b), some (.ref as9), some (.int i2), none, some (.int i4), some (.int (Int32.ofNat N)), some (.int a9), some (.int (Int32.ofNat (k + 1))), none, none, none, none, none, none, none, none, none, none] K (dk_of tL_law_5 31 rfl) rfl (oI_in k (by omega)) rfl rfl (by decide) ?_
    refine r_goto 1028 986 K (dk_of tL_law_5 32 rfl) (by decide) ?_
    exact ih (k + 1) a9 π9 (by omega) r9
set_option maxHeartbeats 4000000 in
set_option maxRecDepth 100000 in
theorem due_loop {l : Launch} (hl : l.stackTraces = false) {γ : Gd} {h g : Nat → Nat} {as9 an aq : Nat} {ad ap : Nat → Nat} {r : va_W} {X : CX} {M : MX} {y : MethodName} {tb : List ExceptionTableEntry} {b n : Nat} {xs : Nat → Int32} (K : KX l γ X M y cL_law RL 18 rmL (some .boolean) tb) (hn : n ≤ 260) (hX : va_X b n xs (ks X) (ks X).heap) (hbl : b < (ks X).heap.size) (hbA : ¬ Ax X M b) {i2 i4 a ow fu : Int32} {σ τ : St} {ν : Nat → Int32} {δ : St} {π : St × Int64} {N : Nat} (hN : N ≤ 5) {RD : Nat → Int32 → Int32 → Prop} (hstep : ∀ (k : Nat) (p f : Int32), k < N → RD k p f → ∃ p9 f9, st_db i2 i4 (Int32.ofNat N) a ow fu p f (Int32.ofNat k) σ τ ν δ π = some (p9, f9) ∧ RD (k + 1) p9 f9)
    (kend : ∀ p f, RD N p f → V l γ X M (lawW γ h g as9 an aq ad ap r σ τ ν δ π) [some (.ref b), some (.ref as9), some (.int i2), none, some (.int i4), some (.int (Int32.ofNat N)), some (.int a), some (.int ow), some (.int fu), some (.int p), some (.int f), none, none, none, none, none, none, none] 180 1667 1120 []) :
    ∀ (m k : Nat) (p f : Int32), m + k = N → RD k p f → V l γ X M (lawW γ h g as9 an aq ad ap r σ τ ν δ π) [some (.ref b), some (.ref as9), some (.int i2), none, some (.int i4), some (.int (Int32.ofNat N)), some (.int a), some (.int ow), some (.int fu), some (.int p), some (.int f), some (.int (Int32.ofNat k)), none, none, none, none, none, none] 180 1667 1075 [] := by
  intro m
  induction m with
  | zero =>
    intro k p f h1 h2
    have hk : k = N := by omega
    subst hk
    refine r_iload 1075 11 K (dk_of tL_law_5 56 rfl) rfl ?_
    refine r_iload 1077 5 K (dk_of tL_law_5 57 rfl) rfl ?_
    refine r_ic_ge 1079 1120 K (u := ()) (A := some ()) (B := none) (dk_of tL_law_5 58 rfl) (by decide) (if_pos ((oI_le k (by omega) k (by omega)).mpr (Nat.le_refl k))).symm (fun _ => ?_) (fun hR => nn_ hR)
    exact r_msk [true, true, true, false, true, true, true, true, true, true, true, false, false, false, false, false, false, false] _ rfl (kend p f h2)
  | succ m ih =>
    intro k p f h1 h2
    have hk : k < N := by omega
    refine r_iload 1075 11 K (dk_of tL_law_5 56 rfl) rfl ?_
    refine r_iload 1077 5 K (dk_of tL_law_5 57 rfl) rfl ?_
    refine r_ic_ge 1079 1120 K (u := ()) (A := none) (B := some ()) (dk_of tL_law_5 58 rfl) (by decide) (if_neg (fun q => by have := (oI_le N (by omega) k (by omega)).mp q; omega)).symm (fun hR => nn_ hR) (fun _ => ?_)
    obtain ⟨p9, f9, e9, r9⟩ := hstep k p f hk h2
    refine law_db hl K (by omega) (by omega) e9.symm ?_
    refine r_iinc 1114 11 (Int32.ofNat (k + 1)) [some (.ref b), some (.ref as9), some (.int i2), none, some (.int i4), some (.int (Int32.ofNat N)), some (.int a), some (.int ow), some (.int fu), some (.int p9), some (.int f9), some (.int (Int32.ofNat (k + 1))), none, none, none, none, none, none] K (dk_of tL_law_5 78 rfl) rfl (oI_in k (by omega)) rfl rfl (by decide) ?_
    refine r_goto 1117 1075 K (dk_of tL_law_5 79 rfl) (by decide) ?_
    exact ih (k + 1) p9 f9 (by omega) r9
/-- what the end of the law wants, behind the acts -/
def TailOk (i2 i4 : Int32) (σ τ : St) (ν : Nat → Int32) (δ : St) (π : St × Int64) : Prop :=
  ∀ c66 : Int32, ∃ N, N ≤ 5 ∧ st_cl i2 i4 c66 σ τ ν δ π = some (Int32.ofNat N) ∧ ∃ RC : Nat → Int32 → (St × Int64) → Prop, RC 0 0 π ∧
    (∀ (k : Nat) (c0 a : Int32) (π : St × Int64), k < N → RC k a π → ∃ a9 π9, st_cb i2 i4 (Int32.ofNat N) a (Int32.ofNat k) c0 σ τ ν δ π = some (a9, π9) ∧ RC (k + 1) a9 π9) ∧
    ∀ (a : Int32) (π : St × Int64), RC N a π → ∀ c72 : Int32, ∃ ow, st_ow i2 i4 (Int32.ofNat N) a c72 σ τ ν δ π = some ow ∧ ∀ c73 : Int32, ∃ fu π9, st_fu i2 i4 (Int32.ofNat N) a ow c73 σ τ ν δ π = some (fu, π9) ∧ ∃ RD : Nat → Int32 → Int32 → Prop, RD 0 0 0 ∧
      (∀ (k : Nat) (p f : Int32), k < N → RD k p f → ∃ p9 f9, st_db i2 i4 (Int32.ofNat N) a ow fu p f (Int32.ofNat k) σ τ ν δ π9 = some (p9, f9) ∧ RD (k + 1) p9 f9) ∧
      ∀ p f, RD N p f → st_en i2 i4 (Int32.ofNat N) a ow fu p f σ τ ν δ π9 = some ()
set_option maxHeartbeats 4000000 in
set_option maxRecDepth 100000 in
theorem law_tail {l : Launch} (hl : l.stackTraces = false) {γ : Gd} {h g : Nat → Nat} {as9 an aq : Nat} {ad ap : Nat → Nat} {r : va_W} {X : CX} {M : MX} {y : MethodName} {tb : List ExceptionTableEntry} {b n : Nat} {xs : Nat → Int32} (K : KX l γ X M y cL_law RL 18 rmL (some .boolean) tb) (hn : n ≤ 260) (hX : va_X b n xs (ks X) (ks X).heap) (hbl : b < (ks X).heap.size) (hbA : ¬ Ax X M b) {i2 i4 : Int32} {σ τ : St} {ν : Nat → Int32} {δ : St} {π : St × Int64} {i3 : Int32} (ht : TailOk i2 i4 σ τ ν δ π)
    (hend : ∀ (cs ss : Nat) (w : va_W) (L : List (Option Value)), cs ≤ 205 → ss ≤ 2077 → V l γ X M w L cs ss 1181 [.int 1]) : V l γ X M (lawW γ h g as9 an aq ad ap r σ τ ν δ π) [some (.ref b), some (.ref as9), some (.int i2), some (.int i3), some (.int i4), none, none, none, none, none, none, none, none, none, none, none, none, none] 180 1667 966 [] := by
  refine r_iconst 966 (1 : Int32) K (dk_of tL_law_4 98 rfl) (by decide) ?_
  refine r_aload_n 967 0 K (dk_of tL_law_4 99 rfl) rfl rfl ?_
  refine r_bipush 968 (66 : Int32) K (dk_of tL_law_5 0 rfl) (by decide) ?_
  refine r_cell hl 970 K hn hX hbl hbA ⟨66, by omega, rfl⟩ (dk_of tL_law_5 1 rfl) (by decide) (by omega) (by omega) (fun c66 => ?_)
  obtain ⟨N, hN, e1, RC, r0, rs, rt⟩ := ht c66
  refine r_msk [true, true, true, false, true, false, false, false, false, false, false, false, false, false, false, false, false, false] [some (.ref b), some (.ref as9), some (.int i2), none, some (.int i4), none, none, none, none, none, none, none, none, none, none, none, none, none] rfl ?_
  refine law_cl hl K (by omega) (by omega) e1.symm ?_
  refine r_iconst 980 (0 : Int32) K (dk_of tL_law_5 6 rfl) (by decide) ?_
  refine r_istore 981 6 [some (.ref b), some (.ref as9), some (.int i2), none, some (.int i4), some (.int (Int32.ofNat N)), some (.int 0), none, none, none, none, none, none, none, none, none, none, none] K (dk_of tL_law_5 7 rfl) rfl rfl (by decide) ?_
  refine r_iconst 983 (0 : Int32) K (dk_of tL_law_5 8 rfl) (by decide) ?_
  refine r_istore 984 7 [some (.ref b), some (.ref as9), some (.int i2), none, some (.int i4), some (.int (Int32.ofNat N)), some (.int 0), some (.int (Int32.ofNat 0)), none, none, none, none, none, none, none, none, none, none] K (dk_of tL_law_5 9 rfl) rfl rfl (by decide) ?_
  refine claim_loop hl K hn hX hbl hbA hN rs ?_ N 0 0 π rfl r0
  intro a π ra
  refine r_aload_n 1031 0 K (dk_of tL_law_5 33 rfl) rfl rfl ?_
  refine r_bipush 1032 (72 : Int32) K (dk_of tL_law_5 34 rfl) (by decide) ?_
  refine r_cell hl 1034 K hn hX hbl hbA ⟨72, by omega, rfl⟩ (dk_of tL_law_5 35 rfl) (by decide) (by omega) (by omega) (fun c72 => ?_)
  obtain ⟨ow, e2, rt2⟩ := rt a π ra c72
  refine law_ow hl K (by omega) (by omega) e2.symm ?_
  refine r_aload_n 1044 0 K (dk_of tL_law_5 39 rfl) rfl rfl ?_
  refine r_bipush 1045 (73 : Int32) K (dk_of tL_law_5 40 rfl) (by decide) ?_
  refine r_cell hl 1047 K hn hX hbl hbA ⟨73, by omega, rfl⟩ (dk_of tL_law_5 41 rfl) (by decide) (by omega) (by omega) (fun c73 => ?_)
  obtain ⟨fu, π9, e3, RD, d0, ds, dt⟩ := rt2 c73
  refine law_fu hl K (by omega) (by omega) e3.symm ?_
  refine r_iconst 1066 (0 : Int32) K (dk_of tL_law_5 50 rfl) (by decide) ?_
  refine r_istore 1067 9 [some (.ref b), some (.ref as9), some (.int i2), none, some (.int i4), some (.int (Int32.ofNat N)), some (.int a), some (.int ow), some (.int fu), some (.int 0), none, none, none, none, none, none, none, none] K (dk_of tL_law_5 51 rfl) rfl rfl (by decide) ?_
  refine r_iconst 1069 (0 : Int32) K (dk_of tL_law_5 52 rfl) (by decide) ?_
  refine r_istore 1070 10 [some (.ref b), some (.ref as9), some (.int i2), none, some (.int i4), some (.int (Int32.ofNat N)), some (.int a), some (.int ow), some (.int fu), some (.int 0), some (.int 0), none, none, none, none, none, none, none] K (dk_of tL_law_5 53 rfl) rfl rfl (by decide) ?_
  refine r_iconst 1072 (0 : Int32) K (dk_of tL_law_5 54 rfl) (by decide) ?_
  refine r_istore 1073 11 [some (.ref b), some (.ref as9), some (.int i2), none, some (.int i4), some (.int (Int32.ofNat N)), some (.int a), some (.int ow), some (.int fu), some (.int 0), some (.int 0), some (.int (Int32.ofNat 0)), none, none, none, none, none, none] K (dk_of tL_law_5 55 rfl) rfl rfl (by decide) ?_
  refine due_loop hl K hn hX hbl hbA hN ds ?_ N 0 0 0 rfl d0
  intro p f rd
  exact law_en hl K (by omega) (by omega) (dt p f rd).symm hend
