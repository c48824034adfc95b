theorem at_of {L : List Cond} (h : L.all (fun w => (decide (w ∈ lw_tbl) && goodWord w) || decide (w ∈ nwL)) = true) : ∀ w ∈ L, w ∈ Gw ∨ w ∈ nwL := by
  intro w hw
  have h1 := List.all_eq_true.mp h w hw
  simp only [Bool.or_eq_true, Bool.and_eq_true, decide_eq_true_eq] at h1
  rcases h1 with h1 | h1
  · exact Or.inl (List.mem_filter.mpr h1)
  · exact Or.inr h1
theorem AT1 : ∀ w ∈ vx_atS RX9 344 (xn 1) nms, w ∈ Gw ∨ w ∈ nwL := at_of (by decide +kernel)
theorem AT2 : ∀ w ∈ vx_atS RX9 132 (xn 2) nms, w ∈ Gw ∨ w ∈ nwL := at_of (by decide +kernel)
theorem AT3 : ∀ w ∈ vx_atS RX9 65 (xn 3) nms, w ∈ Gw ∨ w ∈ nwL := at_of (by decide +kernel)
abbrev St : Type := Nat → Nat → Int32
/-- a store: the slot i of the cell k -/
def stU (σ : St) (k i : Nat) (x : Int32) : St := fun a => if a = k then upd (σ k) i x else σ a
def stC (σ : St) (k : Nat) (f : Nat → Int32) : St := fun a => if a = k then f else σ a
theorem thr1 : ThrOk 1 340 344 := ⟨w345, w15, AT1, by decide +kernel⟩
theorem thr2 : ThrOk 2 128 132 := ⟨w416, w16, AT2, by decide +kernel⟩
theorem thr3 : ThrOk 3 61 65 := ⟨w432, w17, AT3, by decide +kernel⟩
def wB (γ : Gd) (h : Nat → Nat) (σ : St) : va_W := [(h 0, .inr (0, [.ref (h 1), .ref (h 10), .ref (h 14), .ref (h 23), .int (σ 0 4), .int (σ 0 5), .int (σ 0 6), .ref (h 24), .ref (h 25)])), (h 1, .inr (2, [.ref (h 2), .ref (h 3), .ref (h 4), .ref (h 5), .ref (h 6), .ref (h 7), .ref (h 8), .ref (h 9)])), (h 2, .inl (γ.2.1.1, 24, .inl (σ 2))), (h 3, .inl (γ.2.1.1, 24, .inl (σ 3))), (h 4, .inl (γ.2.1.1, 24, .inl (σ 4))), (h 5, .inl (γ.2.1.1, 24, .inl (σ 5))), (h 6, .inl (γ.2.1.1, 24, .inl (σ 6))), (h 7, .inl (γ.2.1.1, 24, .inl (σ 7))), (h 8, .inl (γ.2.1.1, 24, .inl (σ 8))), (h 9, .inl (γ.2.1.1, 24, .inl (σ 9))), (h 10, .inr (8, [.int (σ 10 0), .ref (h 11), .ref (h 12), .ref (h 13)])), (h 11, .inl (γ.2.1.1, 4, .inl (σ 11))), (h 12, .inl (γ.2.1.1, 4, .inl (σ 12))), (h 13, .inl (γ.2.1.1, 4, .inl (σ 13))), (h 14, .inr (4, [.int (σ 14 0), .ref (h 15), .ref (h 16), .ref (h 17), .ref (h 18), .ref (h 19), .ref (h 20), .ref (h 21), .ref (h 22)])), (h 15, .inl (γ.2.1.1, 20, .inl (σ 15))), (h 16, .inl (γ.2.1.1, 20, .inl (σ 16))), (h 17, .inl (γ.2.1.1, 20, .inl (σ 17))), (h 18, .inl (γ.2.1.1, 20, .inl (σ 18))), (h 19, .inl (γ.2.1.1, 20, .inl (σ 19))), (h 20, .inl (γ.2.1.1, 20, .inl (σ 20))), (h 21, .inl (γ.2.1.2.1, 20, .inl (σ 21))), (h 22, .inl (γ.2.1.1, 20, .inl (σ 22))), (h 23, .inr (1, [.int (σ 23 0), .int (σ 23 1), .int (σ 23 2), .int (σ 23 3), .int (σ 23 4), .int (σ 23 5), .int (σ 23 6)])), (h 24, .inl (γ.2.1.1, 24, .inl (σ 24))), (h 25, .inl (γ.2.1.1, 24, .inl (σ 25)))]
theorem sB_0_4 {γ : Gd} {h : Nat → Nat} {σ : St} {r : va_W} {x : Int32} : (wB γ h σ ++ r).set 0 (h 0, .inr (0, ([.ref (h 1), .ref (h 10), .ref (h 14), .ref (h 23), .int (σ 0 4), .int (σ 0 5), .int (σ 0 6), .ref (h 24), .ref (h 25)] : List Value).set 4 (.int x))) = wB γ h (stU σ 0 4 x) ++ r := rfl
theorem sB_0_5 {γ : Gd} {h : Nat → Nat} {σ : St} {r : va_W} {x : Int32} : (wB γ h σ ++ r).set 0 (h 0, .inr (0, ([.ref (h 1), .ref (h 10), .ref (h 14), .ref (h 23), .int (σ 0 4), .int (σ 0 5), .int (σ 0 6), .ref (h 24), .ref (h 25)] : List Value).set 5 (.int x))) = wB γ h (stU σ 0 5 x) ++ r := rfl
theorem sB_0_6 {γ : Gd} {h : Nat → Nat} {σ : St} {r : va_W} {x : Int32} : (wB γ h σ ++ r).set 0 (h 0, .inr (0, ([.ref (h 1), .ref (h 10), .ref (h 14), .ref (h 23), .int (σ 0 4), .int (σ 0 5), .int (σ 0 6), .ref (h 24), .ref (h 25)] : List Value).set 6 (.int x))) = wB γ h (stU σ 0 6 x) ++ r := rfl
theorem sB_2 {γ : Gd} {h : Nat → Nat} {σ : St} {r : va_W} {i : Nat} {x : Int32} : (wB γ h σ ++ r).set 2 (h 2, .inl (γ.2.1.1, 24, .inl (upd (σ 2) i x))) = wB γ h (stU σ 2 i x) ++ r := rfl
theorem cB_2 {γ : Gd} {h : Nat → Nat} {σ : St} {r : va_W} {f : Nat → Int32} : (wB γ h σ ++ r).set 2 (h 2, .inl (γ.2.1.1, 24, .inl f)) = wB γ h (stC σ 2 f) ++ r := rfl
theorem sB_3 {γ : Gd} {h : Nat → Nat} {σ : St} {r : va_W} {i : Nat} {x : Int32} : (wB γ h σ ++ r).set 3 (h 3, .inl (γ.2.1.1, 24, .inl (upd (σ 3) i x))) = wB γ h (stU σ 3 i x) ++ r := rfl
theorem cB_3 {γ : Gd} {h : Nat → Nat} {σ : St} {r : va_W} {f : Nat → Int32} : (wB γ h σ ++ r).set 3 (h 3, .inl (γ.2.1.1, 24, .inl f)) = wB γ h (stC σ 3 f) ++ r := rfl
theorem sB_4 {γ : Gd} {h : Nat → Nat} {σ : St} {r : va_W} {i : Nat} {x : Int32} : (wB γ h σ ++ r).set 4 (h 4, .inl (γ.2.1.1, 24, .inl (upd (σ 4) i x))) = wB γ h (stU σ 4 i x) ++ r := rfl
theorem cB_4 {γ : Gd} {h : Nat → Nat} {σ : St} {r : va_W} {f : Nat → Int32} : (wB γ h σ ++ r).set 4 (h 4, .inl (γ.2.1.1, 24, .inl f)) = wB γ h (stC σ 4 f) ++ r := rfl
theorem sB_5 {γ : Gd} {h : Nat → Nat} {σ : St} {r : va_W} {i : Nat} {x : Int32} : (wB γ h σ ++ r).set 5 (h 5, .inl (γ.2.1.1, 24, .inl (upd (σ 5) i x))) = wB γ h (stU σ 5 i x) ++ r := rfl
theorem cB_5 {γ : Gd} {h : Nat → Nat} {σ : St} {r : va_W} {f : Nat → Int32} : (wB γ h σ ++ r).set 5 (h 5, .inl (γ.2.1.1, 24, .inl f)) = wB γ h (stC σ 5 f) ++ r := rfl
theorem sB_6 {γ : Gd} {h : Nat → Nat} {σ : St} {r : va_W} {i : Nat} {x : Int32} : (wB γ h σ ++ r).set 6 (h 6, .inl (γ.2.1.1, 24, .inl (upd (σ 6) i x))) = wB γ h (stU σ 6 i x) ++ r := rfl
theorem cB_6 {γ : Gd} {h : Nat → Nat} {σ : St} {r : va_W} {f : Nat → Int32} : (wB γ h σ ++ r).set 6 (h 6, .inl (γ.2.1.1, 24, .inl f)) = wB γ h (stC σ 6 f) ++ r := rfl
theorem sB_7 {γ : Gd} {h : Nat → Nat} {σ : St} {r : va_W} {i : Nat} {x : Int32} : (wB γ h σ ++ r).set 7 (h 7, .inl (γ.2.1.1, 24, .inl (upd (σ 7) i x))) = wB γ h (stU σ 7 i x) ++ r := rfl
theorem cB_7 {γ : Gd} {h : Nat → Nat} {σ : St} {r : va_W} {f : Nat → Int32} : (wB γ h σ ++ r).set 7 (h 7, .inl (γ.2.1.1, 24, .inl f)) = wB γ h (stC σ 7 f) ++ r := rfl
theorem sB_8 {γ : Gd} {h : Nat → Nat} {σ : St} {r : va_W} {i : Nat} {x : Int32} : (wB γ h σ ++ r).set 8 (h 8, .inl (γ.2.1.1, 24, .inl (upd (σ 8) i x))) = wB γ h (stU σ 8 i x) ++ r := rfl
theorem cB_8 {γ : Gd} {h : Nat → Nat} {σ : St} {r : va_W} {f : Nat → Int32} : (wB γ h σ ++ r).set 8 (h 8, .inl (γ.2.1.1, 24, .inl f)) = wB γ h (stC σ 8 f) ++ r := rfl
theorem sB_9 {γ : Gd} {h : Nat → Nat} {σ : St} {r : va_W} {i : Nat} {x : Int32} : (wB γ h σ ++ r).set 9 (h 9, .inl (γ.2.1.1, 24, .inl (upd (σ 9) i x))) = wB γ h (stU σ 9 i x) ++ r := rfl
theorem cB_9 {γ : Gd} {h : Nat → Nat} {σ : St} {r : va_W} {f : Nat → Int32} : (wB γ h σ ++ r).set 9 (h 9, .inl (γ.2.1.1, 24, .inl f)) = wB γ h (stC σ 9 f) ++ r := rfl
theorem sB_10_0 {γ : Gd} {h : Nat → Nat} {σ : St} {r : va_W} {x : Int32} : (wB γ h σ ++ r).set 10 (h 10, .inr (8, ([.int (σ 10 0), .ref (h 11), .ref (h 12), .ref (h 13)] : List Value).set 0 (.int x))) = wB γ h (stU σ 10 0 x) ++ r := rfl
theorem sB_11 {γ : Gd} {h : Nat → Nat} {σ : St} {r : va_W} {i : Nat} {x : Int32} : (wB γ h σ ++ r).set 11 (h 11, .inl (γ.2.1.1, 4, .inl (upd (σ 11) i x))) = wB γ h (stU σ 11 i x) ++ r := rfl
theorem cB_11 {γ : Gd} {h : Nat → Nat} {σ : St} {r : va_W} {f : Nat → Int32} : (wB γ h σ ++ r).set 11 (h 11, .inl (γ.2.1.1, 4, .inl f)) = wB γ h (stC σ 11 f) ++ r := rfl
theorem sB_12 {γ : Gd} {h : Nat → Nat} {σ : St} {r : va_W} {i : Nat} {x : Int32} : (wB γ h σ ++ r).set 12 (h 12, .inl (γ.2.1.1, 4, .inl (upd (σ 12) i x))) = wB γ h (stU σ 12 i x) ++ r := rfl
theorem cB_12 {γ : Gd} {h : Nat → Nat} {σ : St} {r : va_W} {f : Nat → Int32} : (wB γ h σ ++ r).set 12 (h 12, .inl (γ.2.1.1, 4, .inl f)) = wB γ h (stC σ 12 f) ++ r := rfl
theorem sB_13 {γ : Gd} {h : Nat → Nat} {σ : St} {r : va_W} {i : Nat} {x : Int32} : (wB γ h σ ++ r).set 13 (h 13, .inl (γ.2.1.1, 4, .inl (upd (σ 13) i x))) = wB γ h (stU σ 13 i x) ++ r := rfl
theorem cB_13 {γ : Gd} {h : Nat → Nat} {σ : St} {r : va_W} {f : Nat → Int32} : (wB γ h σ ++ r).set 13 (h 13, .inl (γ.2.1.1, 4, .inl f)) = wB γ h (stC σ 13 f) ++ r := rfl
theorem sB_14_0 {γ : Gd} {h : Nat → Nat} {σ : St} {r : va_W} {x : Int32} : (wB γ h σ ++ r).set 14 (h 14, .inr (4, ([.int (σ 14 0), .ref (h 15), .ref (h 16), .ref (h 17), .ref (h 18), .ref (h 19), .ref (h 20), .ref (h 21), .ref (h 22)] : List Value).set 0 (.int x))) = wB γ h (stU σ 14 0 x) ++ r := rfl
theorem sB_15 {γ : Gd} {h : Nat → Nat} {σ : St} {r : va_W} {i : Nat} {x : Int32} : (wB γ h σ ++ r).set 15 (h 15, .inl (γ.2.1.1, 20, .inl (upd (σ 15) i x))) = wB γ h (stU σ 15 i x) ++ r := rfl
theorem cB_15 {γ : Gd} {h : Nat → Nat} {σ : St} {r : va_W} {f : Nat → Int32} : (wB γ h σ ++ r).set 15 (h 15, .inl (γ.2.1.1, 20, .inl f)) = wB γ h (stC σ 15 f) ++ r := rfl
theorem sB_16 {γ : Gd} {h : Nat → Nat} {σ : St} {r : va_W} {i : Nat} {x : Int32} : (wB γ h σ ++ r).set 16 (h 16, .inl (γ.2.1.1, 20, .inl (upd (σ 16) i x))) = wB γ h (stU σ 16 i x) ++ r := rfl
theorem cB_16 {γ : Gd} {h : Nat → Nat} {σ : St} {r : va_W} {f : Nat → Int32} : (wB γ h σ ++ r).set 16 (h 16, .inl (γ.2.1.1, 20, .inl f)) = wB γ h (stC σ 16 f) ++ r := rfl
theorem sB_17 {γ : Gd} {h : Nat → Nat} {σ : St} {r : va_W} {i : Nat} {x : Int32} : (wB γ h σ ++ r).set 17 (h 17, .inl (γ.2.1.1, 20, .inl (upd (σ 17) i x))) = wB γ h (stU σ 17 i x) ++ r := rfl
theorem cB_17 {γ : Gd} {h : Nat → Nat} {σ : St} {r : va_W} {f : Nat → Int32} : (wB γ h σ ++ r).set 17 (h 17, .inl (γ.2.1.1, 20, .inl f)) = wB γ h (stC σ 17 f) ++ r := rfl
theorem sB_18 {γ : Gd} {h : Nat → Nat} {σ : St} {r : va_W} {i : Nat} {x : Int32} : (wB γ h σ ++ r).set 18 (h 18, .inl (γ.2.1.1, 20, .inl (upd (σ 18) i x))) = wB γ h (stU σ 18 i x) ++ r := rfl
theorem cB_18 {γ : Gd} {h : Nat → Nat} {σ : St} {r : va_W} {f : Nat → Int32} : (wB γ h σ ++ r).set 18 (h 18, .inl (γ.2.1.1, 20, .inl f)) = wB γ h (stC σ 18 f) ++ r := rfl
theorem sB_19 {γ : Gd} {h : Nat → Nat} {σ : St} {r : va_W} {i : Nat} {x : Int32} : (wB γ h σ ++ r).set 19 (h 19, .inl (γ.2.1.1, 20, .inl (upd (σ 19) i x))) = wB γ h (stU σ 19 i x) ++ r := rfl
theorem cB_19 {γ : Gd} {h : Nat → Nat} {σ : St} {r : va_W} {f : Nat → Int32} : (wB γ h σ ++ r).set 19 (h 19, .inl (γ.2.1.1, 20, .inl f)) = wB γ h (stC σ 19 f) ++ r := rfl
theorem sB_20 {γ : Gd} {h : Nat → Nat} {σ : St} {r : va_W} {i : Nat} {x : Int32} : (wB γ h σ ++ r).set 20 (h 20, .inl (γ.2.1.1, 20, .inl (upd (σ 20) i x))) = wB γ h (stU σ 20 i x) ++ r := rfl
theorem cB_20 {γ : Gd} {h : Nat → Nat} {σ : St} {r : va_W} {f : Nat → Int32} : (wB γ h σ ++ r).set 20 (h 20, .inl (γ.2.1.1, 20, .inl f)) = wB γ h (stC σ 20 f) ++ r := rfl
theorem sB_21 {γ : Gd} {h : Nat → Nat} {σ : St} {r : va_W} {i : Nat} {x : Int32} : (wB γ h σ ++ r).set 21 (h 21, .inl (γ.2.1.2.1, 20, .inl (upd (σ 21) i x))) = wB γ h (stU σ 21 i x) ++ r := rfl
theorem sB_22 {γ : Gd} {h : Nat → Nat} {σ : St} {r : va_W} {i : Nat} {x : Int32} : (wB γ h σ ++ r).set 22 (h 22, .inl (γ.2.1.1, 20, .inl (upd (σ 22) i x))) = wB γ h (stU σ 22 i x) ++ r := rfl
theorem cB_22 {γ : Gd} {h : Nat → Nat} {σ : St} {r : va_W} {f : Nat → Int32} : (wB γ h σ ++ r).set 22 (h 22, .inl (γ.2.1.1, 20, .inl f)) = wB γ h (stC σ 22 f) ++ r := rfl
theorem sB_23_0 {γ : Gd} {h : Nat → Nat} {σ : St} {r : va_W} {x : Int32} : (wB γ h σ ++ r).set 23 (h 23, .inr (1, ([.int (σ 23 0), .int (σ 23 1), .int (σ 23 2), .int (σ 23 3), .int (σ 23 4), .int (σ 23 5), .int (σ 23 6)] : List Value).set 0 (.int x))) = wB γ h (stU σ 23 0 x) ++ r := rfl
theorem sB_23_1 {γ : Gd} {h : Nat → Nat} {σ : St} {r : va_W} {x : Int32} : (wB γ h σ ++ r).set 23 (h 23, .inr (1, ([.int (σ 23 0), .int (σ 23 1), .int (σ 23 2), .int (σ 23 3), .int (σ 23 4), .int (σ 23 5), .int (σ 23 6)] : List Value).set 1 (.int x))) = wB γ h (stU σ 23 1 x) ++ r := rfl
theorem sB_23_2 {γ : Gd} {h : Nat → Nat} {σ : St} {r : va_W} {x : Int32} : (wB γ h σ ++ r).set 23 (h 23, .inr (1, ([.int (σ 23 0), .int (σ 23 1), .int (σ 23 2), .int (σ 23 3), .int (σ 23 4), .int (σ 23 5), .int (σ 23 6)] : List Value).set 2 (.int x))) = wB γ h (stU σ 23 2 x) ++ r := rfl
theorem sB_23_3 {γ : Gd} {h : Nat → Nat} {σ : St} {r : va_W} {x : Int32} : (wB γ h σ ++ r).set 23 (h 23, .inr (1, ([.int (σ 23 0), .int (σ 23 1), .int (σ 23 2), .int (σ 23 3), .int (σ 23 4), .int (σ 23 5), .int (σ 23 6)] : List Value).set 3 (.int x))) = wB γ h (stU σ 23 3 x) ++ r := rfl
theorem sB_23_4 {γ : Gd} {h : Nat → Nat} {σ : St} {r : va_W} {x : Int32} : (wB γ h σ ++ r).set 23 (h 23, .inr (1, ([.int (σ 23 0), .int (σ 23 1), .int (σ 23 2), .int (σ 23 3), .int (σ 23 4), .int (σ 23 5), .int (σ 23 6)] : List Value).set 4 (.int x))) = wB γ h (stU σ 23 4 x) ++ r := rfl
theorem sB_23_5 {γ : Gd} {h : Nat → Nat} {σ : St} {r : va_W} {x : Int32} : (wB γ h σ ++ r).set 23 (h 23, .inr (1, ([.int (σ 23 0), .int (σ 23 1), .int (σ 23 2), .int (σ 23 3), .int (σ 23 4), .int (σ 23 5), .int (σ 23 6)] : List Value).set 5 (.int x))) = wB γ h (stU σ 23 5 x) ++ r := rfl
theorem sB_23_6 {γ : Gd} {h : Nat → Nat} {σ : St} {r : va_W} {x : Int32} : (wB γ h σ ++ r).set 23 (h 23, .inr (1, ([.int (σ 23 0), .int (σ 23 1), .int (σ 23 2), .int (σ 23 3), .int (σ 23 4), .int (σ 23 5), .int (σ 23 6)] : List Value).set 6 (.int x))) = wB γ h (stU σ 23 6 x) ++ r := rfl
theorem sB_24 {γ : Gd} {h : Nat → Nat} {σ : St} {r : va_W} {i : Nat} {x : Int32} : (wB γ h σ ++ r).set 24 (h 24, .inl (γ.2.1.1, 24, .inl (upd (σ 24) i x))) = wB γ h (stU σ 24 i x) ++ r := rfl
theorem cB_24 {γ : Gd} {h : Nat → Nat} {σ : St} {r : va_W} {f : Nat → Int32} : (wB γ h σ ++ r).set 24 (h 24, .inl (γ.2.1.1, 24, .inl f)) = wB γ h (stC σ 24 f) ++ r := rfl
theorem sB_25 {γ : Gd} {h : Nat → Nat} {σ : St} {r : va_W} {i : Nat} {x : Int32} : (wB γ h σ ++ r).set 25 (h 25, .inl (γ.2.1.1, 24, .inl (upd (σ 25) i x))) = wB γ h (stU σ 25 i x) ++ r := rfl
theorem cB_25 {γ : Gd} {h : Nat → Nat} {σ : St} {r : va_W} {f : Nat → Int32} : (wB γ h σ ++ r).set 25 (h 25, .inl (γ.2.1.1, 24, .inl f)) = wB γ h (stC σ 25 f) ++ r := rfl
def wD (γ : Gd) (a : Nat → Nat) (δ : St) : va_W := [(a 0, .inr (3, [.int (δ 0 0), .ref (a 1), .ref (a 2), .int (δ 0 3)])), (a 1, .inl (γ.2.1.1, 2, .inl (δ 1))), (a 2, .inl (γ.2.1.1, 6, .inl (δ 2)))]
theorem sD_0_0 {γ : Gd} {a : Nat → Nat} {δ : St} {r : va_W} {x : Int32} : (wD γ a δ ++ r).set 0 (a 0, .inr (3, ([.int (δ 0 0), .ref (a 1), .ref (a 2), .int (δ 0 3)] : List Value).set 0 (.int x))) = wD γ a (stU δ 0 0 x) ++ r := rfl
theorem sD_0_3 {γ : Gd} {a : Nat → Nat} {δ : St} {r : va_W} {x : Int32} : (wD γ a δ ++ r).set 0 (a 0, .inr (3, ([.int (δ 0 0), .ref (a 1), .ref (a 2), .int (δ 0 3)] : List Value).set 3 (.int x))) = wD γ a (stU δ 0 3 x) ++ r := rfl
theorem sD_1 {γ : Gd} {a : Nat → Nat} {δ : St} {r : va_W} {i : Nat} {x : Int32} : (wD γ a δ ++ r).set 1 (a 1, .inl (γ.2.1.1, 2, .inl (upd (δ 1) i x))) = wD γ a (stU δ 1 i x) ++ r := rfl
theorem cD_1 {γ : Gd} {a : Nat → Nat} {δ : St} {r : va_W} {f : Nat → Int32} : (wD γ a δ ++ r).set 1 (a 1, .inl (γ.2.1.1, 2, .inl f)) = wD γ a (stC δ 1 f) ++ r := rfl
theorem sD_2 {γ : Gd} {a : Nat → Nat} {δ : St} {r : va_W} {i : Nat} {x : Int32} : (wD γ a δ ++ r).set 2 (a 2, .inl (γ.2.1.1, 6, .inl (upd (δ 2) i x))) = wD γ a (stU δ 2 i x) ++ r := rfl
theorem cD_2 {γ : Gd} {a : Nat → Nat} {δ : St} {r : va_W} {f : Nat → Int32} : (wD γ a δ ++ r).set 2 (a 2, .inl (γ.2.1.1, 6, .inl f)) = wD γ a (stC δ 2 f) ++ r := rfl
def wP (γ : Gd) (a : Nat → Nat) (π : St × Int64) : va_W := [(a 0, .inr (6, [.int (π.1 0 0), .int (π.1 0 1), .int (π.1 0 2), .long π.2, .ref (a 1)])), (a 1, .inl (γ.2.1.1, 20, .inl (π.1 1)))]
theorem sP_0_0 {γ : Gd} {a : Nat → Nat} {π : St × Int64} {r : va_W} {x : Int32} : (wP γ a π ++ r).set 0 (a 0, .inr (6, ([.int (π.1 0 0), .int (π.1 0 1), .int (π.1 0 2), .long π.2, .ref (a 1)] : List Value).set 0 (.int x))) = wP γ a (stU π.1 0 0 x, π.2) ++ r := rfl
theorem sP_0_1 {γ : Gd} {a : Nat → Nat} {π : St × Int64} {r : va_W} {x : Int32} : (wP γ a π ++ r).set 0 (a 0, .inr (6, ([.int (π.1 0 0), .int (π.1 0 1), .int (π.1 0 2), .long π.2, .ref (a 1)] : List Value).set 1 (.int x))) = wP γ a (stU π.1 0 1 x, π.2) ++ r := rfl
theorem sP_0_2 {γ : Gd} {a : Nat → Nat} {π : St × Int64} {r : va_W} {x : Int32} : (wP γ a π ++ r).set 0 (a 0, .inr (6, ([.int (π.1 0 0), .int (π.1 0 1), .int (π.1 0 2), .long π.2, .ref (a 1)] : List Value).set 2 (.int x))) = wP γ a (stU π.1 0 2 x, π.2) ++ r := rfl
theorem sP_0_3 {γ : Gd} {a : Nat → Nat} {π : St × Int64} {r : va_W} {x : Int64} : (wP γ a π ++ r).set 0 (a 0, .inr (6, ([.int (π.1 0 0), .int (π.1 0 1), .int (π.1 0 2), .long π.2, .ref (a 1)] : List Value).set 3 (.long x))) = wP γ a (π.1, x) ++ r := rfl
theorem sP_1 {γ : Gd} {a : Nat → Nat} {π : St × Int64} {r : va_W} {i : Nat} {x : Int32} : (wP γ a π ++ r).set 1 (a 1, .inl (γ.2.1.1, 20, .inl (upd (π.1 1) i x))) = wP γ a (stU π.1 1 i x, π.2) ++ r := rfl
def wN (a b : Nat) (ν : Nat → Int32) : va_W := [(a, .inr (5, [.ref b, .int (ν 1), .int (ν 2), .int (ν 3), .int (ν 4)]))]
def wR (a b : Nat) : va_W := [(a, .inr (7, [.ref b]))]
def wS (s b t n q d p : Nat) : va_W := [(s, .inr (9, [.ref b, .ref t, .ref n, .ref q, .ref d, .ref p]))]

