/-! THE CELLS as the constructors lay them (written by gen3.py); calls at fixed cells -/
def vS0 : List vSh := [.inl 10, .inl 0, .inr (0, 4), .inr (3, 8), .inr (0, 4), .inr (0, 4), .inr (0, 4), .inr (0, 4), .inr (0, 4), .inr (0, 4), .inr (0, 4), .inr (0, 4), .inr (0, 4), .inl 6, .inr (4, 13), .inr (1, 5), .inr (1, 5), .inr (1, 5), .inr (1, 5), .inr (1, 5), .inr (1, 5), .inr (1, 5), .inr (1, 5), .inr (1, 5), .inr (1, 5), .inr (1, 5), .inr (1, 5), .inr (1, 5), .inl 3, .inr (0, 10), .inl 4, .inr (0, 2), .inr (0, 2), .inr (4, 7), .inr (1, 13), .inr (1, 13), .inr (1, 13), .inr (1, 13), .inr (1, 13), .inr (1, 13), .inr (1, 13), .inr (3, 7), .inr (0, 52), .inr (0, 52), .inr (0, 52), .inr (0, 52), .inr (0, 52), .inr (0, 52), .inr (0, 52), .inl 7, .inr (0, 4), .inr (0, 4), .inr (0, 5), .inl 1, .inr (0, 2), .inr (0, 2), .inl 2, .inr (2, 120), .inr (5, 8), .inr (2, 120), .inr (2, 120), .inr (2, 120), .inr (2, 120), .inr (2, 120), .inr (2, 120), .inr (2, 120), .inr (2, 120), .inr (0, 8), .inl 5, .inr (2, 0), .inl 9, .inr (0, 60), .inr (0, 60), .inr (0, 60), .inr (0, 60), .inr (0, 60), .inr (0, 60), .inl 8, .inr (0, 4), .inr (0, 4), .inr (0, 4), .inl 11, .inr (0, 4), .inr (0, 48), .inr (0, 4), .inr (0, 4), .inr (0, 4), .inr (1, 60), .inr (0, 4), .inr (1, 16), .inr (1, 5), .inr (1, 5), .inr (1, 5), .inr (1, 5), .inr (0, 3), .inr (0, 3), .inr (0, 10), .inr (0, 6), .inr (0, 2), .inr (0, 2), .inr (1, 91), .inr (0, 364), .inr (0, 4), .inr (0, 4), .inr (0, 5), .inr (0, 2), .inr (0, 2), .inr (0, 8), .inr (0, 960), .inr (0, 120), .inr (0, 130), .inr (1, 130), .inr (0, 60), .inr (0, 60), .inr (0, 60), .inr (0, 60), .inr (0, 60), .inr (0, 60)]
/-- the references that never change: cell, slot, cell -/
def vRefT : List (Nat × Nat × Int) := [(0, 0, 1), (0, 1, 13), (0, 2, 28), (0, 3, 30), (0, 4, 49), (0, 5, 53), (0, 6, 56), (0, 7, 70), (0, 8, 77), (0, 9, 78), (0, 10, 79), (0, 11, 80), (1, 1, 2), (1, 2, 3), (1, 3, 12), (13, 0, 14), (28, 0, 29), (30, 0, 31), (30, 1, 32), (30, 2, 33), (30, 3, 41), (49, 0, 50), (49, 1, 51), (49, 2, 52), (53, 0, 54), (53, 1, 55), (56, 0, 57), (56, 1, 58), (56, 2, 67), (56, 3, 68), (70, 0, 71), (70, 1, 72), (70, 2, 73), (70, 3, 74), (70, 4, 75), (70, 5, 76), (81, 2, 82), (81, 3, 83), (81, 4, 84), (81, 5, 85), (81, 7, 86), (81, 8, 87), (81, 10, 88), (81, 11, 89), (81, 12, 90), (81, 13, 91), (81, 16, 92), (81, 17, 93), (81, 20, 94), (81, 21, 95), (81, 24, 96), (81, 25, 97), (81, 26, 98), (81, 27, 99), (81, 29, 100), (81, 30, 101), (81, 32, 102), (81, 33, 103), (81, 34, 104), (81, 36, 105), (81, 37, 106), (81, 39, 107), (81, 40, 108), (81, 41, 109), (81, 43, 110), (81, 47, 111), (81, 50, 112), (81, 51, 113), (81, 52, 114), (81, 53, 115), (81, 54, 116), (81, 55, 117)]
def vRefs (M : vM) : Prop := (∀ q ∈ vRefT, M q.1 q.2.1 = q.2.2) ∧ (∀ i, i < 8 → M 3 i = ((4 + i : Nat) : Int)) ∧ (∀ i, i < 13 → M 14 i = ((15 + i : Nat) : Int)) ∧ (∀ i, i < 7 → M 33 i = ((34 + i : Nat) : Int)) ∧ (∀ i, i < 7 → M 41 i = ((42 + i : Nat) : Int)) ∧ (∀ i, i < 8 → M 58 i = ((59 + i : Nat) : Int))
/-- cells that hold no such reference -/
def vFree (a : Nat) : Prop := a ∉ [3, 14, 33, 41, 58] ∧ ∀ q ∈ vRefT, q.1 ≠ a
theorem vRefs_up {M : vM} {a k : Nat} {x : Int} (h : vRefs M) (h1 : a ∉ [3, 14, 33, 41, 58] ∧ ∀ q ∈ vRefT, ¬ (q.1 = a ∧ q.2.1 = k)) : vRefs (vm_up M a k x) := by
  have e : ∀ b, b ∈ [3, 14, 33, 41, 58] → vm_up M a k x b = M b := fun b hb => vm_up_o (fun q => h1.1 (by rw [← q]; exact hb))
  refine ⟨fun q hq => ?_, ?_, ?_, ?_, ?_, ?_⟩
  · have := h1.2 q hq
    unfold vm_up
    rw [if_neg this]
    exact h.1 q hq
  · rw [e 3 (by decide)]; exact h.2.1
  · rw [e 14 (by decide)]; exact h.2.2.1
  · rw [e 33 (by decide)]; exact h.2.2.2.1
  · rw [e 41 (by decide)]; exact h.2.2.2.2.1
  · rw [e 58 (by decide)]; exact h.2.2.2.2.2
theorem vRefs_free {M : vM} {a k : Nat} {x : Int} (h : vRefs M) (h1 : vFree a) : vRefs (vm_up M a k x) := vRefs_up h ⟨h1.1, fun q hq e => h1.2 q hq e.1⟩
/-- rows of an array of arrays -/
theorem vrow_3 {M : vM} {i : Int} (h : vRefs M) (hi : 0 ≤ i ∧ i < (8 : Nat)) : M 3 i.toNat = ((4 + i.toNat : Nat) : Int) := h.2.1 _ (by omega)
theorem vrow_14 {M : vM} {i : Int} (h : vRefs M) (hi : 0 ≤ i ∧ i < (13 : Nat)) : M 14 i.toNat = ((15 + i.toNat : Nat) : Int) := h.2.2.1 _ (by omega)
theorem vrow_33 {M : vM} {i : Int} (h : vRefs M) (hi : 0 ≤ i ∧ i < (7 : Nat)) : M 33 i.toNat = ((34 + i.toNat : Nat) : Int) := h.2.2.2.1 _ (by omega)
theorem vrow_41 {M : vM} {i : Int} (h : vRefs M) (hi : 0 ≤ i ∧ i < (7 : Nat)) : M 41 i.toNat = ((42 + i.toNat : Nat) : Int) := h.2.2.2.2.1 _ (by omega)
theorem vrow_58 {M : vM} {i : Int} (h : vRefs M) (hi : 0 ≤ i ∧ i < (8 : Nat)) : M 58 i.toNat = ((59 + i.toNat : Nat) : Int) := h.2.2.2.2.2 _ (by omega)
theorem vrs_3 {i : Int} (hi : 0 ≤ i ∧ i < (8 : Nat)) : vS0[4 + i.toNat]? = some (.inr (0, 4)) := by
  rcases (show i.toNat = 0 ∨ i.toNat = 1 ∨ i.toNat = 2 ∨ i.toNat = 3 ∨ i.toNat = 4 ∨ i.toNat = 5 ∨ i.toNat = 6 ∨ i.toNat = 7 by omega) with h | h | h | h | h | h | h | h <;> (rw [h]; rfl)
theorem vfr_3 {i : Int} (hi : 0 ≤ i ∧ i < (8 : Nat)) : vFree (4 + i.toNat) := by
  rcases (show i.toNat = 0 ∨ i.toNat = 1 ∨ i.toNat = 2 ∨ i.toNat = 3 ∨ i.toNat = 4 ∨ i.toNat = 5 ∨ i.toNat = 6 ∨ i.toNat = 7 by omega) with h | h | h | h | h | h | h | h <;> (rw [h]; exact ⟨by decide, by decide⟩)
theorem vrs_14 {i : Int} (hi : 0 ≤ i ∧ i < (13 : Nat)) : vS0[15 + i.toNat]? = some (.inr (1, 5)) := by
  rcases (show i.toNat = 0 ∨ i.toNat = 1 ∨ i.toNat = 2 ∨ i.toNat = 3 ∨ i.toNat = 4 ∨ i.toNat = 5 ∨ i.toNat = 6 ∨ i.toNat = 7 ∨ i.toNat = 8 ∨ i.toNat = 9 ∨ i.toNat = 10 ∨ i.toNat = 11 ∨ i.toNat = 12 by omega) with h | h | h | h | h | h | h | h | h | h | h | h | h <;> (rw [h]; rfl)
theorem vfr_14 {i : Int} (hi : 0 ≤ i ∧ i < (13 : Nat)) : vFree (15 + i.toNat) := by
  rcases (show i.toNat = 0 ∨ i.toNat = 1 ∨ i.toNat = 2 ∨ i.toNat = 3 ∨ i.toNat = 4 ∨ i.toNat = 5 ∨ i.toNat = 6 ∨ i.toNat = 7 ∨ i.toNat = 8 ∨ i.toNat = 9 ∨ i.toNat = 10 ∨ i.toNat = 11 ∨ i.toNat = 12 by omega) with h | h | h | h | h | h | h | h | h | h | h | h | h <;> (rw [h]; exact ⟨by decide, by decide⟩)
theorem vrs_33 {i : Int} (hi : 0 ≤ i ∧ i < (7 : Nat)) : vS0[34 + i.toNat]? = some (.inr (1, 13)) := by
  rcases (show i.toNat = 0 ∨ i.toNat = 1 ∨ i.toNat = 2 ∨ i.toNat = 3 ∨ i.toNat = 4 ∨ i.toNat = 5 ∨ i.toNat = 6 by omega) with h | h | h | h | h | h | h <;> (rw [h]; rfl)
theorem vfr_33 {i : Int} (hi : 0 ≤ i ∧ i < (7 : Nat)) : vFree (34 + i.toNat) := by
  rcases (show i.toNat = 0 ∨ i.toNat = 1 ∨ i.toNat = 2 ∨ i.toNat = 3 ∨ i.toNat = 4 ∨ i.toNat = 5 ∨ i.toNat = 6 by omega) with h | h | h | h | h | h | h <;> (rw [h]; exact ⟨by decide, by decide⟩)
theorem vrs_41 {i : Int} (hi : 0 ≤ i ∧ i < (7 : Nat)) : vS0[42 + i.toNat]? = some (.inr (0, 52)) := by
  rcases (show i.toNat = 0 ∨ i.toNat = 1 ∨ i.toNat = 2 ∨ i.toNat = 3 ∨ i.toNat = 4 ∨ i.toNat = 5 ∨ i.toNat = 6 by omega) with h | h | h | h | h | h | h <;> (rw [h]; rfl)
theorem vfr_41 {i : Int} (hi : 0 ≤ i ∧ i < (7 : Nat)) : vFree (42 + i.toNat) := by
  rcases (show i.toNat = 0 ∨ i.toNat = 1 ∨ i.toNat = 2 ∨ i.toNat = 3 ∨ i.toNat = 4 ∨ i.toNat = 5 ∨ i.toNat = 6 by omega) with h | h | h | h | h | h | h <;> (rw [h]; exact ⟨by decide, by decide⟩)
theorem vrs_58 {i : Int} (hi : 0 ≤ i ∧ i < (8 : Nat)) : vS0[59 + i.toNat]? = some (.inr (2, 120)) := by
  rcases (show i.toNat = 0 ∨ i.toNat = 1 ∨ i.toNat = 2 ∨ i.toNat = 3 ∨ i.toNat = 4 ∨ i.toNat = 5 ∨ i.toNat = 6 ∨ i.toNat = 7 by omega) with h | h | h | h | h | h | h | h <;> (rw [h]; rfl)
theorem vfr_58 {i : Int} (hi : 0 ≤ i ∧ i < (8 : Nat)) : vFree (59 + i.toNat) := by
  rcases (show i.toNat = 0 ∨ i.toNat = 1 ∨ i.toNat = 2 ∨ i.toNat = 3 ∨ i.toNat = 4 ∨ i.toNat = 5 ∨ i.toNat = 6 ∨ i.toNat = 7 by omega) with h | h | h | h | h | h | h | h <;> (rw [h]; exact ⟨by decide, by decide⟩)
theorem rf_0_0 {M : vM} (h : vRefs M) : M 0 0 = 1 := h.1 (0, 0, 1) (List.mem_of_getElem? (i := 0) rfl)
theorem rf_0_1 {M : vM} (h : vRefs M) : M 0 1 = 13 := h.1 (0, 1, 13) (List.mem_of_getElem? (i := 1) rfl)
theorem rf_0_2 {M : vM} (h : vRefs M) : M 0 2 = 28 := h.1 (0, 2, 28) (List.mem_of_getElem? (i := 2) rfl)
theorem rf_0_3 {M : vM} (h : vRefs M) : M 0 3 = 30 := h.1 (0, 3, 30) (List.mem_of_getElem? (i := 3) rfl)
theorem rf_0_4 {M : vM} (h : vRefs M) : M 0 4 = 49 := h.1 (0, 4, 49) (List.mem_of_getElem? (i := 4) rfl)
theorem rf_0_5 {M : vM} (h : vRefs M) : M 0 5 = 53 := h.1 (0, 5, 53) (List.mem_of_getElem? (i := 5) rfl)
theorem rf_0_6 {M : vM} (h : vRefs M) : M 0 6 = 56 := h.1 (0, 6, 56) (List.mem_of_getElem? (i := 6) rfl)
theorem rf_0_7 {M : vM} (h : vRefs M) : M 0 7 = 70 := h.1 (0, 7, 70) (List.mem_of_getElem? (i := 7) rfl)
theorem rf_0_8 {M : vM} (h : vRefs M) : M 0 8 = 77 := h.1 (0, 8, 77) (List.mem_of_getElem? (i := 8) rfl)
theorem rf_0_9 {M : vM} (h : vRefs M) : M 0 9 = 78 := h.1 (0, 9, 78) (List.mem_of_getElem? (i := 9) rfl)
theorem rf_0_10 {M : vM} (h : vRefs M) : M 0 10 = 79 := h.1 (0, 10, 79) (List.mem_of_getElem? (i := 10) rfl)
theorem rf_0_11 {M : vM} (h : vRefs M) : M 0 11 = 80 := h.1 (0, 11, 80) (List.mem_of_getElem? (i := 11) rfl)
theorem rf_1_1 {M : vM} (h : vRefs M) : M 1 1 = 2 := h.1 (1, 1, 2) (List.mem_of_getElem? (i := 12) rfl)
theorem rf_1_2 {M : vM} (h : vRefs M) : M 1 2 = 3 := h.1 (1, 2, 3) (List.mem_of_getElem? (i := 13) rfl)
theorem rf_1_3 {M : vM} (h : vRefs M) : M 1 3 = 12 := h.1 (1, 3, 12) (List.mem_of_getElem? (i := 14) rfl)
theorem rf_13_0 {M : vM} (h : vRefs M) : M 13 0 = 14 := h.1 (13, 0, 14) (List.mem_of_getElem? (i := 15) rfl)
theorem rf_28_0 {M : vM} (h : vRefs M) : M 28 0 = 29 := h.1 (28, 0, 29) (List.mem_of_getElem? (i := 16) rfl)
theorem rf_30_0 {M : vM} (h : vRefs M) : M 30 0 = 31 := h.1 (30, 0, 31) (List.mem_of_getElem? (i := 17) rfl)
theorem rf_30_1 {M : vM} (h : vRefs M) : M 30 1 = 32 := h.1 (30, 1, 32) (List.mem_of_getElem? (i := 18) rfl)
theorem rf_30_2 {M : vM} (h : vRefs M) : M 30 2 = 33 := h.1 (30, 2, 33) (List.mem_of_getElem? (i := 19) rfl)
theorem rf_30_3 {M : vM} (h : vRefs M) : M 30 3 = 41 := h.1 (30, 3, 41) (List.mem_of_getElem? (i := 20) rfl)
theorem rf_49_0 {M : vM} (h : vRefs M) : M 49 0 = 50 := h.1 (49, 0, 50) (List.mem_of_getElem? (i := 21) rfl)
theorem rf_49_1 {M : vM} (h : vRefs M) : M 49 1 = 51 := h.1 (49, 1, 51) (List.mem_of_getElem? (i := 22) rfl)
theorem rf_49_2 {M : vM} (h : vRefs M) : M 49 2 = 52 := h.1 (49, 2, 52) (List.mem_of_getElem? (i := 23) rfl)
theorem rf_53_0 {M : vM} (h : vRefs M) : M 53 0 = 54 := h.1 (53, 0, 54) (List.mem_of_getElem? (i := 24) rfl)
theorem rf_53_1 {M : vM} (h : vRefs M) : M 53 1 = 55 := h.1 (53, 1, 55) (List.mem_of_getElem? (i := 25) rfl)
theorem rf_56_0 {M : vM} (h : vRefs M) : M 56 0 = 57 := h.1 (56, 0, 57) (List.mem_of_getElem? (i := 26) rfl)
theorem rf_56_1 {M : vM} (h : vRefs M) : M 56 1 = 58 := h.1 (56, 1, 58) (List.mem_of_getElem? (i := 27) rfl)
theorem rf_56_2 {M : vM} (h : vRefs M) : M 56 2 = 67 := h.1 (56, 2, 67) (List.mem_of_getElem? (i := 28) rfl)
theorem rf_56_3 {M : vM} (h : vRefs M) : M 56 3 = 68 := h.1 (56, 3, 68) (List.mem_of_getElem? (i := 29) rfl)
theorem rf_70_0 {M : vM} (h : vRefs M) : M 70 0 = 71 := h.1 (70, 0, 71) (List.mem_of_getElem? (i := 30) rfl)
theorem rf_70_1 {M : vM} (h : vRefs M) : M 70 1 = 72 := h.1 (70, 1, 72) (List.mem_of_getElem? (i := 31) rfl)
theorem rf_70_2 {M : vM} (h : vRefs M) : M 70 2 = 73 := h.1 (70, 2, 73) (List.mem_of_getElem? (i := 32) rfl)
theorem rf_70_3 {M : vM} (h : vRefs M) : M 70 3 = 74 := h.1 (70, 3, 74) (List.mem_of_getElem? (i := 33) rfl)
theorem rf_70_4 {M : vM} (h : vRefs M) : M 70 4 = 75 := h.1 (70, 4, 75) (List.mem_of_getElem? (i := 34) rfl)
theorem rf_70_5 {M : vM} (h : vRefs M) : M 70 5 = 76 := h.1 (70, 5, 76) (List.mem_of_getElem? (i := 35) rfl)
theorem rf_81_2 {M : vM} (h : vRefs M) : M 81 2 = 82 := h.1 (81, 2, 82) (List.mem_of_getElem? (i := 36) rfl)
theorem rf_81_3 {M : vM} (h : vRefs M) : M 81 3 = 83 := h.1 (81, 3, 83) (List.mem_of_getElem? (i := 37) rfl)
theorem rf_81_4 {M : vM} (h : vRefs M) : M 81 4 = 84 := h.1 (81, 4, 84) (List.mem_of_getElem? (i := 38) rfl)
theorem rf_81_5 {M : vM} (h : vRefs M) : M 81 5 = 85 := h.1 (81, 5, 85) (List.mem_of_getElem? (i := 39) rfl)
theorem rf_81_7 {M : vM} (h : vRefs M) : M 81 7 = 86 := h.1 (81, 7, 86) (List.mem_of_getElem? (i := 40) rfl)
theorem rf_81_8 {M : vM} (h : vRefs M) : M 81 8 = 87 := h.1 (81, 8, 87) (List.mem_of_getElem? (i := 41) rfl)
theorem rf_81_10 {M : vM} (h : vRefs M) : M 81 10 = 88 := h.1 (81, 10, 88) (List.mem_of_getElem? (i := 42) rfl)
theorem rf_81_11 {M : vM} (h : vRefs M) : M 81 11 = 89 := h.1 (81, 11, 89) (List.mem_of_getElem? (i := 43) rfl)
theorem rf_81_12 {M : vM} (h : vRefs M) : M 81 12 = 90 := h.1 (81, 12, 90) (List.mem_of_getElem? (i := 44) rfl)
theorem rf_81_13 {M : vM} (h : vRefs M) : M 81 13 = 91 := h.1 (81, 13, 91) (List.mem_of_getElem? (i := 45) rfl)
theorem rf_81_16 {M : vM} (h : vRefs M) : M 81 16 = 92 := h.1 (81, 16, 92) (List.mem_of_getElem? (i := 46) rfl)
theorem rf_81_17 {M : vM} (h : vRefs M) : M 81 17 = 93 := h.1 (81, 17, 93) (List.mem_of_getElem? (i := 47) rfl)
theorem rf_81_20 {M : vM} (h : vRefs M) : M 81 20 = 94 := h.1 (81, 20, 94) (List.mem_of_getElem? (i := 48) rfl)
theorem rf_81_21 {M : vM} (h : vRefs M) : M 81 21 = 95 := h.1 (81, 21, 95) (List.mem_of_getElem? (i := 49) rfl)
theorem rf_81_24 {M : vM} (h : vRefs M) : M 81 24 = 96 := h.1 (81, 24, 96) (List.mem_of_getElem? (i := 50) rfl)
theorem rf_81_25 {M : vM} (h : vRefs M) : M 81 25 = 97 := h.1 (81, 25, 97) (List.mem_of_getElem? (i := 51) rfl)
theorem rf_81_26 {M : vM} (h : vRefs M) : M 81 26 = 98 := h.1 (81, 26, 98) (List.mem_of_getElem? (i := 52) rfl)
theorem rf_81_27 {M : vM} (h : vRefs M) : M 81 27 = 99 := h.1 (81, 27, 99) (List.mem_of_getElem? (i := 53) rfl)
theorem rf_81_29 {M : vM} (h : vRefs M) : M 81 29 = 100 := h.1 (81, 29, 100) (List.mem_of_getElem? (i := 54) rfl)
theorem rf_81_30 {M : vM} (h : vRefs M) : M 81 30 = 101 := h.1 (81, 30, 101) (List.mem_of_getElem? (i := 55) rfl)
theorem rf_81_32 {M : vM} (h : vRefs M) : M 81 32 = 102 := h.1 (81, 32, 102) (List.mem_of_getElem? (i := 56) rfl)
theorem rf_81_33 {M : vM} (h : vRefs M) : M 81 33 = 103 := h.1 (81, 33, 103) (List.mem_of_getElem? (i := 57) rfl)
theorem rf_81_34 {M : vM} (h : vRefs M) : M 81 34 = 104 := h.1 (81, 34, 104) (List.mem_of_getElem? (i := 58) rfl)
theorem rf_81_36 {M : vM} (h : vRefs M) : M 81 36 = 105 := h.1 (81, 36, 105) (List.mem_of_getElem? (i := 59) rfl)
theorem rf_81_37 {M : vM} (h : vRefs M) : M 81 37 = 106 := h.1 (81, 37, 106) (List.mem_of_getElem? (i := 60) rfl)
theorem rf_81_39 {M : vM} (h : vRefs M) : M 81 39 = 107 := h.1 (81, 39, 107) (List.mem_of_getElem? (i := 61) rfl)
theorem rf_81_40 {M : vM} (h : vRefs M) : M 81 40 = 108 := h.1 (81, 40, 108) (List.mem_of_getElem? (i := 62) rfl)
theorem rf_81_41 {M : vM} (h : vRefs M) : M 81 41 = 109 := h.1 (81, 41, 109) (List.mem_of_getElem? (i := 63) rfl)
theorem rf_81_43 {M : vM} (h : vRefs M) : M 81 43 = 110 := h.1 (81, 43, 110) (List.mem_of_getElem? (i := 64) rfl)
theorem rf_81_47 {M : vM} (h : vRefs M) : M 81 47 = 111 := h.1 (81, 47, 111) (List.mem_of_getElem? (i := 65) rfl)
theorem rf_81_50 {M : vM} (h : vRefs M) : M 81 50 = 112 := h.1 (81, 50, 112) (List.mem_of_getElem? (i := 66) rfl)
theorem rf_81_51 {M : vM} (h : vRefs M) : M 81 51 = 113 := h.1 (81, 51, 113) (List.mem_of_getElem? (i := 67) rfl)
theorem rf_81_52 {M : vM} (h : vRefs M) : M 81 52 = 114 := h.1 (81, 52, 114) (List.mem_of_getElem? (i := 68) rfl)
theorem rf_81_53 {M : vM} (h : vRefs M) : M 81 53 = 115 := h.1 (81, 53, 115) (List.mem_of_getElem? (i := 69) rfl)
theorem rf_81_54 {M : vM} (h : vRefs M) : M 81 54 = 116 := h.1 (81, 54, 116) (List.mem_of_getElem? (i := 70) rfl)
theorem rf_81_55 {M : vM} (h : vRefs M) : M 81 55 = 117 := h.1 (81, 55, 117) (List.mem_of_getElem? (i := 71) rfl)
def vP (Q : Option vV → vM → Prop) : Option vV → vH → Prop := fun r hp1 => ∃ M1, hp1 = (vS0, M1) ∧ Q r M1
abbrev vw (X : vX) (d j pc : Nat) (ls st : List vV) (M : vM) (Q : Option vV → vM → Prop) : Prop := wp X d j pc ls st (vS0, M) (vP Q)
def cq (X : vX) (d j : Nat) (as : List vV) (M : vM) (Q : Option vV → vM → Prop) : Prop := wc X d j as (vS0, M) (vP Q)
theorem cq.deep {X : vX} {d d' j : Nat} {as : List vV} {M : vM} {Q : Option vV → vM → Prop} (hd : d ≤ d') (h : cq X d j as M Q) : cq X d' j as M Q := wc.deep hd h
theorem cq.mono {X : vX} {d j : Nat} {as : List vV} {M : vM} {Q Q' : Option vV → vM → Prop} (h : cq X d j as M Q) (hQ : ∀ r M1, Q r M1 → Q' r M1) : cq X d j as M Q' := wc.mono h (fun r hp1 q => by obtain ⟨M1, h1, h2⟩ := q; exact ⟨M1, h1, hQ _ _ h2⟩)
theorem cq.cl {X : vX} {d j j' pc : Nat} {as ls st : List vV} {M : vM} {P : Option vV → vH → Prop} (h : cq X d j' as M (fun r M1 => wp X d j (pc + 3) ls (r.toList ++ st) (vS0, M1) P)) : wc X d j' as (vS0, M) (fun r hp1 => (vS0.length ≤ hp1.1.length ∧ vm_sz vS0 ≤ vm_sz hp1.1) ∧ wp X d j (pc + 3) ls (r.toList ++ st) hp1 P) := wc.mono h (fun r hp1 q => by
  obtain ⟨M1, rfl, h2⟩ := q
  exact ⟨⟨Nat.le_refl _, Nat.le_refl _⟩, h2⟩)
section VB
variable {X : vX} {d j pc pc2 : Nat} {ls ls' st : List vV} {S : List vSh} {M : vM} {P : Option vV → vH → Prop}
theorem w_istoreE {k0 : Nat} {x : Int} (hd : decode (vm_cd j) pc = .ok (.istore k0, 2)) (hk : (k0 : Nat) < ls.length) (hl : vm_put1 ls k0 (vI x) = ls') (k : wp X d j (pc + 2) ls' st (S, M) P) : wp X d j pc ls (vI x :: st) (S, M) P := w_istore hd hk (by rw [hl]; exact k)
theorem w_istore_nE {k0 : Fin 4} {x : Int} (hd : decode (vm_cd j) pc = .ok (.istore_n k0, 1)) (hk : (k0 : Nat) < ls.length) (hl : vm_put1 ls k0 (vI x) = ls') (k : wp X d j (pc + 1) ls' st (S, M) P) : wp X d j pc ls (vI x :: st) (S, M) P := w_istore_n hd hk (by rw [hl]; exact k)
theorem w_lstoreE {k0 : Nat} {x : Int} (hd : decode (vm_cd j) pc = .ok (.lstore k0, 2)) (hk : (k0 : Nat) + 1 < ls.length) (hl : vm_put2 ls k0 (vL x) = ls') (k : wp X d j (pc + 2) ls' st (S, M) P) : wp X d j pc ls (vL x :: st) (S, M) P := w_lstore hd hk (by rw [hl]; exact k)
theorem w_lstore_nE {k0 : Fin 4} {x : Int} (hd : decode (vm_cd j) pc = .ok (.lstore_n k0, 1)) (hk : (k0 : Nat) + 1 < ls.length) (hl : vm_put2 ls k0 (vL x) = ls') (k : wp X d j (pc + 1) ls' st (S, M) P) : wp X d j pc ls (vL x :: st) (S, M) P := w_lstore_n hd hk (by rw [hl]; exact k)
theorem w_astoreE {k0 : Nat} {x : Int} (hd : decode (vm_cd j) pc = .ok (.astore k0, 2)) (hk : (k0 : Nat) < ls.length) (hl : vm_put1 ls k0 (vR x) = ls') (k : wp X d j (pc + 2) ls' st (S, M) P) : wp X d j pc ls (vR x :: st) (S, M) P := w_astore hd hk (by rw [hl]; exact k)
theorem w_astore_nE {k0 : Fin 4} {x : Int} (hd : decode (vm_cd j) pc = .ok (.astore_n k0, 1)) (hk : (k0 : Nat) < ls.length) (hl : vm_put1 ls k0 (vR x) = ls') (k : wp X d j (pc + 1) ls' st (S, M) P) : wp X d j pc ls (vR x :: st) (S, M) P := w_astore_n hd hk (by rw [hl]; exact k)
theorem w_iincE {k0 : Nat} {n x : Int} (hd : decode (vm_cd j) pc = .ok (.iinc k0 n, 3)) (hx : ls[k0]? = some (vI x)) (hl : vm_put1 ls k0 (vI (w32 (x + n))) = ls') (k : wp X d j (pc + 3) ls' st (S, M) P) : wp X d j pc ls st (S, M) P := w_iinc hd hx (by rw [hl]; exact k)
theorem w_aaldE {r i : Int} {a b t n : Nat} (hd : decode (vm_cd j) pc = .ok (.aaload, 1)) (hr : r = (a : Int)) (ho : S[a]? = some (.inr (t, n))) (ht : t = 3 ∨ t = 4 ∨ t = 5) (hi : 0 ≤ i ∧ i < n) (hb : M a i.toNat = (b : Int)) (k : wp X d j (pc + 1) ls (vR (b : Int) :: st) (S, M) P) : wp X d j pc ls (vI i :: vR r :: st) (S, M) P := w_aald hd hr ho ht hi (by rw [hb]; exact k)
theorem w_lc_eq {x y off : Int} {tgt : Nat} (hd0 : decode (vm_cd j) pc = .ok (.lcmp, 1)) (hd : decode (vm_cd j) (pc + 1) = .ok (.ifCond .eq off, 3)) (ht : ((pc + 1 : Nat) : Int) + off = tgt) (k1 : x = y → wp X d j tgt ls st (S, M) P) (k2 : ¬ x = y → wp X d j (pc + 1 + 3) ls st (S, M) P) : wp X d j pc ls (vL y :: vL x :: st) (S, M) P := by
  refine w_lcmp hd0 (w_if_eq hd ht (fun h => k1 ?_) (fun h => k2 ?_))
  all_goals
    by_cases c1 : y < x
    · rw [if_pos c1] at h; omega
    · rw [if_neg c1] at h
      by_cases c2 : x = y
      · rw [if_pos c2] at h; omega
      · rw [if_neg c2] at h; omega
theorem w_lc_ne {x y off : Int} {tgt : Nat} (hd0 : decode (vm_cd j) pc = .ok (.lcmp, 1)) (hd : decode (vm_cd j) (pc + 1) = .ok (.ifCond .ne off, 3)) (ht : ((pc + 1 : Nat) : Int) + off = tgt) (k1 : ¬ x = y → wp X d j tgt ls st (S, M) P) (k2 : x = y → wp X d j (pc + 1 + 3) ls st (S, M) P) : wp X d j pc ls (vL y :: vL x :: st) (S, M) P := by
  refine w_lcmp hd0 (w_if_ne hd ht (fun h => k1 ?_) (fun h => k2 ?_))
  all_goals
    by_cases c1 : y < x
    · rw [if_pos c1] at h; omega
    · rw [if_neg c1] at h
      by_cases c2 : x = y
      · rw [if_pos c2] at h; omega
      · rw [if_neg c2] at h; omega
theorem w_lc_lt {x y off : Int} {tgt : Nat} (hd0 : decode (vm_cd j) pc = .ok (.lcmp, 1)) (hd : decode (vm_cd j) (pc + 1) = .ok (.ifCond .lt off, 3)) (ht : ((pc + 1 : Nat) : Int) + off = tgt) (k1 : x < y → wp X d j tgt ls st (S, M) P) (k2 : y ≤ x → wp X d j (pc + 1 + 3) ls st (S, M) P) : wp X d j pc ls (vL y :: vL x :: st) (S, M) P := by
  refine w_lcmp hd0 (w_if_lt hd ht (fun h => k1 ?_) (fun h => k2 ?_))
  all_goals
    by_cases c1 : y < x
    · rw [if_pos c1] at h; omega
    · rw [if_neg c1] at h
      by_cases c2 : x = y
      · rw [if_pos c2] at h; omega
      · rw [if_neg c2] at h; omega
theorem w_lc_ge {x y off : Int} {tgt : Nat} (hd0 : decode (vm_cd j) pc = .ok (.lcmp, 1)) (hd : decode (vm_cd j) (pc + 1) = .ok (.ifCond .ge off, 3)) (ht : ((pc + 1 : Nat) : Int) + off = tgt) (k1 : y ≤ x → wp X d j tgt ls st (S, M) P) (k2 : x < y → wp X d j (pc + 1 + 3) ls st (S, M) P) : wp X d j pc ls (vL y :: vL x :: st) (S, M) P := by
  refine w_lcmp hd0 (w_if_ge hd ht (fun h => k1 ?_) (fun h => k2 ?_))
  all_goals
    by_cases c1 : y < x
    · rw [if_pos c1] at h; omega
    · rw [if_neg c1] at h
      by_cases c2 : x = y
      · rw [if_pos c2] at h; omega
      · rw [if_neg c2] at h; omega
theorem w_lc_gt {x y off : Int} {tgt : Nat} (hd0 : decode (vm_cd j) pc = .ok (.lcmp, 1)) (hd : decode (vm_cd j) (pc + 1) = .ok (.ifCond .gt off, 3)) (ht : ((pc + 1 : Nat) : Int) + off = tgt) (k1 : y < x → wp X d j tgt ls st (S, M) P) (k2 : x ≤ y → wp X d j (pc + 1 + 3) ls st (S, M) P) : wp X d j pc ls (vL y :: vL x :: st) (S, M) P := by
  refine w_lcmp hd0 (w_if_gt hd ht (fun h => k1 ?_) (fun h => k2 ?_))
  all_goals
    by_cases c1 : y < x
    · rw [if_pos c1] at h; omega
    · rw [if_neg c1] at h
      by_cases c2 : x = y
      · rw [if_pos c2] at h; omega
      · rw [if_neg c2] at h; omega
theorem w_lc_le {x y off : Int} {tgt : Nat} (hd0 : decode (vm_cd j) pc = .ok (.lcmp, 1)) (hd : decode (vm_cd j) (pc + 1) = .ok (.ifCond .le off, 3)) (ht : ((pc + 1 : Nat) : Int) + off = tgt) (k1 : x ≤ y → wp X d j tgt ls st (S, M) P) (k2 : y < x → wp X d j (pc + 1 + 3) ls st (S, M) P) : wp X d j pc ls (vL y :: vL x :: st) (S, M) P := by
  refine w_lcmp hd0 (w_if_le hd ht (fun h => k1 ?_) (fun h => k2 ?_))
  all_goals
    by_cases c1 : y < x
    · rw [if_pos c1] at h; omega
    · rw [if_neg c1] at h
      by_cases c2 : x = y
      · rw [if_pos c2] at h; omega
      · rw [if_neg c2] at h; omega
end VB
