/-! WHAT HOLDS BETWEEN THE CLASS (cells 0 .. 80) AND THE REFERENCE (81 .. 117) -/
def RA (M : vM) : Prop := (2 ≤ M 1 0 ∧ M 1 0 ≤ 4) ∧ M 81 0 = M 1 0 ∧ (0 ≤ M 1 4 ∧ M 1 4 ≤ 4) ∧ M 81 1 = M 1 4 ∧ (0 ≤ M 1 5 ∧ M 1 5 ≤ 99) ∧ M 81 6 = M 1 5 ∧
  (∀ a : Nat, a < 4 → M 82 a = M 2 a ∧ 0 ≤ M 2 a ∧ M 2 a ≤ 99) ∧ (∀ s : Nat, s < 4 → M 84 s = M 12 s ∧ -99 ≤ M 12 s ∧ M 12 s ≤ 99) ∧ (∀ s : Nat, s < 4 → M 85 s = M 78 s ∧ 0 ≤ M 78 s ∧ M 78 s ≤ 999) ∧
  (∀ a w s : Nat, a < 4 → w < 2 → s < 4 → M 83 (12 * a + 4 * w + s) = M (4 + (2 * a + w)) s ∧ 0 ≤ M (4 + (2 * a + w)) s ∧ M (4 + (2 * a + w)) s ≤ 12 ∧ ((M 1 4 ≤ (a : Int) ∨ M 1 0 ≤ (s : Int)) → M (4 + (2 * a + w)) s = 0)) ∧
  (∀ a w : Nat, (a : Int) < M 1 4 → w < 2 → M (4 + (2 * a + w)) 0 + M (4 + (2 * a + w)) 1 + M (4 + (2 * a + w)) 2 + M (4 + (2 * a + w)) 3 = 12)
def RM (M : vM) : Prop := ∀ q : Nat, q < 10 → M 96 q = M 29 q ∧ 0 ≤ M 29 q ∧ M 29 q ≤ 9999
def RP (M : vM) : Prop := (∀ e : Nat, e < 2 → M 98 e = M 31 e ∧ 0 ≤ M 31 e ∧ M 31 e ≤ 12) ∧ (∀ e : Nat, e < 2 → M 99 e = M 32 e ∧ 0 ≤ M 32 e ∧ M 32 e ≤ 12) ∧ M 81 28 = M 30 4 ∧ (0 ≤ M 30 4 ∧ M 30 4 ≤ 99) ∧ (M 30 5 = 0 ∨ M 30 5 = 1)
def RT (M : vM) : Prop := M 81 31 = M 49 3 ∧ (2 ≤ M 49 3 ∧ M 49 3 ≤ 4) ∧ (∀ i : Nat, i < 4 → M 102 i = M 50 i ∧ 0 ≤ M 50 i ∧ M 50 i ≤ 99) ∧ (∀ i : Nat, i < 4 → M 103 i = M 51 i ∧ 0 ≤ M 51 i ∧ M 51 i ≤ 24) ∧ (∀ k : Nat, k < 5 → M 104 k = M 52 k ∧ 0 ≤ M 52 k ∧ M 52 k ≤ 999)
def RC (M : vM) : Prop := M 81 35 = M 53 2 ∧ (0 ≤ M 53 2 ∧ M 53 2 ≤ 999) ∧ (∀ i : Nat, i < 2 → M 105 i = M 54 i ∧ 1 ≤ M 54 i ∧ M 54 i ≤ 9) ∧ (∀ i : Nat, i < 2 → M 106 i = M 55 i ∧ 0 ≤ M 55 i ∧ M 55 i ≤ 9)
def RK (M : vM) : Prop := M 81 42 = M 56 4 ∧ (0 ≤ M 56 4 ∧ M 56 4 ≤ 120) ∧ (∀ k : Nat, k < 120 → (k : Int) < M 56 4 → M 109 k = M 57 k % 256 ∧ -128 ≤ M 57 k ∧ M 57 k ≤ 127) ∧ M 81 38 = M 56 5 ∧ (0 ≤ M 56 5 ∧ M 56 5 ≤ 8)
def RY (M : vM) : Prop := (0 ≤ M 70 6 ∧ M 70 6 ≤ 60) ∧ M 81 49 = M 70 6 ∧ (0 ≤ M 70 7 ∧ M 70 7 ≤ 65536) ∧ M 81 48 = M 70 7 ∧
  ∀ y : Nat, y < 60 → (y : Int) < M 70 6 → (M 112 y = M 71 y ∧ 0 ≤ M 71 y ∧ M 71 y < 4) ∧ (M 113 y = M 72 y ∧ -1 ≤ M 72 y ∧ M 72 y < M 1 0) ∧ (M 114 y = M 73 y ∧ 0 ≤ M 73 y ∧ M 73 y ≤ 999) ∧ (M 115 y = M 74 y ∧ -99 ≤ M 74 y ∧ M 74 y ≤ 99) ∧ (M 116 y = M 75 y ∧ 0 ≤ M 75 y ∧ M 75 y ≤ 65536) ∧ (M 117 y = M 76 y ∧ 0 ≤ M 76 y ∧ M 76 y ≤ 65536)
def R2 (M : vM) : Prop := (M 81 56 = M 77 0 ∧ 0 ≤ M 77 0 ∧ M 77 0 ≤ 9) ∧ (M 81 57 = M 77 1 ∧ 0 ≤ M 77 1 ∧ M 77 1 ≤ 99) ∧ (M 81 58 = M 77 2 ∧ 0 ≤ M 77 2 ∧ M 77 2 ≤ 99)
def Rel (M : vM) : Prop := vRefs M ∧ RA M ∧ RM M ∧ RP M ∧ RT M ∧ RC M ∧ RK M ∧ RY M ∧ R2 M
theorem j_idiv_eq {x y : Int} (hx : -2147483648 ≤ x ∧ x < 2147483648) (hy : 0 < y ∧ y < 2147483648) : j_idiv x y = x.tdiv y := by
  have e1 : (Int32.ofInt x).toInt = x := vm_small (by omega) (by omega)
  have e2 : (Int32.ofInt y).toInt = y := vm_small (by omega) (by omega)
  unfold j_idiv
  rw [Int32.toInt_div, e1, e2]
  have h1 : (x.tdiv y).natAbs ≤ x.natAbs := by
    rw [Int.natAbs_tdiv]
    exact Nat.div_le_self _ _
  have e : ((Int32.size : Nat) : Int) = 4294967296 := rfl
  by_cases hq : x.tdiv y = 2147483648
  · exfalso
    have : x.natAbs ≥ 2147483648 := by omega
    have hx2 : x = -2147483648 := by omega
    subst hx2
    have h3 : (-2147483648 : Int).tdiv y = -((2147483648 : Int).tdiv y) := Int.neg_tdiv 2147483648 y
    have h4 : 0 ≤ (2147483648 : Int).tdiv y := Int.tdiv_nonneg (by omega) (by omega)
    omega
  · first
      | exact Int.bmod_eq_of_le (by omega) (by omega)
      | (rw [w32_bmod]; exact w32_id (by omega) (by omega))
theorem j_irem_eq {x y : Int} (hx : -2147483648 ≤ x ∧ x < 2147483648) (hy : 0 < y ∧ y < 2147483648) : j_irem x y = x.tmod y := by
  have e1 : (Int32.ofInt x).toInt = x := vm_small (by omega) (by omega)
  have e2 : (Int32.ofInt y).toInt = y := vm_small (by omega) (by omega)
  unfold j_irem
  rw [rem_toInt, e1, e2]
theorem j_div10 {x : Int} (h0 : 0 ≤ x) (h1 : x < 2147483648) : j_idiv x 10 = x / 10 := by rw [j_idiv_eq (by omega) (by omega), Int.tdiv_eq_ediv_of_nonneg h0]
theorem j_rem10 {x : Int} (h0 : 0 ≤ x) (h1 : x < 2147483648) : j_irem x 10 = x % 10 := by rw [j_irem_eq (by omega) (by omega), Int.tmod_eq_emod_of_nonneg h0]
/-- where RA looks -/
def sRA (b j : Nat) : Prop := (b = 1 ∧ (j = 0 ∨ j = 4 ∨ j = 5)) ∨ (b = 81 ∧ (j = 0 ∨ j = 1 ∨ j = 6)) ∨ b = 2 ∨ b = 12 ∨ b = 78 ∨ b = 82 ∨ b = 83 ∨ b = 84 ∨ b = 85 ∨ (4 ≤ b ∧ b ≤ 11)
theorem RA_cong {M M2 : vM} (E : ∀ b j : Nat, sRA b j → M2 b j = M b j) (h : RA M) : RA M2 := by
  obtain ⟨q1, q2, q3, q4, q5, q6, q7, q8, q9, q10, q11⟩ := h
  have f0 := E 1 0 (by unfold sRA; omega)
  have f4 := E 1 4 (by unfold sRA; omega)
  have f5 := E 1 5 (by unfold sRA; omega)
  have g0 := E 81 0 (by unfold sRA; omega)
  have g1 := E 81 1 (by unfold sRA; omega)
  have g6 := E 81 6 (by unfold sRA; omega)
  refine ⟨by rw [f0]; exact q1, by rw [g0, f0]; exact q2, by rw [f4]; exact q3, by rw [g1, f4]; exact q4, by rw [f5]; exact q5, by rw [g6, f5]; exact q6, fun a ha => ?_, fun a ha => ?_, fun a ha => ?_, fun a w s ha hw hs => ?_, fun a w ha hw => ?_⟩
  · rw [E 82 a (by unfold sRA; omega), E 2 a (by unfold sRA; omega)]
    exact q7 a ha
  · rw [E 84 a (by unfold sRA; omega), E 12 a (by unfold sRA; omega)]
    exact q8 a ha
  · rw [E 85 a (by unfold sRA; omega), E 78 a (by unfold sRA; omega)]
    exact q9 a ha
  · rw [E 83 _ (by unfold sRA; omega), E (4 + (2 * a + w)) s (by unfold sRA; omega), f4, f0]
    exact q10 a w s ha hw hs
  · rw [f4] at ha
    have h4 : a < 4 := by omega
    rw [E (4 + (2 * a + w)) 0 (by unfold sRA; omega), E (4 + (2 * a + w)) 1 (by unfold sRA; omega), E (4 + (2 * a + w)) 2 (by unfold sRA; omega), E (4 + (2 * a + w)) 3 (by unfold sRA; omega)]
    exact q11 a w ha hw
theorem RA_up {M : vM} {a k : Nat} {x : Int} (h : RA M) (ha : ¬ sRA a k) : RA (vm_up M a k x) := RA_cong (fun b j hb => by
  unfold vm_up
  rw [if_neg]
  rintro ⟨rfl, rfl⟩
  exact ha hb) h
/-- a pair written in both -/
theorem vm_2 {P : Nat → Int → Int → Prop} {M : vM} {a b n k : Nat} {x : Int} (hab : a ≠ b) (h : ∀ i, i < n → P i (M b i) (M a i)) (hx : P k x x) : ∀ i, i < n → P i (vm_up (vm_up M a k x) b k x b i) (vm_up (vm_up M a k x) b k x a i) := by
  intro i hi
  unfold vm_up
  by_cases e : i = k
  · subst e
    simp [hab]
    exact hx
  · simp [e]
    exact h i hi
theorem lf_cost {M : vM} {a0 a1 : Int} (hr : Rel M) (h0 : 0 ≤ a0 ∧ a0 < 4) (h1 : 0 ≤ a1 ∧ a1 ≤ 99) : some (vI ((vm_up M 2 a0.toNat a1) 82 a0.toNat)) = some (vI (M 2 a0.toNat)) ∧ Rel (vm_up (vm_up M 2 a0.toNat a1) 82 a0.toNat a1) := by
  obtain ⟨hR, hRA, hRM, hRP, hRT, hRC, hRK, hRY, hR2⟩ := hr
  obtain ⟨q1, q2, q3, q4, q5, q6, q7, q8, q9, q10, q11⟩ := hRA
  refine ⟨?_, vRefs_free (vRefs_free hR ⟨by decide, by decide⟩) ⟨by decide, by decide⟩, ?_, by simpa [RM, vm_up] using hRM, by simpa [RP, vm_up] using hRP, by simpa [RT, vm_up] using hRT, by simpa [RC, vm_up] using hRC, by simpa [RK, vm_up] using hRK, by simpa [RY, vm_up] using hRY, by simpa [R2, vm_up] using hR2⟩
  · have := (q7 a0.toNat (by omega)).1
    simpa [vm_up] using this
  · refine ⟨by simpa [vm_up] using q1, by simpa [vm_up] using q2, by simpa [vm_up] using q3, by simpa [vm_up] using q4, by simpa [vm_up] using q5, by simpa [vm_up] using q6, ?_, by simpa [vm_up] using q8, by simpa [vm_up] using q9, ?_, ?_⟩
    · exact vm_2 (P := fun _ y x => y = x ∧ 0 ≤ x ∧ x ≤ 99) (by decide) q7 ⟨rfl, h1⟩
    · intro a w s ha hw hs
      have := q10 a w s ha hw hs
      have e1 : 4 + (2 * a + w) ≠ 82 := by omega
      have e2 : 4 + (2 * a + w) ≠ 2 := by omega
      simpa [vm_up, e1, e2] using this
    · intro a w ha hw
      have ha' : (a : Int) < M 1 4 := by simpa [vm_up] using ha
      have := q11 a w ha' hw
      have e1 : 4 + (2 * a + w) ≠ 82 := by omega
      have e2 : 4 + (2 * a + w) ≠ 2 := by omega
      simpa [vm_up, e1, e2] using this
theorem lf_value {M : vM} {a0 a1 : Int} (hr : Rel M) (h0 : 0 ≤ a0 ∧ a0 < 4) (h1 : -99 ≤ a1 ∧ a1 ≤ 99) : some (vI ((vm_up M 12 a0.toNat a1) 84 a0.toNat)) = some (vI (M 12 a0.toNat)) ∧ Rel (vm_up (vm_up M 12 a0.toNat a1) 84 a0.toNat a1) := by
  obtain ⟨hR, hRA, hRM, hRP, hRT, hRC, hRK, hRY, hR2⟩ := hr
  obtain ⟨q1, q2, q3, q4, q5, q6, q7, q8, q9, q10, q11⟩ := hRA
  refine ⟨?_, vRefs_free (vRefs_free hR ⟨by decide, by decide⟩) ⟨by decide, by decide⟩, ?_, by simpa [RM, vm_up] using hRM, by simpa [RP, vm_up] using hRP, by simpa [RT, vm_up] using hRT, by simpa [RC, vm_up] using hRC, by simpa [RK, vm_up] using hRK, by simpa [RY, vm_up] using hRY, by simpa [R2, vm_up] using hR2⟩
  · have := (q8 a0.toNat (by omega)).1
    simpa [vm_up] using this
  · refine ⟨by simpa [vm_up] using q1, by simpa [vm_up] using q2, by simpa [vm_up] using q3, by simpa [vm_up] using q4, by simpa [vm_up] using q5, by simpa [vm_up] using q6, by simpa [vm_up] using q7, ?_, by simpa [vm_up] using q9, ?_, ?_⟩
    · exact vm_2 (P := fun _ y x => y = x ∧ -99 ≤ x ∧ x ≤ 99) (by decide) q8 ⟨rfl, h1⟩
    · intro a w s ha hw hs
      have := q10 a w s ha hw hs
      have e1 : 4 + (2 * a + w) ≠ 84 := by omega
      have e2 : 4 + (2 * a + w) ≠ 12 := by omega
      simpa [vm_up, e1, e2] using this
    · intro a w ha hw
      have ha' : (a : Int) < M 1 4 := by simpa [vm_up] using ha
      have := q11 a w ha' hw
      have e1 : 4 + (2 * a + w) ≠ 84 := by omega
      have e2 : 4 + (2 * a + w) ≠ 12 := by omega
      simpa [vm_up, e1, e2] using this
theorem lf_pay {M : vM} {a0 a1 : Int} (hr : Rel M) (h0 : 0 ≤ a0 ∧ a0 < 4) (h1 : 0 ≤ a1 ∧ a1 ≤ 999) : some (vI ((vm_up M 78 a0.toNat a1) 85 a0.toNat)) = some (vI (M 78 a0.toNat)) ∧ Rel (vm_up (vm_up M 78 a0.toNat a1) 85 a0.toNat a1) := by
  obtain ⟨hR, hRA, hRM, hRP, hRT, hRC, hRK, hRY, hR2⟩ := hr
  obtain ⟨q1, q2, q3, q4, q5, q6, q7, q8, q9, q10, q11⟩ := hRA
  refine ⟨?_, vRefs_free (vRefs_free hR ⟨by decide, by decide⟩) ⟨by decide, by decide⟩, ?_, by simpa [RM, vm_up] using hRM, by simpa [RP, vm_up] using hRP, by simpa [RT, vm_up] using hRT, by simpa [RC, vm_up] using hRC, by simpa [RK, vm_up] using hRK, by simpa [RY, vm_up] using hRY, by simpa [R2, vm_up] using hR2⟩
  · have := (q9 a0.toNat (by omega)).1
    simpa [vm_up] using this
  · refine ⟨by simpa [vm_up] using q1, by simpa [vm_up] using q2, by simpa [vm_up] using q3, by simpa [vm_up] using q4, by simpa [vm_up] using q5, by simpa [vm_up] using q6, by simpa [vm_up] using q7, by simpa [vm_up] using q8, ?_, ?_, ?_⟩
    · exact vm_2 (P := fun _ y x => y = x ∧ 0 ≤ x ∧ x ≤ 999) (by decide) q9 ⟨rfl, h1⟩
    · intro a w s ha hw hs
      have := q10 a w s ha hw hs
      have e1 : 4 + (2 * a + w) ≠ 85 := by omega
      have e2 : 4 + (2 * a + w) ≠ 78 := by omega
      simpa [vm_up, e1, e2] using this
    · intro a w ha hw
      have ha' : (a : Int) < M 1 4 := by simpa [vm_up] using ha
      have := q11 a w ha' hw
      have e1 : 4 + (2 * a + w) ≠ 85 := by omega
      have e2 : 4 + (2 * a + w) ≠ 78 := by omega
      simpa [vm_up, e1, e2] using this
theorem lf_work {M : vM} {a0 a1 : Int} (hr : Rel M) (h0 : 1 ≤ a0 ∧ a0 ≤ 9) (h1 : 0 ≤ a1 ∧ a1 ≤ 9999) : some (vI ((vm_up M 29 a0.toNat a1) 96 a0.toNat)) = some (vI (M 29 a0.toNat)) ∧ Rel (vm_up (vm_up M 29 a0.toNat a1) 96 a0.toNat a1) := by
  obtain ⟨hR, hRA, hRM, hRP, hRT, hRC, hRK, hRY, hR2⟩ := hr
  refine ⟨?_, vRefs_free (vRefs_free hR ⟨by decide, by decide⟩) ⟨by decide, by decide⟩, RA_up (RA_up hRA (by unfold sRA; omega)) (by unfold sRA; omega), ?_, by simpa [RP, vm_up] using hRP, by simpa [RT, vm_up] using hRT, by simpa [RC, vm_up] using hRC, by simpa [RK, vm_up] using hRK, by simpa [RY, vm_up] using hRY, by simpa [R2, vm_up] using hR2⟩
  · have := (hRM a0.toNat (by omega)).1
    simpa [vm_up] using this
  · exact vm_2 (P := fun _ y x => y = x ∧ 0 ≤ x ∧ x ≤ 9999) (by decide) hRM ⟨rfl, h1⟩
theorem lf_all {M : vM} {a0 a1 : Int} (hr : Rel M) (h0 : 0 ≤ a0 ∧ a0 ≤ 4) (h1 : 0 ≤ a1 ∧ a1 ≤ 999) : some (vI ((vm_up M 52 a0.toNat a1) 104 a0.toNat)) = some (vI (M 52 a0.toNat)) ∧ Rel (vm_up (vm_up M 52 a0.toNat a1) 104 a0.toNat a1) := by
  obtain ⟨hR, hRA, hRM, hRP, hRT, hRC, hRK, hRY, hR2⟩ := hr
  obtain ⟨q1, q2, q3, q4, q5⟩ := hRT
  refine ⟨?_, vRefs_free (vRefs_free hR ⟨by decide, by decide⟩) ⟨by decide, by decide⟩, RA_up (RA_up hRA (by unfold sRA; omega)) (by unfold sRA; omega), by simpa [RM, vm_up] using hRM, by simpa [RP, vm_up] using hRP, ?_, by simpa [RC, vm_up] using hRC, by simpa [RK, vm_up] using hRK, by simpa [RY, vm_up] using hRY, by simpa [R2, vm_up] using hR2⟩
  · have := (q5 a0.toNat (by omega)).1
    simpa [vm_up] using this
  · refine ⟨by simpa [vm_up] using q1, by simpa [vm_up] using q2, by simpa [vm_up] using q3, by simpa [vm_up] using q4, ?_⟩
    exact vm_2 (P := fun _ y x => y = x ∧ 0 ≤ x ∧ x ≤ 999) (by decide) q5 ⟨rfl, h1⟩
theorem lf_reserve {M : vM} {a0 : Int} (hr : Rel M) (h1 : 0 ≤ a0 ∧ a0 ≤ 99) : some (vI ((vm_up M 1 5 a0) 81 6)) = some (vI (M 1 5)) ∧ Rel (vm_up (vm_up M 1 5 a0) 81 6 a0) := by
  obtain ⟨hR, hRA, hRM, hRP, hRT, hRC, hRK, hRY, hR2⟩ := hr
  obtain ⟨q1, q2, q3, q4, q5, q6, q7, q8, q9, q10, q11⟩ := hRA
  refine ⟨?_, vRefs_up (vRefs_up hR ⟨by decide, by decide⟩) ⟨by decide, by decide⟩, ?_, by simpa [RM, vm_up] using hRM, by simpa [RP, vm_up] using hRP, by simpa [RT, vm_up] using hRT, by simpa [RC, vm_up] using hRC, by simpa [RK, vm_up] using hRK, by simpa [RY, vm_up] using hRY, by simpa [R2, vm_up] using hR2⟩
  · simpa [vm_up] using q6
  · refine ⟨by simpa [vm_up] using q1, by simpa [vm_up] using q2, by simpa [vm_up] using q3, by simpa [vm_up] using q4, by simpa [vm_up] using h1, by simp [vm_up], by simpa [vm_up] using q7, by simpa [vm_up] using q8, by simpa [vm_up] using q9, ?_, ?_⟩
    · intro a w s ha hw hs
      have := q10 a w s ha hw hs
      have e1 : 4 + (2 * a + w) ≠ 81 := by omega
      have e2 : 4 + (2 * a + w) ≠ 1 := by omega
      simpa [vm_up, e1, e2] using this
    · intro a w ha hw
      have ha' : (a : Int) < M 1 4 := by simpa [vm_up] using ha
      have := q11 a w ha' hw
      have e1 : 4 + (2 * a + w) ≠ 81 := by omega
      have e2 : 4 + (2 * a + w) ≠ 1 := by omega
      simpa [vm_up, e1, e2] using this
theorem lf_lot {M : vM} {a0 : Int} (hr : Rel M) (h1 : 0 ≤ a0 ∧ a0 ≤ 65536) : some (vI ((vm_up M 70 7 a0) 81 48)) = some (vI (M 70 7)) ∧ Rel (vm_up (vm_up M 70 7 a0) 81 48 a0) := by
  obtain ⟨hR, hRA, hRM, hRP, hRT, hRC, hRK, hRY, hR2⟩ := hr
  obtain ⟨q1, q2, q3, q4, q5⟩ := hRY
  refine ⟨?_, vRefs_up (vRefs_up hR ⟨by decide, by decide⟩) ⟨by decide, by decide⟩, RA_up (RA_up hRA (by unfold sRA; omega)) (by unfold sRA; omega), by simpa [RM, vm_up] using hRM, by simpa [RP, vm_up] using hRP, by simpa [RT, vm_up] using hRT, by simpa [RC, vm_up] using hRC, by simpa [RK, vm_up] using hRK, ?_, by simpa [R2, vm_up] using hR2⟩
  · simpa [vm_up] using q4
  · exact ⟨by simpa [vm_up] using q1, by simpa [vm_up] using q2, by simpa [vm_up] using h1, by simp [vm_up], by simpa [vm_up] using q5⟩
theorem lf_tasks {M : vM} {a0 a1 a2 : Int} (hr : Rel M) (h0 : 0 ≤ a0 ∧ a0 ≤ 9) (h1 : 0 ≤ a1 ∧ a1 ≤ 99) (h2 : 0 ≤ a2 ∧ a2 ≤ 99) : some (vI 0) = some (vI 0) ∧ Rel (vm_up (vm_up (vm_up (vm_up (vm_up (vm_up M 77 0 a0) 77 1 a1) 77 2 a2) 81 56 a0) 81 57 a1) 81 58 a2) := by
  obtain ⟨hR, hRA, hRM, hRP, hRT, hRC, hRK, hRY, hR2⟩ := hr
  refine ⟨?_, vRefs_up (vRefs_up (vRefs_up (vRefs_up (vRefs_up (vRefs_up hR ⟨by decide, by decide⟩) ⟨by decide, by decide⟩) ⟨by decide, by decide⟩) ⟨by decide, by decide⟩) ⟨by decide, by decide⟩) ⟨by decide, by decide⟩, RA_up (RA_up (RA_up (RA_up (RA_up (RA_up hRA (by unfold sRA; omega)) (by unfold sRA; omega)) (by unfold sRA; omega)) (by unfold sRA; omega)) (by unfold sRA; omega)) (by unfold sRA; omega), by simpa [RM, vm_up] using hRM, by simpa [RP, vm_up] using hRP, by simpa [RT, vm_up] using hRT, by simpa [RC, vm_up] using hRC, by simpa [RK, vm_up] using hRK, by simpa [RY, vm_up] using hRY, ?_⟩
  · rfl
  · exact ⟨by simpa [vm_up] using h0, by simpa [vm_up] using h1, by simpa [vm_up] using h2⟩
