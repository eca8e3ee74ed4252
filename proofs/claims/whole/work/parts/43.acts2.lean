/-! ACTS: one more, its chances; a team -/
theorem lf_act {M : vM} {c : Int} {n : Nat} (hr : Rel M) (hn : M 1 4 = (n : Int)) (h : n < 4) (hc : 0 ≤ c ∧ c ≤ 99) : Rel (vm_up (vm_up (vm_up (vm_up (vm_up (vm_up (vm_up (vm_up M 2 n c) (4 + 2 * n) 0 12) (4 + (2 * n + 1)) 0 12) 1 4 ((n : Int) + 1)) 82 n c) 83 (12 * n) 12) 83 (12 * n + 4) 12) 81 1 ((n : Int) + 1)) := by
  have g : Fr sA M (vm_up (vm_up (vm_up (vm_up (vm_up (vm_up (vm_up (vm_up M 2 n c) (4 + 2 * n) 0 12) (4 + (2 * n + 1)) 0 12) 1 4 ((n : Int) + 1)) 82 n c) 83 (12 * n) 12) 83 (12 * n + 4) 12) 81 1 ((n : Int) + 1)) := (((((((Fr.refl.up (by unfold sA sTmp; omega)).up (by unfold sA sTmp; omega)).up (by unfold sA sTmp; omega)).up (by unfold sA sTmp; omega)).up (by unfold sA sTmp; omega)).up (by unfold sA sTmp; omega)).up (by unfold sA sTmp; omega)).up (by unfold sA sTmp; omega)
  have hA := hr.2.1
  refine Rel_A g hr ?_
  generalize hM2 : vm_up (vm_up (vm_up (vm_up (vm_up (vm_up (vm_up (vm_up M 2 n c) (4 + 2 * n) 0 12) (4 + (2 * n + 1)) 0 12) 1 4 ((n : Int) + 1)) 82 n c) 83 (12 * n) 12) 83 (12 * n + 4) 12) 81 1 ((n : Int) + 1) = M2
  have e10 : M2 1 0 = M 1 0 := by rw [← hM2]; unfold vm_up; (repeat' split) <;> omega
  have e14 : M2 1 4 = (n : Int) + 1 := by rw [← hM2]; unfold vm_up; (repeat' split) <;> omega
  have e15 : M2 1 5 = M 1 5 := by rw [← hM2]; unfold vm_up; (repeat' split) <;> omega
  have f0 : M2 81 0 = M 81 0 := by rw [← hM2]; unfold vm_up; (repeat' split) <;> omega
  have f1 : M2 81 1 = (n : Int) + 1 := by rw [← hM2]; unfold vm_up; (repeat' split) <;> omega
  have f6 : M2 81 6 = M 81 6 := by rw [← hM2]; unfold vm_up; (repeat' split) <;> omega
  have c1 : ∀ a : Nat, M2 2 a = if a = n then c else M 2 a := fun a => by rw [← hM2]; unfold vm_up; (repeat' split) <;> omega
  have c2 : ∀ a : Nat, M2 82 a = if a = n then c else M 82 a := fun a => by rw [← hM2]; unfold vm_up; (repeat' split) <;> omega
  have c3 : ∀ a w s : Nat, a < 4 → w < 2 → M2 (4 + (2 * a + w)) s = if a = n ∧ s = 0 then 12 else M (4 + (2 * a + w)) s := fun a w s ha hw => by rw [← hM2]; unfold vm_up; (repeat' split) <;> omega
  have c4 : ∀ a w s : Nat, a < 4 → w < 2 → s < 4 → M2 83 (12 * a + 4 * w + s) = if a = n ∧ s = 0 then 12 else M 83 (12 * a + 4 * w + s) := fun a w s ha hw hs => by rw [← hM2]; unfold vm_up; (repeat' split) <;> omega
  have c5 : ∀ b j : Nat, b = 84 ∨ b = 85 ∨ b = 12 ∨ b = 78 → M2 b j = M b j := fun b j hb => by rw [← hM2]; unfold vm_up; (repeat' split) <;> omega
  clear hM2 g
  obtain ⟨q1, q2, q3, q4, q5, q6, q7, q8, q9, q10, q11⟩ := hA
  refine ⟨by rw [e10]; exact q1, by rw [f0, e10]; exact q2, by rw [e14]; omega, by rw [f1, e14], by rw [e15]; exact q5, by rw [f6, e15]; exact q6, fun a ha => ?_, fun s hs => by rw [c5 84 s (by omega), c5 12 s (by omega)]; exact q8 s hs, fun s hs => by rw [c5 85 s (by omega), c5 78 s (by omega)]; exact q9 s hs, fun a w s ha hw hs => ?_, fun a w ha hw => ?_⟩
  · rw [c1, c2]
    by_cases e : a = n
    · rw [if_pos e, if_pos e]; exact ⟨rfl, hc⟩
    · rw [if_neg e, if_neg e]; exact q7 a ha
  · have q := q10 a w s ha hw hs
    rw [c3 a w s ha hw, c4 a w s ha hw hs, e14, e10]
    by_cases e : a = n ∧ s = 0
    · rw [if_pos e, if_pos e]
      refine ⟨rfl, by omega, by omega, fun h => ?_⟩
      exfalso; omega
    · rw [if_neg e, if_neg e]
      exact ⟨q.1, q.2.1, q.2.2.1, fun h => q.2.2.2 (by omega)⟩
  · rw [e14] at ha
    have h4 : a < 4 := by omega
    rw [c3 a w 0 h4 hw, c3 a w 1 h4 hw, c3 a w 2 h4 hw, c3 a w 3 h4 hw]
    by_cases e : a = n
    · rw [if_pos ⟨e, rfl⟩, if_neg (by omega), if_neg (by omega), if_neg (by omega)]
      have z1 := (q10 a w 1 h4 hw (by omega)).2.2.2 (by omega)
      have z2 := (q10 a w 2 h4 hw (by omega)).2.2.2 (by omega)
      have z3 := (q10 a w 3 h4 hw (by omega)).2.2.2 (by omega)
      omega
    · rw [if_neg (by omega), if_neg (by omega), if_neg (by omega), if_neg (by omega)]
      exact q11 a w (by omega) hw
section A2
variable {X : vX} {d : Nat} {M : vM} {Q : Option vV → vM → Prop} {l0 l1 l2 l3 l4 l5 a0 a1 a2 : Int}
theorem S_Ac_add {n : Nat} (hR : vRefs M) (hn : M 1 4 = (n : Int)) (h : n < 4) (k : vRefs (vm_up (vm_up (vm_up (vm_up M 2 n l1) (4 + 2 * n) 0 12) (4 + (2 * n + 1)) 0 12) 1 4 ((n : Int) + 1)) → Q (some (vI (n : Int))) (vm_up (vm_up (vm_up (vm_up M 2 n l1) (4 + 2 * n) 0 12) (4 + (2 * n + 1)) 0 12) 1 4 ((n : Int) + 1))) : cq X (d + 1) 7 [vR 1, vI l1] M Q := by
  have b0 : w32 (w32 (((n : Nat) : Int) * 2) + 0) = ((2 * n : Nat) : Int) := by unfold w32; omega
  have b1 : w32 (w32 (((n : Nat) : Int) * 2) + 1) = ((2 * n + 1 : Nat) : Int) := by unfold w32; omega
  have b2 : w32 (((n : Nat) : Int) + 1) = (n : Int) + 1 := by unfold w32; omega
  have b3 : w32 (0 + 1) = 1 := by decide
  have b4 : w32 (1 + 1) = 2 := by decide
  refine E_Ac_add ?_
  refine B_Ac_add_0 hR (by omega) (fun hR1 => ?_)
  rw [hn, Int.toNat_natCast] at hR1 ⊢
  refine B_Ac_add_14 (fun h => by exfalso; omega) (fun _ => B_Ac_add_19 hR1 (by rw [b0]; omega) (fun hR2 => ?_))
  rw [b0, Int.toNat_natCast] at hR2 ⊢
  rw [b3]
  refine B_Ac_add_14 (fun h => by exfalso; omega) (fun _ => B_Ac_add_19 hR2 (by rw [b1]; omega) (fun hR3 => ?_))
  rw [b1, Int.toNat_natCast] at hR3 ⊢
  rw [b4]
  refine B_Ac_add_14 (fun _ => B_Ac_add_39 hR3 (fun hR4 => ?_)) (fun h => by exfalso; omega)
  rw [b2] at hR4 ⊢
  exact k hR4
theorem S_R_act {n : Nat} (hc : 0 ≤ l1 ∧ l1 ≤ 99) (hR : vRefs M) (hn : M 81 1 = (n : Int)) (h : n < 4) (k : Q (some (vI (n : Int))) (vm_up (vm_up (vm_up (vm_up M 82 n l1) 83 (12 * n) 12) 83 (12 * n + 4) 12) 81 1 ((n : Int) + 1))) : cq X (d + 3) 190 [vR 81, vI l1] M Q := by
  have d1 : w32 (12 * (n : Int)) = ((12 * n : Nat) : Int) := by unfold w32; omega
  have d2 : w32 (((12 * n : Nat) : Int) + 4) = ((12 * n + 4 : Nat) : Int) := by unfold w32; omega
  have d3 : w32 ((n : Int) + 1) = (n : Int) + 1 := by unfold w32; omega
  have d4 : w32 ((n : Int) + 1 - 1) = (n : Int) := by unfold w32; omega
  refine E_R_act ?_
  refine B_R_act_0 ?_
  refine S_R_in ?_
  refine B_R_act_9 (fun _ => ?_) (fun h => by rw [if_pos hc] at h; omega)
  refine B_R_act_15 (fun _ => ?_) (fun h => by exfalso; omega)
  refine B_R_act_26 hR ?_ ?_ ?_ (fun _ => ?_)
  · omega
  · simp only [vm_up_o (show (81 : Nat) ≠ 82 by decide), hn, d1]
    omega
  · simp only [vm_up_o (show (81 : Nat) ≠ 82 by decide), vm_up_o (show (81 : Nat) ≠ 83 by decide), hn, d1, d2]
    omega
  · simp only [vm_up_o (show (81 : Nat) ≠ 82 by decide), vm_up_o (show (81 : Nat) ≠ 83 by decide), vm_up_s, hn, d1, d2, d3, d4, Int.toNat_natCast]
    exact k
theorem op_act (hr : Rel M) : cq X (d + 40) 128 [vR 0, vI a0] M (fun v M1 => cq X (d + 40) 190 [vR 81, vI a0] M1 (fun v2 M2 => v2 = v ∧ Rel M2)) := by
  have h4 := hr.2.1.2.2.1
  have e4 := hr.2.1.2.2.2.1
  by_cases hc : 0 ≤ a0 ∧ a0 ≤ 99
  · by_cases hf : M 1 4 < 4
    · obtain ⟨n, hn⟩ : ∃ n : Nat, M 1 4 = (n : Int) := ⟨(M 1 4).toNat, by omega⟩
      refine E_X_act ?_
      refine B_X_act_0 ?_
      refine S_within ?_
      refine B_X_act_7 (fun _ => ?_) (fun h => by rw [if_pos hc] at h; omega)
      refine B_X_act_13 hr.1 ?_
      refine E_Ac_isFull ?_
      refine B_Ac_isFull_0 (fun _ => ?_) (fun h => by exfalso; omega)
      refine B_Ac_isFull_12 ?_
      refine B_X_act_20 (fun _ => ?_) (fun h => absurd rfl h)
      refine B_X_act_28 hr.1 ?_
      refine S_Ac_add hr.1 hn (by omega) (fun hR4 => ?_)
      refine B_X_act_36 ?_
      refine S_R_act hc hR4 ?_ (by omega) ⟨rfl, lf_act hr hn (by omega) hc⟩
      rw [vm_up_o (by omega), vm_up_o (by omega), vm_up_o (by omega), vm_up_o (by omega), e4, hn]
    · refine E_X_act ?_
      refine B_X_act_0 ?_
      refine S_within ?_
      refine B_X_act_7 (fun _ => ?_) (fun h => by rw [if_pos hc] at h; omega)
      refine B_X_act_13 hr.1 ?_
      refine E_Ac_isFull ?_
      refine B_Ac_isFull_0 (fun h => absurd h hf) (fun _ => ?_)
      refine B_Ac_isFull_8 ?_
      refine B_X_act_20 (fun h => absurd h (by decide)) (fun _ => ?_)
      refine B_X_act_23 ?_
      refine E_R_act ?_
      refine B_R_act_0 ?_
      refine S_R_in ?_
      refine B_R_act_9 (fun _ => ?_) (fun h => by rw [if_pos hc] at h; omega)
      refine B_R_act_15 (fun h => by exfalso; omega) (fun _ => ?_)
      refine B_R_act_23 ?_
      exact ⟨rfl, hr⟩
  · refine E_X_act ?_
    refine B_X_act_0 ?_
    refine S_within ?_
    refine B_X_act_7 (fun h => absurd (if_neg hc) h) (fun _ => ?_)
    refine B_X_act_10 ?_
    refine E_R_act ?_
    refine B_R_act_0 ?_
    refine S_R_in ?_
    refine B_R_act_9 (fun h => absurd (if_neg hc) h) (fun _ => ?_)
    refine B_R_act_12 ?_
    exact ⟨rfl, hr⟩
/-- a digit to the base 16, to the base 128 -/
def dg (x : Int) (i : Nat) : Int := j_iand (j_ishr x (w32 (4 * (i : Int)))) 15
def dt (x : Int) (i : Nat) : Int := j_iand (j_ishr x (w32 (7 * (i : Int)))) 127
theorem dg_r (x : Int) (i : Nat) : 0 ≤ dg x i ∧ dg x i ≤ 15 := by unfold dg; rw [j_iand_15]; omega
theorem dt_r (x : Int) (i : Nat) : 0 ≤ dt x i ∧ dt x i ≤ 127 := by unfold dt; rw [j_iand_127]; omega
theorem dg_i {x i : Int} (h : 0 ≤ i) : j_iand (j_ishr x (w32 (4 * i))) 15 = dg x i.toNat := by unfold dg; rw [Int.toNat_of_nonneg h]
theorem dt_i {x i : Int} (h : 0 ≤ i) : j_iand (j_ishr x (w32 (7 * i))) 127 = dt x i.toNat := by unfold dt; rw [Int.toNat_of_nonneg h]
theorem dg_u {x i : Int} (hx : 0 ≤ x ∧ x < 2147483648) (h : 0 ≤ i ∧ i ≤ 4) : j_iushr x (w32 (4 * i)) = j_ishr x (w32 (4 * i)) := j_shr_eq hx (by unfold w32; omega)
theorem dt_u {x i : Int} (hx : 0 ≤ x ∧ x < 2147483648) (h : 0 ≤ i ∧ i ≤ 4) : j_iushr x (w32 (7 * i)) = j_ishr x (w32 (7 * i)) := j_shr_eq hx (by rw [w32_i (x := 7 * i) (by omega)]; omega)
def d_sum (f : Nat → Int) : Nat → Nat → Int → Int
  | 0, _, acc => acc
  | n + 1, i, acc => d_sum f n (i + 1) (acc + f i)
theorem LP_Ac_setChances_s (hx : 0 ≤ l3 ∧ l3 < 2147483648) (h0 : 2 ≤ M 1 0 ∧ M 1 0 ≤ 4) : ∀ (n i : Nat) (acc : Int), (i : Int) + n = M 1 0 → 0 ≤ acc → acc ≤ 15 * i → (∀ l5, vw X d 9 48 [vR 1, vI l1, vI l2, vI l3, vI (d_sum (dg l3) n i acc), vI l5] [] M Q) → vw X d 9 19 [vR 1, vI l1, vI l2, vI l3, vI acc, vI (i : Int)] [] M Q
  | 0, i, acc, hn, h1, h2, k => B_Ac_setChances_19 (fun _ => k _) (fun h => by exfalso; omega)
  | n + 1, i, acc, hn, h1, h2, k => by
    have r := dg_r l3 i
    refine B_Ac_setChances_19 (fun h => by exfalso; omega) (fun _ => B_Ac_setChances_28 ?_)
    rw [dg_u hx (i := (i : Int)) (by omega), dg_i (by omega), Int.toNat_natCast, w32_i (x := acc + dg l3 i) (by omega), w32_i (x := (i : Int) + 1) (by omega)]
    exact LP_Ac_setChances_s hx h0 n (i + 1) _ (by omega) (by omega) (by omega) k
theorem LP_R_chances_s (h0 : 2 ≤ M 81 0 ∧ M 81 0 ≤ 4) : ∀ (n i : Nat) (acc : Int), (i : Int) + n = M 81 0 → 0 ≤ acc → acc ≤ 15 * i → (∀ l5, vw X d 192 52 [vR 81, vI l1, vI l2, vI l3, vI (d_sum (dg l3) n i acc), vI l5] [] M Q) → vw X d 192 23 [vR 81, vI l1, vI l2, vI l3, vI acc, vI (i : Int)] [] M Q
  | 0, i, acc, hn, h1, h2, k => B_R_chances_23 (fun _ => k _) (fun h => by exfalso; omega)
  | n + 1, i, acc, hn, h1, h2, k => by
    have r := dg_r l3 i
    refine B_R_chances_23 (fun h => by exfalso; omega) (fun _ => B_R_chances_32 ?_)
    rw [dg_i (by omega), Int.toNat_natCast, w32_i (x := acc + dg l3 i) (by omega), w32_i (x := (i : Int) + 1) (by omega)]
    exact LP_R_chances_s h0 n (i + 1) _ (by omega) (by omega) (by omega) k
theorem LP_Ac_setChances_w (hr : Rel M) (hx : 0 ≤ l3 ∧ l3 < 2147483648) {a w : Nat} (ha : a < 4) (hw : w < 2) : ∀ (n i : Nat) (M1 : vM), (i : Int) + n = M 1 0 → M1 = ch_up M (4 + (2 * a + w)) 0 i (dg l3) → vRefs M1 → (vRefs (ch_up M (4 + (2 * a + w)) 0 (i + n) (dg l3)) → Q (some (vI 1)) (ch_up M (4 + (2 * a + w)) 0 (i + n) (dg l3))) → vw X d 9 60 [vR 1, vI (a : Int), vI (w : Int), vI l3, vI l4, vI (i : Int)] [] M1 Q
  | 0, i, M1, hn, hM, hR, k => by
    subst hM
    exact B_Ac_setChances_60 (fun _ => B_Ac_setChances_97 (k hR)) (fun h => by rw [ch_up_o (by omega)] at h; exfalso; omega)
  | n + 1, i, M1, hn, hM, hR, k => by
    have h0 := hr.2.1.1
    have b0 : w32 (w32 ((a : Int) * 2) + w) = ((2 * a + w : Nat) : Int) := by unfold w32; omega
    subst hM
    refine B_Ac_setChances_60 (fun h => by rw [ch_up_o (by omega)] at h; exfalso; omega) (fun _ => B_Ac_setChances_69 hR (by rw [b0]; omega) (by omega) (fun hR2 => ?_))
    rw [b0, Int.toNat_natCast, dg_u hx (i := (i : Int)) (by omega), dg_i (by omega), Int.toNat_natCast] at hR2 ⊢
    have e := ch_up_s (M := M) (c := 4 + (2 * a + w)) (o := 0) (n := i) (f := dg l3) rfl
    rw [Nat.zero_add] at e
    rw [e] at hR2 ⊢
    rw [w32_i (x := (i : Int) + 1) (by omega)]
    exact LP_Ac_setChances_w hr hx ha hw n (i + 1) _ (by omega) rfl hR2 (by rw [show i + 1 + n = i + (n + 1) by omega]; exact k)
theorem LP_R_chances_w {M0 : vM} (h0 : 2 ≤ M0 81 0 ∧ M0 81 0 ≤ 4) {a w : Nat} (ha : a < 4) (hw : w < 2) : ∀ (n i : Nat) (M1 : vM), (i : Int) + n = M0 81 0 → M1 = ch_up M0 83 (12 * a + 4 * w) i (dg l3) → vRefs M1 → (vRefs (ch_up M0 83 (12 * a + 4 * w) (i + n) (dg l3)) → Q (some (vI 0)) (ch_up M0 83 (12 * a + 4 * w) (i + n) (dg l3))) → vw X d 192 80 [vR 81, vI (a : Int), vI (w : Int), vI l3, vI l4, vI (i : Int)] [] M1 Q
  | 0, i, M1, hn, hM, hR, k => by
    subst hM
    exact B_R_chances_80 (fun _ => B_R_chances_120 (k hR)) (fun h => by rw [ch_up_o (by omega)] at h; exfalso; omega)
  | n + 1, i, M1, hn, hM, hR, k => by
    have b0 : w32 (w32 (w32 (12 * (a : Int)) + w32 (4 * (w : Int))) + i) = ((12 * a + 4 * w + i : Nat) : Int) := by unfold w32; omega
    subst hM
    refine B_R_chances_80 (fun h => by rw [ch_up_o (by omega)] at h; exfalso; omega) (fun _ => B_R_chances_89 hR (by rw [b0]; omega) (fun hR2 => ?_))
    rw [b0, Int.toNat_natCast, dg_i (by omega), Int.toNat_natCast] at hR2 ⊢
    rw [ch_up_s (M := M0) (c := 83) (o := 12 * a + 4 * w) (n := i) (f := dg l3) rfl] at hR2 ⊢
    rw [w32_i (x := (i : Int) + 1) (by omega)]
    exact LP_R_chances_w h0 ha hw n (i + 1) _ (by omega) rfl hR2 (by rw [show i + 1 + n = i + (n + 1) by omega]; exact k)
theorem lf_chances {f : Nat → Int} {n a w : Nat} (hr : Rel M) (hn : M 1 0 = (n : Int)) (ha : a < 4) (hw : w < 2) (hf : ∀ i, 0 ≤ f i) (hs : d_sum f n 0 0 = 12) (ha2 : (a : Int) < M 1 4) : Rel (ch_up (ch_up M (4 + (2 * a + w)) 0 n f) 83 (12 * a + 4 * w) n f) := by
  have hA := hr.2.1
  have hn4 := hA.1
  refine Rel_A ((Fr.refl.ch (fun j => by unfold sA sTmp; omega)).ch (fun j => by unfold sA sTmp; omega)) hr ?_
  generalize hM2 : ch_up (ch_up M (4 + (2 * a + w)) 0 n f) 83 (12 * a + 4 * w) n f = M2
  have c0 : ∀ b j : Nat, b ≠ 83 → ¬ (4 ≤ b ∧ b < 12) → M2 b j = M b j := fun b j hb hb2 => by rw [← hM2, ch_up_o hb, ch_up_o (by omega)]
  have c3 : ∀ a' w' s : Nat, a' < 4 → w' < 2 → s < 4 → M2 (4 + (2 * a' + w')) s = if a' = a ∧ w' = w ∧ s < n then f s else M (4 + (2 * a' + w')) s := fun a' w' s h1 h2 h3 => by
    rw [← hM2, ch_up_o (by omega)]
    unfold ch_up
    by_cases e : a' = a ∧ w' = w ∧ s < n
    · rw [if_pos (by omega), if_pos e]; rfl
    · rw [if_neg (by omega), if_neg e]
  have c4 : ∀ a' w' s : Nat, a' < 4 → w' < 2 → s < 4 → M2 83 (12 * a' + 4 * w' + s) = if a' = a ∧ w' = w ∧ s < n then f s else M 83 (12 * a' + 4 * w' + s) := fun a' w' s h1 h2 h3 => by
    rw [← hM2]
    unfold ch_up
    by_cases e : a' = a ∧ w' = w ∧ s < n
    · rw [if_pos (by omega), if_pos e, show 12 * a' + 4 * w' + s - (12 * a + 4 * w) = s by omega]
    · rw [if_neg (by omega), if_neg (by omega), if_neg e]
  clear hM2
  have hr4 : (∀ s, s < n → f s ≤ 12) ∧ ((if 0 < n then f 0 else 0) + (if 1 < n then f 1 else 0) + (if 2 < n then f 2 else 0) + (if 3 < n then f 3 else 0) = 12) := by
    have p0 := hf 0
    have p1 := hf 1
    have p2 := hf 2
    have p3 := hf 3
    rcases (show n = 2 ∨ n = 3 ∨ n = 4 by omega) with rfl | rfl | rfl
    · simp only [d_sum, Nat.zero_add, Nat.reduceAdd] at hs
      refine ⟨fun s h => ?_, by simp; omega⟩
      rcases (show s = 0 ∨ s = 1 by omega) with rfl | rfl <;> omega
    · simp only [d_sum, Nat.zero_add, Nat.reduceAdd] at hs
      refine ⟨fun s h => ?_, by simp; omega⟩
      rcases (show s = 0 ∨ s = 1 ∨ s = 2 by omega) with rfl | rfl | rfl <;> omega
    · simp only [d_sum, Nat.zero_add, Nat.reduceAdd] at hs
      refine ⟨fun s h => ?_, by simp; omega⟩
      rcases (show s = 0 ∨ s = 1 ∨ s = 2 ∨ s = 3 by omega) with rfl | rfl | rfl | rfl <;> omega
  obtain ⟨q1, q2, q3, q4, q5, q6, q7, q8, q9, q10, q11⟩ := hA
  refine ⟨by rw [c0 1 0 (by decide) (by decide)]; exact q1, by rw [c0 81 0 (by decide) (by decide), c0 1 0 (by decide) (by decide)]; exact q2, by rw [c0 1 4 (by decide) (by decide)]; exact q3, by rw [c0 81 1 (by decide) (by decide), c0 1 4 (by decide) (by decide)]; exact q4, by rw [c0 1 5 (by decide) (by decide)]; exact q5, by rw [c0 81 6 (by decide) (by decide), c0 1 5 (by decide) (by decide)]; exact q6, fun s hs => by rw [c0 82 s (by decide) (by decide), c0 2 s (by decide) (by decide)]; exact q7 s hs, fun s hs => by rw [c0 84 s (by decide) (by decide), c0 12 s (by decide) (by decide)]; exact q8 s hs, fun s hs => by rw [c0 85 s (by decide) (by decide), c0 78 s (by decide) (by decide)]; exact q9 s hs, fun a' w' s h1 h2 h3 => ?_, fun a' w' h1 h2 => ?_⟩
  · have q := q10 a' w' s h1 h2 h3
    rw [c3 a' w' s h1 h2 h3, c4 a' w' s h1 h2 h3, c0 1 4 (by decide) (by decide), c0 1 0 (by decide) (by decide)]
    by_cases e : a' = a ∧ w' = w ∧ s < n
    · rw [if_pos e, if_pos e]
      refine ⟨rfl, hf s, hr4.1 s e.2.2, fun h => ?_⟩
      exfalso; omega
    · rw [if_neg e, if_neg e]
      exact q
  · rw [c0 1 4 (by decide) (by decide)] at h1
    have h4 : a' < 4 := by omega
    rw [c3 a' w' 0 h4 h2 (by omega), c3 a' w' 1 h4 h2 (by omega), c3 a' w' 2 h4 h2 (by omega), c3 a' w' 3 h4 h2 (by omega)]
    have z := fun s hs hsn => (q10 a' w' s h4 h2 hs).2.2.2 (Or.inr hsn)
    by_cases e : a' = a ∧ w' = w
    · obtain ⟨rfl, rfl⟩ := e
      have y := hr4.2
      have z2 := z 2 (by omega)
      have z3 := z 3 (by omega)
      rcases (show n = 2 ∨ n = 3 ∨ n = 4 by omega) with rfl | rfl | rfl
      · have := z2 (by omega)
        have := z3 (by omega)
        simp at y ⊢
        omega
      · have := z3 (by omega)
        simp at y ⊢
        omega
      · simp at y ⊢
        omega
    · rw [if_neg (by omega), if_neg (by omega), if_neg (by omega), if_neg (by omega)]
      exact q11 a' w' h1 h2
theorem op_chances (hr : Rel M) (hx : -2147483648 ≤ a2 ∧ a2 < 2147483648) : cq X (d + 40) 130 [vR 0, vI a0, vI a1, vI a2] M (fun v M1 => cq X (d + 40) 192 [vR 81, vI a0, vI a1, vI a2] M1 (fun v2 M2 => v2 = v ∧ Rel M2)) := by
  have h4 := hr.2.1.2.2.1
  have hs := hr.2.1.1
  have es := hr.2.1.2.1
  by_cases h0 : 0 ≤ a0 ∧ a0 < M 1 4
  · by_cases h1 : 0 ≤ a1 ∧ a1 ≤ 1
    · obtain ⟨n, hn⟩ : ∃ n : Nat, M 1 0 = (n : Int) := ⟨(M 1 0).toNat, by omega⟩
      obtain ⟨a, rfl⟩ : ∃ a : Nat, a0 = (a : Int) := ⟨a0.toNat, by omega⟩
      obtain ⟨w, rfl⟩ : ∃ w : Nat, a1 = (w : Int) := ⟨a1.toNat, by omega⟩
      have XX : ∀ {Q : Option vV → vM → Prop}, cq X (d + 38) 9 [vR 1, vI (a : Int), vI (w : Int), vI a2] M (fun r M1 => vw X (d + 39) 130 30 [vR 0, vI (a : Int), vI (w : Int), vI a2] (r.toList ++ []) M1 Q) → cq X (d + 40) 130 [vR 0, vI (a : Int), vI (w : Int), vI a2] M Q := fun k => E_X_chances (B_X_chances_0 hr.1 (S_isAct (B_X_chances_8 (fun h => by rw [if_pos h0] at h; omega) (fun _ => B_X_chances_11 (S_isWorld (B_X_chances_15 (fun _ => B_X_chances_20 hr.1 (cq.deep (by omega) k)) (fun h => by rw [if_pos h1] at h; omega)))))))
      have RR : ∀ {M1 : vM} {Q : Option vV → vM → Prop}, M1 81 0 = M 81 0 → (∀ {l1 : Int} {Q : Option vV → vM → Prop}, Q (some (vI (if 0 ≤ l1 ∧ l1 < M 1 4 then 1 else 0))) M1 → cq X (d + 2) 186 [vR 81, vI l1] M1 Q) → (∀ l5, vw X (d + 39) 192 52 [vR 81, vI (a : Int), vI (w : Int), vI a2, vI (d_sum (dg a2) n 0 0), vI l5] [] M1 Q) → cq X (d + 40) 192 [vR 81, vI (a : Int), vI (w : Int), vI a2] M1 Q := fun {M1} {Q} e0 hi k => by
        refine E_R_chances (B_R_chances_0 (cq.deep (by omega) (hi (B_R_chances_5 (fun h => by rw [if_pos h0] at h; omega) (fun _ => B_R_chances_8 (S_R_isWorld (B_R_chances_12 (fun _ => B_R_chances_17 ?_) (fun h => by rw [if_pos h1] at h; omega))))))))
        exact LP_R_chances_s (by rw [e0]; omega) n 0 0 (by rw [e0]; omega) (by omega) (by omega) k
      by_cases hneg : a2 < 0
      · refine XX (E_Ac_setChances (B_Ac_setChances_0 (fun h => absurd h (j_shr_neg ⟨hx.1, hneg⟩ (by unfold w32; omega))) (fun _ => B_Ac_setChances_11 (B_X_chances_30 (fun _ => B_X_chances_37 ?_) (fun h => absurd rfl h)))))
        exact RR rfl (fun k => S_R_isAct hr k) (fun l5 => B_R_chances_52 (fun _ => B_R_chances_74 ⟨rfl, hr⟩) (fun h => by exfalso; omega))
      · have hx0 : 0 ≤ a2 ∧ a2 < 2147483648 := by omega
        have eu := dg_u hx0 (i := M 1 0) (by omega)
        by_cases hz : j_ishr a2 (w32 (4 * M 1 0)) = 0
        · by_cases h12 : d_sum (dg a2) n 0 0 = 12
          · refine XX (E_Ac_setChances (B_Ac_setChances_0 (fun _ => B_Ac_setChances_13 (LP_Ac_setChances_s hx0 hs n 0 0 (by omega) (by omega) (by omega) (fun l5 => B_Ac_setChances_48 (fun _ => B_Ac_setChances_57 (LP_Ac_setChances_w hr hx0 (a := a) (w := w) (by omega) (by omega) n 0 M (by omega) ch_up_0.symm hr.1 (fun hR1 => B_X_chances_30 (fun h => absurd h (by decide)) (fun _ => B_X_chances_33 ?_)))) (fun h => absurd h12 h)))) (fun h => absurd (eu.trans hz) h)))
            rw [Nat.zero_add] at hR1 ⊢
            have L := lf_chances (f := dg a2) hr hn (a := a) (w := w) (by omega) (by omega) (fun i => (dg_r a2 i).1) h12 h0.2
            have e81 : ∀ j, ch_up M (4 + (2 * a + w)) 0 n (dg a2) 81 j = M 81 j := fun j => by rw [ch_up_o (by omega)]
            have hi : ∀ {l1 : Int} {Q : Option vV → vM → Prop}, Q (some (vI (if 0 ≤ l1 ∧ l1 < M 1 4 then 1 else 0))) (ch_up M (4 + (2 * a + w)) 0 n (dg a2)) → cq X (d + 2) 186 [vR 81, vI l1] (ch_up M (4 + (2 * a + w)) 0 n (dg a2)) Q := fun {l1} {Q} k => by
              have e := hr.2.1.2.2.2.1
              have ew := w32_i (x := M 81 1 - 1) (by omega)
              exact E_R_isAct (B_R_isAct_0 (S_R_in (B_R_isAct_13 if01 (q_i k (ifc (by rw [e81, ew]; omega))))))
            refine RR (e81 0) hi (fun l5 => B_R_chances_52 (fun h => by exfalso; omega) (fun _ => B_R_chances_56 (fun h => absurd (by rw [e81, es]; exact hz) h) (fun _ => B_R_chances_67 (fun _ => B_R_chances_77 ?_) (fun h => absurd h12 h))))
            refine LP_R_chances_w (M0 := ch_up M (4 + (2 * a + w)) 0 n (dg a2)) (by rw [e81]; omega) (by omega) (by omega) n 0 _ (by rw [e81]; omega) ch_up_0.symm hR1 (fun _ => ?_)
            rw [Nat.zero_add]
            exact ⟨rfl, L⟩
          · refine XX (E_Ac_setChances (B_Ac_setChances_0 (fun _ => B_Ac_setChances_13 (LP_Ac_setChances_s hx0 hs n 0 0 (by omega) (by omega) (by omega) (fun l5 => B_Ac_setChances_48 (fun h => absurd h h12) (fun _ => B_Ac_setChances_55 (B_X_chances_30 (fun _ => B_X_chances_37 ?_) (fun h => absurd rfl h)))))) (fun h => absurd (eu.trans hz) h)))
            exact RR rfl (fun k => S_R_isAct hr k) (fun l5 => B_R_chances_52 (fun h => by exfalso; omega) (fun _ => B_R_chances_56 (fun h => absurd (by rw [es]; exact hz) h) (fun _ => B_R_chances_67 (fun h => absurd h h12) (fun _ => B_R_chances_74 ⟨rfl, hr⟩))))
        · refine XX (E_Ac_setChances (B_Ac_setChances_0 (fun h => absurd (eu.symm.trans h) hz) (fun _ => B_Ac_setChances_11 (B_X_chances_30 (fun _ => B_X_chances_37 ?_) (fun h => absurd rfl h)))))
          exact RR rfl (fun k => S_R_isAct hr k) (fun l5 => B_R_chances_52 (fun h => by exfalso; omega) (fun _ => B_R_chances_56 (fun _ => B_R_chances_74 ⟨rfl, hr⟩) (fun h => absurd (by rw [es] at h; exact h) hz)))
    · refine E_X_chances (B_X_chances_0 hr.1 (S_isAct (B_X_chances_8 (fun h => by rw [if_pos h0] at h; omega) (fun _ => B_X_chances_11 (S_isWorld (B_X_chances_15 (fun h => absurd (if_neg h1) h) (fun _ => B_X_chances_18 ?_)))))))
      exact E_R_chances (B_R_chances_0 (S_R_isAct hr (B_R_chances_5 (fun h => by rw [if_pos h0] at h; omega) (fun _ => B_R_chances_8 (S_R_isWorld (B_R_chances_12 (fun h => absurd (if_neg h1) h) (fun _ => B_R_chances_15 ⟨rfl, hr⟩)))))))
  · refine E_X_chances (B_X_chances_0 hr.1 (S_isAct (B_X_chances_8 (fun _ => B_X_chances_18 ?_) (fun h => absurd (if_neg h0) h))))
    exact E_R_chances (B_R_chances_0 (S_R_isAct hr (B_R_chances_5 (fun _ => B_R_chances_15 ⟨rfl, hr⟩) (fun h => absurd (if_neg h0) h))))
end A2
