/-! A YEAR GOES BY -/
def ly (M : vM) : Int := (M 70 7 * 75 + 74) % 65537
def sg (M : vM) (a w x : Int) : Nat → Nat → Int → Int
  | 0, _, _ => -1
  | n + 1, s, up => if x < up + a_ch M a w s then (s : Int) else sg M a w x n (s + 1) (up + a_ch M a w s)
theorem sg_r {M : vM} {a w x : Int} : ∀ (n s : Nat) (up : Int), x < a_sum (fun s => a_ch M a w s) n s up → up ≤ x → 0 ≤ sg M a w x n s up ∧ sg M a w x n s up < s + n
  | 0, s, up, h, h2 => by rw [a_sum] at h; omega
  | n + 1, s, up, h, h2 => by
    rw [sg]
    rw [a_sum] at h
    by_cases q : x < up + a_ch M a w s
    · rw [if_pos q]; omega
    · rw [if_neg q]
      have := sg_r n (s + 1) (up + a_ch M a w s) h (by omega)
      omega
theorem a_twelve {M : vM} (hA : RA M) {a w : Int} (ha : 0 ≤ a ∧ a < M 1 4) (hw : 0 ≤ w ∧ w < 2) : a_sum (fun s => a_ch M a w s) (M 1 0).toNat 0 0 = 12 := by
  obtain ⟨q1, q2, q3, q4, q5, q6, q7, q8, q9, q10, q11⟩ := hA
  have e := q11 a.toNat w.toNat (by omega) (by omega)
  have z := fun s hs h => (q10 a.toNat w.toNat s (by omega) (by omega) hs).2.2.2 (Or.inr h)
  rcases (show M 1 0 = 2 ∨ M 1 0 = 3 ∨ M 1 0 = 4 by omega) with h | h | h
  · rw [h]
    have z2 := z 2 (by omega) (by omega)
    have z3 := z 3 (by omega) (by omega)
    show 0 + a_ch M a w 0 + a_ch M a w (0 + 1) = 12
    unfold a_ch
    simp only [Int.toNat_zero, Int.zero_add, Int.toNat_one]
    omega
  · rw [h]
    have z3 := z 3 (by omega) (by omega)
    show 0 + a_ch M a w 0 + a_ch M a w (0 + 1) + a_ch M a w (0 + 1 + 1) = 12
    unfold a_ch
    simp only [Int.toNat_zero, Int.zero_add, Int.toNat_one, show ((1 : Int) + 1).toNat = 2 by decide]
    omega
  · rw [h]
    show 0 + a_ch M a w 0 + a_ch M a w (0 + 1) + a_ch M a w (0 + 1 + 1) + a_ch M a w (0 + 1 + 1 + 1) = 12
    unfold a_ch
    simp only [Int.toNat_zero, Int.zero_add, Int.toNat_one, show ((1 : Int) + 1).toNat = 2 by decide, show ((1 : Int) + 1 + 1).toNat = 3 by decide]
    omega
theorem j_ixor12 {x : Int} (hx : 0 ≤ x ∧ x < 2147483648) : 0 ≤ j_ixor x 12 := by
  unfold j_ixor
  show 0 ≤ (Int32.ofInt x ^^^ Int32.ofInt 12).toBitVec.toInt
  rw [Int32.toBitVec_xor, Int32.toBitVec_ofInt, Int32.toBitVec_ofInt]
  have h1 : (BitVec.ofInt 32 x ^^^ BitVec.ofInt 32 12).toNat < 2 ^ 31 := by
    rw [BitVec.toNat_xor, BitVec.toNat_ofInt, BitVec.toNat_ofInt]
    exact Nat.xor_lt_two_pow (by show (x % 4294967296).toNat < 2147483648; omega) (by decide)
  rw [BitVec.toInt_eq_toNat_of_lt (by omega)]
  omega
/-- the cells of a year that went by -/
def yr_up (M : vM) (n : Nat) (c1 c2 c3 c4 c5 c6 : Nat) (v1 v2 v3 v4 v5 v6 : Int) : vM := fun b j => if j = n then (if b = c1 then v1 else if b = c2 then v2 else if b = c3 then v3 else if b = c4 then v4 else if b = c5 then v5 else if b = c6 then v6 else M b j) else M b j
theorem ly_r {M : vM} (h : 0 ≤ M 70 7 ∧ M 70 7 ≤ 65536) : 0 ≤ ly M ∧ ly M ≤ 65536 := by unfold ly; omega
/-- the same where only the cells of acts agree -/
theorem a_ch_E {M M1 : vM} (f : ∀ b j : Nat, sRA b j → M1 b j = M b j) {a w s : Int} (ha : 0 ≤ a ∧ a < 4) (hw : 0 ≤ w ∧ w < 2) : a_ch M1 a w s = a_ch M a w s := f _ _ (by unfold sRA; omega)
theorem a_paid_E {M M1 : vM} (f : ∀ b j : Nat, sRA b j → M1 b j = M b j) (hA : RA M) {p q : Nat → Int} (hp : ∀ s, s < 4 → q s = p s) {a w : Int} (ha : 0 ≤ a ∧ a < 4) (hw : 0 ≤ w ∧ w < 2) : a_paid M1 a w q = a_paid M a w p := by
  obtain ⟨h1, -⟩ := hA
  unfold a_paid
  rw [f 1 0 (by unfold sRA; omega)]
  refine a_sum_congr _ _ _ (fun j h1 h2 => ?_)
  show a_ch M1 a w j * q j.toNat = a_ch M a w j * p j.toNat
  rw [a_ch_E f ha hw, hp _ (by omega)]
theorem a_left_E {M M1 : vM} (f : ∀ b j : Nat, sRA b j → M1 b j = M b j) (hA : RA M) {p q : Nat → Int} (hp : ∀ s, s < 4 → q s = p s) {a w : Int} (ha : 0 ≤ a ∧ a < 4) (hw : 0 ≤ w ∧ w < 2) : a_left M1 a w q = a_left M a w p := by
  unfold a_left
  rw [a_paid_E f hA hp ha hw, f 2 _ (by unfold sRA; omega)]
theorem a_kept_E {M M1 : vM} (f : ∀ b j : Nat, sRA b j → M1 b j = M b j) (hA : RA M) {p q : Nat → Int} (hp : ∀ s, s < 4 → q s = p s) {a w : Int} (ha : 0 ≤ a ∧ a < 4) (hw : 0 ≤ w ∧ w < 2) : a_kept M1 a w q = a_kept M a w p := by
  unfold a_kept
  rw [a_paid_E f hA hp ha hw, a_paid_E (p := M 12) (q := M1 12) f hA (fun s _ => f 12 s (by unfold sRA; omega)) ha hw]
theorem a_from_E {M M1 : vM} (f : ∀ b j : Nat, sRA b j → M1 b j = M b j) (hA : RA M) {p q : Nat → Int} (hp : ∀ s, s < 4 → q s = p s) {w : Int} (hw : 0 ≤ w ∧ w < 2) : ∀ (n : Nat) (a b : Int), 0 ≤ a → a + n ≤ 4 → 0 ≤ b → b < 4 → a_from M1 w q n a b = a_from M w p n a b
  | 0, _, _, _, _, _, _ => rfl
  | n + 1, a, b, h0, h1, h2, h3 => by
    have e : a_rather M1 w q a b = a_rather M w p a b := by
      unfold a_rather
      rw [a_left_E f hA hp (a := a) (by omega) hw, a_left_E f hA hp (a := b) ⟨h2, h3⟩ hw, a_kept_E f hA hp (a := a) (by omega) hw, a_kept_E f hA hp (a := b) ⟨h2, h3⟩ hw]
    rw [a_from, a_from, e]
    refine a_from_E f hA hp hw n (a + 1) _ (by omega) (by omega) ?_ ?_
    · split <;> omega
    · split <;> omega
theorem a_ans_E {M M1 : vM} (f : ∀ b j : Nat, sRA b j → M1 b j = M b j) (hA : RA M) {p q : Nat → Int} (hp : ∀ s, s < 4 → q s = p s) {w : Int} (hw : 0 ≤ w ∧ w < 2) : a_ans M1 w q = a_ans M w p := by
  have h4 := hA.2.2.1
  unfold a_ans
  rw [f 1 4 (by unfold sRA; omega)]
  split
  · rfl
  · exact a_from_E f hA hp hw _ _ _ (by omega) (by omega) (by omega) (by omega)
theorem vm_up_at {M : vM} {c n y : Nat} {v : Int} : vm_up M c n v c y = if y = n then v else M c y := by
  unfold vm_up
  by_cases h : y = n
  · rw [if_pos ⟨rfl, h⟩, if_pos h]
  · rw [if_neg (fun q => h q.2), if_neg h]
section YE
variable {X : vX} {d : Nat} {M : vM} {Q : Option vV → vM → Prop} {l0 l1 l2 l3 l4 l5 a0 a1 a2 : Int}
theorem S_Ye_nextLot (hl : 0 ≤ M 70 7 ∧ M 70 7 ≤ 65536) (k : Q (some (vI (ly M))) M) : cq X (d + 1) 122 [vR 70] M Q := by
  refine E_Ye_nextLot (B_Ye_nextLot_0 (q_i k ?_))
  rw [w32_i (x := M 70 7 * 75) (by omega), w32_i (x := M 70 7 * 75 + 74) (by omega), j_irem_eq (by omega) (by omega), Int.tmod_eq_emod_of_nonneg (by omega), ly]
theorem S_Ye_pass {n : Nat} (hR : vRefs M) (hn : M 70 6 = (n : Int)) (h : n < 60) (hl : 0 ≤ M 70 7 ∧ M 70 7 ≤ 65536) (k : vRefs (vm_up (vm_up (vm_up (vm_up (vm_up (vm_up (vm_up (vm_up M 71 n l1) 72 n l2) 73 n l3) 74 n l4) 75 n (ly M)) 76 n (M 70 7)) 70 7 (ly M)) 70 6 ((n : Int) + 1)) → Q none (vm_up (vm_up (vm_up (vm_up (vm_up (vm_up (vm_up (vm_up M 71 n l1) 72 n l2) 73 n l3) 74 n l4) 75 n (ly M)) 76 n (M 70 7)) 70 7 (ly M)) 70 6 ((n : Int) + 1))) : cq X (d + 2) 123 [vR 70, vI l1, vI l2, vI l3, vI l4] M Q := by
  have e1 : w32 ((n : Int) + 1) = (n : Int) + 1 := by unfold w32; omega
  refine E_Ye_pass (B_Ye_pass_0 hR ?_ ?_ ?_ ?_ (fun hR1 => ?_))
  · omega
  · simp (disch := decide) only [vm_up_o, vm_up_s, vm_up_k, hn]
    omega
  · simp (disch := decide) only [vm_up_o, vm_up_s, vm_up_k, hn]
    omega
  · simp (disch := decide) only [vm_up_o, vm_up_s, vm_up_k, hn]
    omega
  · simp (disch := decide) only [vm_up_o, vm_up_s, vm_up_k, hn, Int.toNat_natCast] at hR1 ⊢
    have el : ly (vm_up (vm_up (vm_up (vm_up M 71 n l1) 72 n l2) 73 n l3) 74 n l4) = ly M := by
      unfold ly
      simp (disch := decide) only [vm_up_o, vm_up_s, vm_up_k]
    refine S_Ye_nextLot ?_ ?_
    · simp (disch := decide) only [vm_up_o, vm_up_s, vm_up_k]
      exact hl
    · rw [el]
      refine B_Ye_pass_53 hR1 (by omega) ?_ ?_ (fun hR2 => ?_)
      · simp (disch := decide) only [vm_up_o, vm_up_s, vm_up_k, hn]
        omega
      · simp (disch := decide) only [vm_up_o, vm_up_s, vm_up_k, hn]
        omega
      · simp (disch := decide) only [vm_up_o, vm_up_s, vm_up_k, hn, Int.toNat_natCast, e1] at hR2 ⊢
        exact k hR2
theorem S_J_floorMod12 (h : 0 ≤ l0 ∧ l0 < 2147483648) (k : Q (some (vI (l0 % 12))) M) : cq X (d + 1) 282 [vI l0, vI 12] M Q := by
  have e : j_irem l0 12 = l0 % 12 := by rw [j_irem_eq (by omega) (by omega), Int.tmod_eq_emod_of_nonneg h.1]
  refine E_J_floorMod (B_J_floorMod_0 (by decide) (fun _ => B_J_floorMod_18 (by rw [e]; exact k)) (fun q => ?_))
  have := j_ixor12 h
  exfalso; omega
theorem LP_Ac_sightAt (hr : Rel M) (ha : 0 ≤ l1 ∧ l1 < 4) (hw : 0 ≤ l2 ∧ l2 < 2) : ∀ (n s : Nat) (up : Int), (s : Int) + n = M 1 0 → 0 ≤ up → up ≤ 12 * s → Q (some (vI (sg M l1 l2 l3 n s up))) M → vw X (d + 1) 21 6 [vR 1, vI l1, vI l2, vI l3, vI up, vI (s : Int)] [] M Q
  | 0, s, up, hn, h1, h2, k => B_Ac_sightAt_6 (fun _ => B_Ac_sightAt_43 k) (fun h => by exfalso; omega)
  | n + 1, s, up, hn, h1, h2, k => by
    have hs := hr.2.1.1
    have c := (a_ch_r hr.2.1 ha hw (s := (s : Int)) (by omega)).2
    rw [sg] at k
    refine B_Ac_sightAt_6 (fun h => by exfalso; omega) (fun _ => ?_)
    refine B_Ac_sightAt_15 ?_
    refine S_Ac_chanceAt hr.1 ha hw (by omega) ?_
    have e1 := w32_i (x := up + a_ch M l1 l2 (s : Int)) (by omega)
    refine B_Ac_sightAt_25 (fun h => B_Ac_sightAt_37 ?_) (fun h => B_Ac_sightAt_34 ?_)
    · rw [e1] at h ⊢
      rw [if_neg (by omega)] at k
      rw [w32_i (x := (s : Int) + 1) (by omega)]
      exact LP_Ac_sightAt hr ha hw n (s + 1) _ (by omega) (by omega) (by omega) k
    · rw [e1] at h
      rw [if_pos h] at k
      exact k
theorem S_Ac_sightAt (hr : Rel M) (ha : 0 ≤ l1 ∧ l1 < 4) (hw : 0 ≤ l2 ∧ l2 < 2) (k : Q (some (vI (sg M l1 l2 l3 (M 1 0).toNat 0 0))) M) : cq X (d + 2) 21 [vR 1, vI l1, vI l2, vI l3] M Q := by
  have hs := hr.2.1.1
  exact E_Ac_sightAt (B_Ac_sightAt_0 (LP_Ac_sightAt hr ha hw (M 1 0).toNat 0 0 (by omega) (by omega) (by omega) k))
/-- the reference's loop: memory N, whose chances are M's -/
theorem LP_R_year {N : vM} (hr : Rel M) (hR : vRefs N) (ha : 0 ≤ l2 ∧ l2 < 4) (hw : 0 ≤ l1 ∧ l1 < 2) (hc : ∀ s : Nat, s < 4 → a_rc N l2 l1 s = a_ch M l2 l1 s) {x : Int} (hx : j_irem (N 81 48) 12 = x) : ∀ (n s : Nat) (up : Int), (s : Int) + (n + 1) = M 1 0 → 0 ≤ up → up ≤ 12 * s → up ≤ x → x < a_sum (fun s => a_ch M l2 l1 s) (n + 1) s up → (∀ l5, vw X (d + 1) 267 134 [vR 81, vI l1, vI l2, vI l3, vI (sg M l2 l1 x (n + 1) s up), vI l5] [] N Q) → vw X (d + 1) 267 103 [vR 81, vI l1, vI l2, vI l3, vI (s : Int), vI (up + a_ch M l2 l1 s)] [] N Q
  | 0, s, up, hn, h1, h2, h3, h4, k => by
    rw [a_sum, a_sum] at h4
    rw [sg, if_pos h4] at k
    exact B_R_year_103 (fun _ => k _) (fun h => by exfalso; omega)
  | n + 1, s, up, hn, h1, h2, h3, h4, k => by
    have hs := hr.2.1.1
    have c := (a_ch_r hr.2.1 ha hw (s := (s : Int)) (by omega)).2
    have c2 := (a_ch_r hr.2.1 ha hw (s := ((s + 1 : Nat) : Int)) (by omega)).2
    rw [a_sum] at h4
    rw [sg] at k
    refine B_R_year_103 (fun h => ?_) (fun h => ?_)
    · rw [hx] at h
      rw [if_pos h] at k
      exact k _
    · rw [hx] at h
      rw [if_neg (by omega)] at k
      refine B_R_year_115 ?_
      rw [w32_i (x := (s : Int) + 1) (by omega), show (s : Int) + 1 = ((s + 1 : Nat) : Int) by omega]
      refine S_R_chance hR ha (by omega) (by omega) (B_R_year_128 ?_)
      rw [hc (s + 1) (by omega), w32_i (x := up + a_ch M l2 l1 s + a_ch M l2 l1 ((s + 1 : Nat) : Int)) (by omega)]
      exact LP_R_year hr hR ha hw hc hx n (s + 1) _ (by omega) (by omega) (by omega) h h4 k
theorem LP_R_looks (hA : RA M) : ∀ (n : Nat) (i : Int) (M1 : vM), 0 ≤ i → i + n = 4 → vRefs M1 → Fr sTmp M M1 → (∀ s : Nat, (s : Int) < i → M1 86 s = M 78 s) → (∀ M1, vRefs M1 → Fr sTmp M M1 → (∀ s : Nat, s < 4 → M1 86 s = M 78 s) → Q none M1) → vw X d 196 2 [vR 81, vI i] [] M1 Q
  | 0, i, M1, h0, hn, hR, f, h, k => B_R_looksAtTold_2 (fun _ => B_R_looksAtTold_25 (k M1 hR f (fun s hs => h s (by omega)))) (fun h => by exfalso; omega)
  | n + 1, i, M1, h0, hn, hR, f, h, k => by
    refine B_R_looksAtTold_2 (fun h => by exfalso; omega) (fun _ => B_R_looksAtTold_7 hR (by omega) (by omega) (fun hR2 => ?_))
    rw [f 85 i.toNat (by unfold sTmp; omega), (hA.2.2.2.2.2.2.2.2.1 i.toNat (by omega)).1] at hR2 ⊢
    rw [w32_i (x := i + 1) (by omega)]
    refine LP_R_looks hA n (i + 1) _ (by omega) (by omega) hR2 (f.up (by unfold sTmp; omega)) (fun s hs => ?_) k
    rw [vm_up_at]
    by_cases e : s = i.toNat
    · rw [if_pos e, e]
    · rw [if_neg e]
      exact h s (by omega)
theorem S_R_looks (hR : vRefs M) (hA : RA M) (k : ∀ M1, vRefs M1 → Fr sTmp M M1 → (∀ s : Nat, s < 4 → M1 86 s = M 78 s) → Q none M1) : cq X (d + 1) 196 [vR 81] M Q :=
  E_R_looksAtTold (B_R_looksAtTold_0 (LP_R_looks hA 4 0 M (by omega) (by omega) hR Fr.refl (fun s hs => by exfalso; omega) k))
def yr_R (N : vM) (n : Nat) (a s p v L : Int) : vM := vm_up (vm_up (vm_up (vm_up (vm_up (vm_up N 112 n a) 113 n s) 114 n p) 115 n v) 116 n L) 81 49 ((n : Int) + 1)
def yr_X (M : vM) (n : Nat) (a s p v : Int) : vM := vm_up (vm_up (vm_up (vm_up (vm_up (vm_up (vm_up (vm_up M 71 n a) 72 n s) 73 n p) 74 n v) 75 n (ly M)) 76 n (M 70 7)) 70 7 (ly M)) 70 6 ((n : Int) + 1)
theorem R_year_st {N : vM} {n : Nat} {a w L s p v : Int} (hR : vRefs N) (hs : 0 ≤ s ∧ s < 4) (s78 : N 86 s.toNat = p) (s84 : N 84 s.toNat = v) (hL : N 81 48 = L) (hn : N 81 49 = (n : Int)) (h60 : n < 60) (k1 : l3 = 0 → Q (some (vI s)) (yr_R N n a s p v L)) (k2 : ¬ l3 = 0 → Q (some (vI (-3))) (yr_R N n a (-1) 0 0 L)) : vw X d 267 134 [vR 81, vI w, vI a, vI l3, vI s, vI l5] [] N Q := by
  have e1 : w32 ((n : Int) + 1) = (n : Int) + 1 := by unfold w32; omega
  refine B_R_year_134 hR (by omega) (fun h hR2 => ?_) (fun h hR2 => ?_)
  · simp (disch := decide) only [vm_up_o, vm_up_s, vm_up_k, hn, Int.toNat_natCast] at hR2 ⊢
    refine B_R_year_160 hR2 (by omega) (fun _ hR3 => ?_) (fun q => absurd h q)
    simp (disch := decide) only [vm_up_o, vm_up_s, vm_up_k, hn, Int.toNat_natCast] at hR3 ⊢
    refine B_R_year_179 hR3 (by omega) (by omega) (fun _ hR4 => ?_) (fun q => absurd h q)
    simp (disch := decide) only [vm_up_o, vm_up_s, vm_up_k, hn, s78, Int.toNat_natCast] at hR4 ⊢
    refine B_R_year_203 hR4 (by omega) (by omega) ?_ (fun _ hR5 => ?_) (fun q => absurd h q)
    · simp (disch := decide) only [vm_up_o, vm_up_s, vm_up_k, hn]
      omega
    · simp (disch := decide) only [vm_up_o, vm_up_s, vm_up_k, hn, s84, hL, e1, Int.toNat_natCast] at hR5 ⊢
      exact B_R_year_243 (k1 h)
  · simp (disch := decide) only [vm_up_o, vm_up_s, vm_up_k, hn, Int.toNat_natCast] at hR2 ⊢
    refine B_R_year_156 hR2 (by omega) (fun q => absurd q h) (fun _ hR3 => ?_)
    simp (disch := decide) only [vm_up_o, vm_up_s, vm_up_k, hn, Int.toNat_natCast] at hR3 ⊢
    refine B_R_year_175 hR3 (by omega) (fun q => absurd q h) (fun _ hR4 => ?_)
    simp (disch := decide) only [vm_up_o, vm_up_s, vm_up_k, hn, Int.toNat_natCast] at hR4 ⊢
    refine B_R_year_199 hR4 (by omega) ?_ (fun q => absurd q h) (fun _ hR5 => ?_)
    · simp (disch := decide) only [vm_up_o, vm_up_s, vm_up_k, hn]
      omega
    · simp (disch := decide) only [vm_up_o, vm_up_s, vm_up_k, hn, hL, e1, Int.toNat_natCast] at hR5 ⊢
      exact B_R_year_238 (k2 h)
theorem R_year_2 {N : vM} {n : Nat} {a w L : Int} (hr : Rel M) (hR : vRefs N) (E : ∀ b j : Nat, sRA b j → N b j = M b j) (hp : ∀ s : Nat, s < 4 → N 86 s = M 78 s) (hL : N 81 48 = L) (hL2 : 0 ≤ L ∧ L ≤ 65536) (hn : N 81 49 = (n : Int)) (h60 : n < 60) (ha : 0 ≤ a ∧ a < M 1 4) (hw : 0 ≤ w ∧ w < 2)
    (k1 : 12 * M 1 5 ≤ a_left M a w (M 78) → Q (some (vI (sg M a w (L % 12) (M 1 0).toNat 0 0))) (yr_R N n a (sg M a w (L % 12) (M 1 0).toNat 0 0) (M 78 (sg M a w (L % 12) (M 1 0).toNat 0 0).toNat) (M 12 (sg M a w (L % 12) (M 1 0).toNat 0 0).toNat) L))
    (k2 : ¬ 12 * M 1 5 ≤ a_left M a w (M 78) → Q (some (vI (-3))) (yr_R N n a (-1) 0 0 L)) :
    cq X (d + 3) 197 [vR 81, vI a, vI w] N (fun r M1 => wp X (d + 3) 267 75 [vR 81, vI w, vI a, vN, vN, vN] (r.toList ++ []) (vS0, M1) (vP Q)) := by
  have hA := hr.2.1
  have hs := hA.1
  have h4 := hA.2.2.1
  have ha4 : 0 ≤ a ∧ a < 4 := by omega
  have hAN := RA_cong E hA
  have e6 : N 81 6 = M 1 5 := by rw [E 81 6 (by unfold sRA; omega)]; exact hA.2.2.2.2.2.1
  have r5 := hA.2.2.2.2.1
  have hx : j_irem (N 81 48) 12 = L % 12 := by rw [hL, j_irem_eq (by omega) (by omega), Int.tmod_eq_emod_of_nonneg hL2.1]
  have hc : ∀ s : Nat, s < 4 → a_rc N a w s = a_ch M a w s := fun s hs4 => by
    rw [← (a_ch_r hA ha4 hw (s := (s : Int)) (by omega)).1]
    exact E _ _ (by unfold sRA; omega)
  have tw := a_twelve hA ha hw
  have g : ∀ (l3 : Int), (l3 = 0 ∨ l3 = 1) → (l3 = 0 → 12 * M 1 5 ≤ a_left M a w (M 78)) → (l3 = 1 → ¬ 12 * M 1 5 ≤ a_left M a w (M 78)) → vw X (d + 3) 267 103 [vR 81, vI w, vI a, vI l3, vI 0, vI (a_ch M a w ((0 : Nat) : Int))] [] N Q := fun l3 h01 hi ho => by
    obtain ⟨m, hm⟩ : ∃ m : Nat, M 1 0 = (m : Int) + 1 := ⟨(M 1 0 - 1).toNat, by omega⟩
    have em : (M 1 0).toNat = m + 1 := by omega
    rw [em] at tw k1
    have sr := sg_r (M := M) (a := a) (w := w) (x := L % 12) (m + 1) 0 0 (by show L % 12 < a_sum _ _ 0 0; rw [tw]; omega) (by omega)
    have sz := show sg M a w (L % 12) (m + 1) 0 0 < 4 by omega
    rw [← Int.zero_add (a_ch M a w ((0 : Nat) : Int))]
    refine LP_R_year (d := d + 2) hr hR ha4 hw hc hx m 0 0 (by omega) (by omega) (by omega) (by omega) (by show L % 12 < a_sum _ _ 0 0; rw [tw]; omega) (fun l5 => ?_)
    refine R_year_st hR (s := sg M a w (L % 12) (m + 1) 0 0) (by omega) (hp _ (by omega)) ?_ hL hn h60 (fun h => k1 (hi h)) (fun h => k2 (ho (by omega)))
    rw [E 84 _ (by unfold sRA; omega)]
    exact (hA.2.2.2.2.2.2.2.1 _ (by omega)).1
  refine S_R_gainOf hR hAN (fun s hs => by rw [hp s hs]; exact a_told_r hA s hs) ha4 hw ?_
  rw [a_left_E E hA hp ha4 hw]
  refine B_R_year_75 (fun h => B_R_year_89 ?_) (fun h => B_R_year_85 ?_)
  · rw [e6, w32_i (x := 12 * M 1 5) (by omega)] at h
    refine S_R_chance hR ha4 (by omega) (by omega) (B_R_year_101 ?_)
    rw [show a_rc N a w 0 = a_ch M a w ((0 : Nat) : Int) from hc 0 (by omega)]
    exact g 0 (Or.inl rfl) (fun _ => h) (fun q => absurd q (by decide))
  · rw [e6, w32_i (x := 12 * M 1 5) (by omega)] at h
    refine S_R_chance hR ha4 (by omega) (by omega) (B_R_year_101 ?_)
    rw [show a_rc N a w 0 = a_ch M a w ((0 : Nat) : Int) from hc 0 (by omega)]
    exact g 1 (Or.inr rfl) (fun q => absurd q (by decide)) (fun _ => by omega)
theorem lf_year {n : Nat} {a s p v : Int} {N1 : vM} (hr : Rel M) (hn : M 70 6 = (n : Int)) (h60 : n < 60) (f : Fr sTmp (yr_X M n a s p v) N1) (ha : 0 ≤ a ∧ a < 4) (hs : -1 ≤ s ∧ s < M 1 0) (hp : 0 ≤ p ∧ p ≤ 999) (hv : -99 ≤ v ∧ v ≤ 99) : Rel (yr_R (vm_up (vm_up N1 117 n (M 70 7)) 81 48 (ly M)) n a s p v (ly M)) := by
  have hY := hr.2.2.2.2.2.2.2.1
  have hl := hY.2.2.1
  have hl2 := ly_r hl
  have e10 : ∀ j, N1 1 j = M 1 j := fun j => by
    rw [f 1 j (by unfold sTmp; omega)]
    unfold yr_X
    simp (disch := decide) only [vm_up_o, vm_up_s, vm_up_k]
  refine Rel_Y ?_ hr ?_
  · have f0 : Fr sY M (yr_X M n a s p v) := by
      unfold yr_X
      exact (((((((Fr.refl.up (by unfold sY; omega)).up (by unfold sY; omega)).up (by unfold sY; omega)).up (by unfold sY; omega)).up (by unfold sY; omega)).up (by unfold sY; omega)).up (by unfold sY; omega)).up (by unfold sY; omega)
    have f1 : Fr sY M N1 := f0.trans (f.mono (fun b j h => Or.inl h))
    unfold yr_R
    exact (((((((f1.up (by unfold sY; omega)).up (by unfold sY; omega)).up (by unfold sY; omega)).up (by unfold sY; omega)).up (by unfold sY; omega)).up (by unfold sY; omega)).up (by unfold sY; omega)).up (by unfold sY; omega)
  · have A : ∀ c y, c ≠ 112 → c ≠ 113 → c ≠ 114 → c ≠ 115 → c ≠ 116 → c ≠ 117 → c ≠ 81 → yr_R (vm_up (vm_up N1 117 n (M 70 7)) 81 48 (ly M)) n a s p v (ly M) c y = N1 c y := fun c y q1 q2 q3 q4 q5 q6 q7 => by
      unfold yr_R
      rw [vm_up_o q7, vm_up_o q5, vm_up_o q4, vm_up_o q3, vm_up_o q2, vm_up_o q1, vm_up_o q7, vm_up_o q6]
    have B : ∀ c y, 112 ≤ c → c ≤ 117 → N1 c y = M c y := fun c y q1 q2 => by
      rw [f c y (by unfold sTmp; omega)]
      unfold yr_X
      rw [vm_up_o (by omega), vm_up_o (by omega), vm_up_o (by omega), vm_up_o (by omega), vm_up_o (by omega), vm_up_o (by omega), vm_up_o (by omega), vm_up_o (by omega)]
    refine RY_of (n := n) (L := ly M) (v1 := a) (v2 := s) (v3 := p) (v4 := v) (v5 := ly M) (v6 := M 70 7) hY hn h60 ?_ ?_ ?_ ?_ ?_ hl2 (fun y => ?_) (fun y => ?_) ha (fun y => ?_) (fun y => ?_) hs (fun y => ?_) (fun y => ?_) hp (fun y => ?_) (fun y => ?_) hv (fun y => ?_) (fun y => ?_) hl2 (fun y => ?_) (fun y => ?_) hl
    · rw [A 1 0 (by decide) (by decide) (by decide) (by decide) (by decide) (by decide) (by decide), e10]
    · rw [A 70 6 (by decide) (by decide) (by decide) (by decide) (by decide) (by decide) (by decide), f 70 6 (by unfold sTmp; omega)]
      unfold yr_X
      simp (disch := decide) only [vm_up_o, vm_up_s, vm_up_k]
    · unfold yr_R
      simp (disch := decide) only [vm_up_o, vm_up_s, vm_up_k]
    · rw [A 70 7 (by decide) (by decide) (by decide) (by decide) (by decide) (by decide) (by decide), f 70 7 (by unfold sTmp; omega)]
      unfold yr_X
      simp (disch := decide) only [vm_up_o, vm_up_s, vm_up_k]
    · unfold yr_R
      simp (disch := decide) only [vm_up_o, vm_up_s, vm_up_k]
    · rw [A 71 y (by decide) (by decide) (by decide) (by decide) (by decide) (by decide) (by decide), f 71 y (by unfold sTmp; omega)]
      unfold yr_X
      simp (disch := decide) only [vm_up_o, vm_up_at]
    · unfold yr_R
      simp (disch := decide) only [vm_up_o, vm_up_at]
      rw [B 112 y (by decide) (by decide)]
    · rw [A 72 y (by decide) (by decide) (by decide) (by decide) (by decide) (by decide) (by decide), f 72 y (by unfold sTmp; omega)]
      unfold yr_X
      simp (disch := decide) only [vm_up_o, vm_up_at]
    · unfold yr_R
      simp (disch := decide) only [vm_up_o, vm_up_at]
      rw [B 113 y (by decide) (by decide)]
    · rw [A 73 y (by decide) (by decide) (by decide) (by decide) (by decide) (by decide) (by decide), f 73 y (by unfold sTmp; omega)]
      unfold yr_X
      simp (disch := decide) only [vm_up_o, vm_up_at]
    · unfold yr_R
      simp (disch := decide) only [vm_up_o, vm_up_at]
      rw [B 114 y (by decide) (by decide)]
    · rw [A 74 y (by decide) (by decide) (by decide) (by decide) (by decide) (by decide) (by decide), f 74 y (by unfold sTmp; omega)]
      unfold yr_X
      simp (disch := decide) only [vm_up_o, vm_up_at]
    · unfold yr_R
      simp (disch := decide) only [vm_up_o, vm_up_at]
      rw [B 115 y (by decide) (by decide)]
    · rw [A 75 y (by decide) (by decide) (by decide) (by decide) (by decide) (by decide) (by decide), f 75 y (by unfold sTmp; omega)]
      unfold yr_X
      simp (disch := decide) only [vm_up_o, vm_up_at]
    · unfold yr_R
      simp (disch := decide) only [vm_up_o, vm_up_at]
      rw [B 116 y (by decide) (by decide)]
    · rw [A 76 y (by decide) (by decide) (by decide) (by decide) (by decide) (by decide) (by decide), f 76 y (by unfold sTmp; omega)]
      unfold yr_X
      simp (disch := decide) only [vm_up_o, vm_up_at]
    · unfold yr_R
      simp (disch := decide) only [vm_up_o, vm_up_at]
      rw [B 117 y (by decide) (by decide)]
/-- the reference's year, behind the class's -/
theorem R_year {n : Nat} {w s p v a : Int} (hr : Rel M) (ea : a_ans M w (M 78) = a) (hn : M 70 6 = (n : Int)) (h60 : n < 60) (hw : 0 ≤ w ∧ w ≤ 1) (h4 : M 1 4 ≠ 0) (hR : vRefs (yr_X M n a s p v))
    (k1 : 12 * M 1 5 ≤ a_left M a w (M 78) → s = sg M a w (ly M % 12) (M 1 0).toNat 0 0 ∧ p = M 78 s.toNat ∧ v = M 12 s.toNat) (k2 : ¬ 12 * M 1 5 ≤ a_left M a w (M 78) → s = -1 ∧ p = 0 ∧ v = 0) :
    cq X (d + 10) 267 [vR 81, vI w] (yr_X M n a s p v) (fun v2 M2 => v2 = some (vI (if 12 * M 1 5 ≤ a_left M a w (M 78) then s else -3)) ∧ Rel M2) := by
  have hA := hr.2.1
  have hY := hr.2.2.2.2.2.2.2.1
  have hl := hY.2.2.1
  have ar := (a_ans_r (M := M) (w := w) (p := M 78) hA.2.2.1.1).2.2 h4
  have h44 := hA.2.2.1
  have hs0 := hA.1
  have e4 := hA.2.2.2.1
  rw [ea] at ar
  have E0 : ∀ b j : Nat, ¬ (70 ≤ b ∧ b ≤ 76) → yr_X M n a s p v b j = M b j := fun b j hb => by
    unfold yr_X
    rw [vm_up_o (by omega), vm_up_o (by omega), vm_up_o (by omega), vm_up_o (by omega), vm_up_o (by omega), vm_up_o (by omega), vm_up_o (by omega), vm_up_o (by omega)]
  have hA0 : RA (yr_X M n a s p v) := RA_cong (fun b j hb => E0 b j (by unfold sRA at hb; omega)) hA
  have g1 : yr_X M n a s p v 81 1 = M 1 4 := by rw [E0 81 1 (by omega)]; exact e4
  have g2 : yr_X M n a s p v 81 49 = (n : Int) := by rw [E0 81 49 (by omega), hY.2.1]; exact hn
  refine E_R_year ?_
  refine B_R_year_0 ?_
  refine S_R_isWorld ?_
  refine B_R_year_4 (fun h => by rw [if_pos hw] at h; omega) (fun _ => ?_)
  refine B_R_year_7 (fun _ => ?_) (fun h => by exfalso; omega)
  refine B_R_year_16 (fun _ => ?_) (fun h => by exfalso; omega)
  refine B_R_year_28 ?_
  refine S_R_looks hR hA0 (fun N1 hR1 f hp => ?_)
  have E1 : ∀ b j : Nat, sRA b j → N1 b j = M b j := fun b j hb => by rw [f b j (by unfold sRA at hb; unfold sTmp; omega), E0 b j (by unfold sRA at hb; omega)]
  have hp1 : ∀ s : Nat, s < 4 → N1 86 s = M 78 s := fun s hs => by rw [hp s hs, E0 78 s (by omega)]
  have hA1 := RA_cong E1 hA
  refine B_R_year_32 (S_R_answerOf hR1 hA1 (fun s hs => by rw [hp1 s hs]; exact a_told_r hA s hs) (by omega) (by rw [E1 1 4 (by unfold sRA; omega)]; exact h4) ?_)
  rw [a_ans_E E1 hA hp1 (by omega), ea]
  have g49 : N1 81 49 = (n : Int) := by rw [f 81 49 (by unfold sTmp; omega)]; exact g2
  have g48 : N1 81 48 = M 70 7 := by rw [f 81 48 (by unfold sTmp; omega), E0 81 48 (by omega)]; exact hY.2.2.2.1
  have ev : j_irem (w32 (w32 (75 * M 70 7) + 74)) 65537 = ly M := by
    rw [w32_i (x := 75 * M 70 7) (by omega), w32_i (x := 75 * M 70 7 + 74) (by omega), j_irem_eq (by omega) (by omega), Int.tmod_eq_emod_of_nonneg (by omega), ly, Int.mul_comm]
  refine B_R_year_37 hR1 (by omega) (fun hR2 => ?_)
  simp (disch := decide) only [vm_up_o, vm_up_s, vm_up_k, g49, g48, ev, Int.toNat_natCast] at hR2 ⊢
  refine R_year_2 (d := d + 6) (L := ly M) (n := n) hr hR2 (fun b j hb => ?_) (fun s hs => ?_) vm_up_s (ly_r hl) ?_ h60 (by omega) (by omega) (fun h => ?_) (fun h => ?_)
  · rw [show vm_up (vm_up N1 117 n (M 70 7)) 81 48 (ly M) b j = N1 b j by unfold vm_up; rw [if_neg (by unfold sRA at hb; omega), if_neg (by unfold sRA at hb; omega)]]
    exact E1 b j hb
  · simp (disch := decide) only [vm_up_o, vm_up_s, vm_up_k]
    exact hp1 s hs
  · simp (disch := decide) only [vm_up_o, vm_up_s, vm_up_k]
    exact g49
  · obtain ⟨rfl, rfl, rfl⟩ := k1 h
    rw [if_pos h]
    have tw := a_twelve hA (a := a) (w := w) (by omega) (by omega)
    have sr := sg_r (M := M) (a := a) (w := w) (x := ly M % 12) (M 1 0).toNat 0 0 (by show ly M % 12 < a_sum _ _ 0 0; rw [tw]; omega) (by have := ly_r hl; omega)
    refine ⟨rfl, lf_year hr hn h60 f (by omega) (by omega) ?_ ?_⟩
    · exact (hA.2.2.2.2.2.2.2.2.1 _ (by omega)).2
    · exact (hA.2.2.2.2.2.2.2.1 _ (by omega)).2
  · obtain ⟨rfl, rfl, rfl⟩ := k2 h
    rw [if_neg h]
    exact ⟨rfl, lf_year hr hn h60 f (by omega) (by omega) (by omega) (by omega)⟩
theorem op_year (hr : Rel M) : cq X (d + 40) 164 [vR 0, vI a0] M (fun v M1 => cq X (d + 40) 267 [vR 81, vI a0] M1 (fun v2 M2 => v2 = v ∧ Rel M2)) := by
  have hA := hr.2.1
  have hY := hr.2.2.2.2.2.2.2.1
  have hl := hY.2.2.1
  have h44 := hA.2.2.1
  have hs0 := hA.1
  have e4 := hA.2.2.2.1
  have h60 := hY.1
  have e49 := hY.2.1
  have ar := a_ans_r (M := M) (w := a0) (p := M 78) hA.2.2.1.1
  refine E_X_year (B_X_year_0 (S_X_answer hr ?_))
  by_cases hw : 0 ≤ a0 ∧ a0 ≤ 1
  · rw [if_pos hw]
    by_cases h4 : M 1 4 = 0
    · refine B_X_year_5 (fun h => absurd (ar.2.1.mpr h4) h) (fun _ => B_X_year_11 ?_)
      refine E_R_year ?_
      refine B_R_year_0 ?_
      refine S_R_isWorld ?_
      refine B_R_year_4 (fun h => by rw [if_pos hw] at h; omega) (fun _ => ?_)
      refine B_R_year_7 (fun h => by exfalso; omega) (fun _ => ?_)
      refine B_R_year_14 ?_
      exact ⟨rfl, hr⟩
    · have ar2 := ar.2.2 h4
      refine B_X_year_5 (fun _ => ?_) (fun h => by exfalso; omega)
      by_cases hf : M 70 6 < 60
      · obtain ⟨n, hn⟩ : ∃ n : Nat, M 70 6 = (n : Int) := ⟨(M 70 6).toNat, by omega⟩
        refine B_X_year_13 hr.1 ?_
        refine E_Ye_isFull ?_
        refine B_Ye_isFull_0 (fun _ => ?_) (fun h => by exfalso; omega)
        refine B_Ye_isFull_13 ?_
        refine B_X_year_20 (fun _ => ?_) (fun h => absurd rfl h)
        refine B_X_year_26 hr.1 ?_
        refine S_Ac_stays (q3 := 78) hr.1 hA rfl (a_told_r hA) (by omega) (by omega) ?_
        by_cases ho : 12 * M 1 5 ≤ a_left M (a_ans M a0 (M 78)) a0 (M 78)
        · have tw := a_twelve hA (a := a_ans M a0 (M 78)) (w := a0) (by omega) (by omega)
          have sr := sg_r (M := M) (a := a_ans M a0 (M 78)) (w := a0) (x := ly M % 12) (M 1 0).toNat 0 0 (by show ly M % 12 < a_sum _ _ 0 0; rw [tw]; omega) (by have := ly_r hl; omega)
          refine B_X_year_39 (fun _ => B_X_year_56 hr.1 (S_Ye_nextLot hl (B_X_year_69 (S_J_floorMod12 (by have := ly_r hl; omega) (B_X_year_74 (S_Ac_sightAt hr (by omega) (by omega) (B_X_year_77 hr.1 (S_isSight (B_X_year_86 (fun _ => B_X_year_91 hr.1 (by omega) (E_Ac_valueAt (B_Ac_valueAt_0 hr.1 (by omega) (B_X_year_111 (S_Ye_pass hr.1 hn (by omega) hl (fun hR => B_X_year_114 ?_)))))) (fun h => by rw [if_pos (by omega)] at h; omega)))))))))) (fun h => by rw [if_pos ho] at h; omega)
          have := R_year (X := X) (d := d + 30) hr rfl hn (by omega) hw h4 hR (fun _ => ⟨rfl, rfl, rfl⟩) (fun q => absurd ho q)
          rw [if_pos ho] at this
          exact this
        · refine B_X_year_39 (fun h => absurd (if_neg ho) h) (fun _ => B_X_year_42 hr.1 (S_Ye_pass hr.1 hn (by omega) hl (fun hR => B_X_year_53 ?_)))
          have := R_year (X := X) (d := d + 30) hr rfl hn (by omega) hw h4 hR (fun q => absurd q ho) (fun _ => ⟨rfl, rfl, rfl⟩)
          rw [if_neg ho] at this
          exact this
      · refine B_X_year_13 hr.1 ?_
        refine E_Ye_isFull ?_
        refine B_Ye_isFull_0 (fun h => by exfalso; omega) (fun _ => ?_)
        refine B_Ye_isFull_9 ?_
        refine B_X_year_20 (fun h => absurd h (by decide)) (fun _ => ?_)
        refine B_X_year_23 ?_
        refine E_R_year ?_
        refine B_R_year_0 ?_
        refine S_R_isWorld ?_
        refine B_R_year_4 (fun h => by rw [if_pos hw] at h; omega) (fun _ => ?_)
        refine B_R_year_7 (fun _ => ?_) (fun h => by exfalso; omega)
        refine B_R_year_16 (fun h => by exfalso; omega) (fun _ => ?_)
        refine B_R_year_25 ?_
        exact ⟨rfl, hr⟩
  · rw [if_neg hw]
    refine B_X_year_5 (fun h => absurd rfl h) (fun _ => B_X_year_11 ?_)
    refine E_R_year ?_
    refine B_R_year_0 ?_
    refine S_R_isWorld ?_
    refine B_R_year_4 (fun _ => ?_) (fun h => absurd (if_neg hw) h)
    refine B_R_year_14 ?_
    exact ⟨rfl, hr⟩
end YE
