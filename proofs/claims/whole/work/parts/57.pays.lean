/-! CONTRACTS: what they pay, signed, chosen -/
theorem a_paid_Ew {M M1 : vM} (f : ∀ b j : Nat, sRA b j → M1 b j = M b j) (hA : RA M) {p q : Nat → Int} (hp : ∀ s : Nat, (s : Int) < M 1 0 → q s = p s) {a w : Int} (ha : 0 ≤ a ∧ a < 4) (hw : 0 ≤ w ∧ w < 2) : a_paid M1 a w q = a_paid M a w p := by
  obtain ⟨h1, -⟩ := hA
  unfold a_paid
  rw [f 1 0 (by unfold sRA; omega)]
  refine a_sum_congr _ _ _ (fun j h1 h2 => ?_)
  show a_ch M1 a w j * q j.toNat = a_ch M a w j * p j.toNat
  rw [a_ch_E f ha hw, hp _ (by omega)]
theorem a_left_Ew {M M1 : vM} (f : ∀ b j : Nat, sRA b j → M1 b j = M b j) (hA : RA M) {p q : Nat → Int} (hp : ∀ s : Nat, (s : Int) < M 1 0 → q s = p s) {a w : Int} (ha : 0 ≤ a ∧ a < 4) (hw : 0 ≤ w ∧ w < 2) : a_left M1 a w q = a_left M a w p := by
  unfold a_left
  rw [a_paid_Ew f hA hp ha hw, f 2 _ (by unfold sRA; omega)]
theorem a_kept_Ew {M M1 : vM} (f : ∀ b j : Nat, sRA b j → M1 b j = M b j) (hA : RA M) {p q : Nat → Int} (hp : ∀ s : Nat, (s : Int) < M 1 0 → q s = p s) {a w : Int} (ha : 0 ≤ a ∧ a < 4) (hw : 0 ≤ w ∧ w < 2) : a_kept M1 a w q = a_kept M a w p := by
  unfold a_kept
  rw [a_paid_Ew f hA hp ha hw, a_paid_Ew (p := M 12) (q := M1 12) f hA (fun s _ => f 12 s (by unfold sRA; omega)) ha hw]
theorem a_from_Ew {M M1 : vM} (f : ∀ b j : Nat, sRA b j → M1 b j = M b j) (hA : RA M) {p q : Nat → Int} (hp : ∀ s : Nat, (s : Int) < M 1 0 → q s = p s) {w : Int} (hw : 0 ≤ w ∧ w < 2) : ∀ (n : Nat) (a b : Int), 0 ≤ a → a + n ≤ 4 → 0 ≤ b → b < 4 → a_from M1 w q n a b = a_from M w p n a b
  | 0, _, _, _, _, _, _ => rfl
  | n + 1, a, b, h0, h1, h2, h3 => by
    have e : a_rather M1 w q a b = a_rather M w p a b := by
      unfold a_rather
      rw [a_left_Ew f hA hp (a := a) (by omega) hw, a_left_Ew f hA hp (a := b) ⟨h2, h3⟩ hw, a_kept_Ew f hA hp (a := a) (by omega) hw, a_kept_Ew f hA hp (a := b) ⟨h2, h3⟩ hw]
    rw [a_from, a_from, e]
    refine a_from_Ew f hA hp hw n (a + 1) _ (by omega) (by omega) ?_ ?_
    · split <;> omega
    · split <;> omega
theorem a_ans_Ew {M M1 : vM} (f : ∀ b j : Nat, sRA b j → M1 b j = M b j) (hA : RA M) {p q : Nat → Int} (hp : ∀ s : Nat, (s : Int) < M 1 0 → q s = p s) {w : Int} (hw : 0 ≤ w ∧ w < 2) : a_ans M1 w q = a_ans M w p := by
  have h4 := hA.2.2.1
  unfold a_ans
  rw [f 1 4 (by unfold sRA; omega)]
  split
  · rfl
  · exact a_from_Ew f hA hp hw _ _ _ (by omega) (by omega) (by omega) (by omega)
theorem kw_fr {M M1 : vM} {k : Nat} (hk : k < 8) (f : ∀ b j : Nat, 59 ≤ b → b ≤ 67 → M1 b j = M b j) (s v : Int) : kw M1 k s v = kw M k s v := by
  have e1 : M1 (59 + k) = M (59 + k) := funext (fun j => f (59 + k) j (by omega) (by omega))
  unfold kw kcode
  rw [e1, f 67 k (by omega) (by omega)]
abbrev kpay (M : vM) (k : Nat) : Nat → Int := fun j => kw M k j (M 12 j)
theorem kw_r (M : vM) (k : Nat) (s v : Int) : 0 ≤ kw M k s v ∧ kw M k s v ≤ 999 := cl_r _
section CH
variable {X : vX} {d : Nat} {M : vM} {Q : Option vV → vM → Prop} {l0 l1 l2 l3 a0 a1 : Int} {q3 : Nat}
theorem LP_Ac_paid_w (hR : vRefs M) (hA : RA M) (hq : vS0[q3]? = some (.inr (0, 4))) (hp : ∀ s : Nat, (s : Int) < M 1 0 → -999 ≤ M q3 s ∧ M q3 s ≤ 999) (ha : 0 ≤ l1 ∧ l1 < 4) (hw : 0 ≤ l2 ∧ l2 < 2) : ∀ (n : Nat) (i acc : Int), 0 ≤ i → i + n = M 1 0 → -(12000 * i) ≤ acc → acc ≤ 12000 * i → Q (some (vL (a_sum (fun s => a_ch M l1 l2 s * M q3 s.toNat) n i acc))) M → vw X (d + 1) 14 6 [vR 1, vI l1, vI l2, vR (q3 : Int), vL acc, vN, vI i] [] M Q
  | 0, i, acc, h0, hn, h1, h2, k => B_Ac_paid_6 (fun h => B_Ac_paid_41 k) (fun h => by exfalso; omega)
  | n + 1, i, acc, h0, hn, h1, h2, k => by
    have hs := hA.1
    have c := a_ch_r hA ha hw (s := i) (by omega)
    have pr := mul_s' (b := a_ch M l1 l2 i) (B := 12) (a := M q3 i.toNat) (A := 999) c.2 (hp _ (by omega))
    refine B_Ac_paid_6 (fun h => by exfalso; omega) (fun h => B_Ac_paid_15 (S_Ac_chanceAt hR ha hw (by omega) (B_Ac_paid_25 hq (by omega) ?_)))
    rw [w64_i (x := a_ch M l1 l2 i * M q3 i.toNat) (by omega), w64_i (by omega), w32_i (x := i + 1) (by omega)]
    exact LP_Ac_paid_w hR hA hq hp ha hw n (i + 1) _ (by omega) (by omega) (by omega) (by omega) k
theorem S_Ac_paid_w (hR : vRefs M) (hA : RA M) (hq : vS0[q3]? = some (.inr (0, 4))) (hp : ∀ s : Nat, (s : Int) < M 1 0 → -999 ≤ M q3 s ∧ M q3 s ≤ 999) (ha : 0 ≤ l1 ∧ l1 < 4) (hw : 0 ≤ l2 ∧ l2 < 2) (k : Q (some (vL (a_paid M l1 l2 (M q3)))) M) : cq X (d + 2) 14 [vR 1, vI l1, vI l2, vR (q3 : Int)] M Q := by
  have hs := hA.1
  exact E_Ac_paid (B_Ac_paid_0 (LP_Ac_paid_w hR hA hq hp ha hw (M 1 0).toNat 0 0 (by omega) (by omega) (by omega) (by omega) k))
theorem a_paid_r_w (hA : RA M) {p : Nat → Int} (hp : ∀ s : Nat, (s : Int) < M 1 0 → -999 ≤ p s ∧ p s ≤ 999) (ha : 0 ≤ l1 ∧ l1 < 4) (hw : 0 ≤ l2 ∧ l2 < 2) : -48000 ≤ a_paid M l1 l2 p ∧ a_paid M l1 l2 p ≤ 48000 := by
  have hs := hA.1
  have := a_sum_r (f := fun s => a_ch M l1 l2 s * p s.toNat) (B := 12000) (M 1 0).toNat 0 0 0 (fun j h1 h2 => by
    have c := a_ch_r hA ha hw (s := j) (by omega)
    have pr := mul_s' (b := a_ch M l1 l2 j) (B := 12) (a := p j.toNat) (A := 999) c.2 (hp _ (by omega))
    show -12000 ≤ a_ch M l1 l2 j * p j.toNat ∧ a_ch M l1 l2 j * p j.toNat ≤ 12000
    omega) (by omega) (by omega)
  unfold a_paid
  omega
theorem S_Ac_left_w (hR : vRefs M) (hA : RA M) (hq : vS0[q3]? = some (.inr (0, 4))) (hp : ∀ s : Nat, (s : Int) < M 1 0 → -999 ≤ M q3 s ∧ M q3 s ≤ 999) (ha : 0 ≤ l1 ∧ l1 < 4) (hw : 0 ≤ l2 ∧ l2 < 2) (k : Q (some (vL (a_left M l1 l2 (M q3)))) M) : cq X (d + 3) 16 [vR 1, vI l1, vI l2, vR (q3 : Int)] M Q := by
  have c := a_cost_r hA ha
  have r := a_paid_r_w hA hp ha hw
  refine E_Ac_left (B_Ac_left_0 (S_Ac_paid_w hR hA hq hp ha hw (B_Ac_left_7 hR (by omega) (q_l k ?_))))
  rw [w32_i (x := 12 * M 2 l1.toNat) (by omega), w64_i (by omega), a_left]
theorem S_Ac_valued_w (hR : vRefs M) (hA : RA M) (ha : 0 ≤ l1 ∧ l1 < 4) (hw : 0 ≤ l2 ∧ l2 < 2) (k : Q (some (vL (a_paid M l1 l2 (M 12)))) M) : cq X (d + 3) 15 [vR 1, vI l1, vI l2] M Q :=
  E_Ac_valued (B_Ac_valued_0 hR (S_Ac_paid_w hR hA (q3 := 12) rfl (fun s hs => a_val_r hA s (by have := hA.1; omega)) ha hw (B_Ac_valued_10 k)))
theorem S_Ac_kept_w (hR : vRefs M) (hA : RA M) (hq : vS0[q3]? = some (.inr (0, 4))) (hp : ∀ s : Nat, (s : Int) < M 1 0 → -999 ≤ M q3 s ∧ M q3 s ≤ 999) (ha : 0 ≤ l1 ∧ l1 < 4) (hw : 0 ≤ l2 ∧ l2 < 2) (k : Q (some (vL (a_kept M l1 l2 (M q3)))) M) : cq X (d + 4) 17 [vR 1, vI l1, vI l2, vR (q3 : Int)] M Q := by
  have r := a_paid_r_w hA hp ha hw
  have r2 := a_paid_r_w hA (fun s hs => a_val_r hA s (by have := hA.1; omega)) ha hw
  refine E_Ac_kept (B_Ac_kept_0 (S_Ac_valued_w hR hA ha hw (B_Ac_kept_6 (S_Ac_paid_w hR hA hq hp ha hw (B_Ac_kept_13 (q_l k ?_))))))
  rw [w64_i (by omega), a_kept]
theorem S_Ac_stays_w (hR : vRefs M) (hA : RA M) (hq : vS0[q3]? = some (.inr (0, 4))) (hp : ∀ s : Nat, (s : Int) < M 1 0 → -999 ≤ M q3 s ∧ M q3 s ≤ 999) (ha : 0 ≤ l1 ∧ l1 < 4) (hw : 0 ≤ l2 ∧ l2 < 2) (k : Q (some (vI (if 12 * M 1 5 ≤ a_left M l1 l2 (M q3) then 1 else 0))) M) : cq X (d + 4) 18 [vR 1, vI l1, vI l2, vR (q3 : Int)] M Q := by
  have c := hA.2.2.2.2.1
  have e := w32_i (x := 12 * M 1 5) (by omega)
  refine E_Ac_stays (B_Ac_stays_0 (S_Ac_left_w hR hA hq hp ha hw (B_Ac_stays_7 (fun h => B_Ac_stays_23 ?_) (fun h => B_Ac_stays_19 ?_))))
  · rw [e] at h
    rw [if_neg (by omega)] at k
    exact k
  · rw [e] at h
    rw [if_pos h] at k
    exact k
theorem S_Ac_isRather_w (hR : vRefs M) (hA : RA M) (hq : vS0[q3]? = some (.inr (0, 4))) (hp : ∀ s : Nat, (s : Int) < M 1 0 → -999 ≤ M q3 s ∧ M q3 s ≤ 999) (ha : 0 ≤ l1 ∧ l1 < 4) (hb : 0 ≤ l2 ∧ l2 < 4) (hw : 0 ≤ l3 ∧ l3 < 2) (k : Q (some (vI (if a_rather M l3 (M q3) l1 l2 = true then 1 else 0))) M) : cq X (d + 5) 20 [vR 1, vI l1, vI l2, vI l3, vR (q3 : Int)] M Q := by
  refine E_Ac_isRather (B_Ac_isRather_0 (S_Ac_left_w hR hA hq hp ha hw (B_Ac_isRather_8 (S_Ac_left_w hR hA hq hp hb hw (B_Ac_isRather_18 (fun h => B_Ac_isRather_56 ?_) (fun h => B_Ac_isRather_28 (fun h2 => B_Ac_isRather_60 ?_) (fun h2 => B_Ac_isRather_36 (S_Ac_kept_w hR hA hq hp ha hw (B_Ac_isRather_44 (S_Ac_kept_w hR hA hq hp hb hw (B_Ac_isRather_52 (fun h3 => B_Ac_isRather_60 ?_) (fun h3 => B_Ac_isRather_56 ?_))))))))))))
  · rw [a_rather, if_pos (by simp only [decide_eq_true_eq]; omega)] at k
    exact k
  · rw [a_rather, if_neg (by simp only [decide_eq_true_eq]; omega)] at k
    exact k
  · rw [a_rather, if_neg (by simp only [decide_eq_true_eq]; omega)] at k
    exact k
  · rw [a_rather, if_pos (by simp only [decide_eq_true_eq]; omega)] at k
    exact k
theorem LP_Ac_answered_w (hR : vRefs M) (hA : RA M) (hq : vS0[q3]? = some (.inr (0, 4))) (hp : ∀ s : Nat, (s : Int) < M 1 0 → -999 ≤ M q3 s ∧ M q3 s ≤ 999) (hw : 0 ≤ l1 ∧ l1 < 2) : ∀ (n : Nat) (a b : Int), 0 ≤ b → b < a → a + n = M 1 4 → Q (some (vI (a_from M l1 (M q3) n a b))) M → vw X (d + 5) 19 5 [vR 1, vI l1, vR (q3 : Int), vI b, vI a] [] M Q
  | 0, a, b, h0, h1, hn, k => B_Ac_answered_5 (fun h => B_Ac_answered_40 k) (fun h => by exfalso; omega)
  | n + 1, a, b, h0, h1, hn, k => by
    have h4 := hA.2.2.1
    have e1 := w32_i (x := a + 1) (by omega)
    rw [a_from] at k
    refine B_Ac_answered_5 (fun h => by exfalso; omega) (fun h => B_Ac_answered_14 (fun h => by exfalso; omega) (fun _ => B_Ac_answered_19 (S_Ac_isRather_w hR hA hq hp (by omega) (by omega) hw (B_Ac_answered_28 (fun hb => B_Ac_answered_34 ?_) (fun hb => B_Ac_answered_31 ?_)))))
    · rw [e1]
      rw [if_neg (fun q => by rw [if_pos q] at hb; omega)] at k
      exact LP_Ac_answered_w hR hA hq hp hw n (a + 1) b h0 (by omega) (by omega) k
    · rw [e1]
      rw [if_pos (Decidable.byContradiction (fun q => hb (if_neg q)))] at k
      exact LP_Ac_answered_w hR hA hq hp hw n (a + 1) a (by omega) (by omega) (by omega) k
theorem S_Ac_answered_w (hR : vRefs M) (hA : RA M) (hq : vS0[q3]? = some (.inr (0, 4))) (hp : ∀ s : Nat, (s : Int) < M 1 0 → -999 ≤ M q3 s ∧ M q3 s ≤ 999) (hw : 0 ≤ l1 ∧ l1 < 2) (k : Q (some (vI (a_ans M l1 (M q3)))) M) : cq X (d + 6) 19 [vR 1, vI l1, vR (q3 : Int)] M Q := by
  have h4 := hA.2.2.1
  rw [a_ans] at k
  refine E_Ac_answered (B_Ac_answered_0 (B_Ac_answered_5 (fun h => B_Ac_answered_40 ?_) (fun h => B_Ac_answered_14 (fun _ => B_Ac_answered_31 ?_) (fun h => absurd rfl h))))
  · rw [if_pos (by omega)] at k
    exact k
  · rw [if_neg (by omega)] at k
    exact LP_Ac_answered_w hR hA hq hp hw _ 1 0 (by omega) (by omega) (by omega) k
theorem LP_R_gainOf_w (hR : vRefs M) (hA : RA M) (hp : ∀ s : Nat, (s : Int) < M 1 0 → -999 ≤ M 86 s ∧ M 86 s ≤ 999) (ha : 0 ≤ l1 ∧ l1 < 4) (hw : 0 ≤ l2 ∧ l2 < 2) : ∀ (n : Nat) (i acc : Int), 0 ≤ i → i + n = M 1 0 → -(12000 * i + 12000) ≤ acc → acc ≤ 12000 * i + 12000 → Q (some (vI (a_sum (fun s => a_ch M l1 l2 s * M 86 s.toNat) n i acc))) M → vw X (d + 1) 197 13 [vR 81, vI l1, vI l2, vI acc, vI i] [] M Q
  | 0, i, acc, h0, hn, h1, h2, k => B_R_gainOf_13 (fun h => B_R_gainOf_47 k) (fun h => by have := hA.2.1; exfalso; omega)
  | n + 1, i, acc, h0, hn, h1, h2, k => by
    have hs := hA.1
    have hs2 := hA.2.1
    have c := a_ch_r hA ha hw (s := i) (by omega)
    have pr := mul_s' (b := a_ch M l1 l2 i) (B := 12) (a := M 86 i.toNat) (A := 999) c.2 (hp _ (by omega))
    refine B_R_gainOf_13 (fun h => by exfalso; omega) (fun h => B_R_gainOf_22 (S_R_chance hR ha (by omega) (by omega) (B_R_gainOf_31 hR (by omega) ?_)))
    rw [c.1, w32_i (x := a_ch M l1 l2 i * M 86 i.toNat) (by omega), w32_i (x := acc + _) (by omega), w32_i (x := i + 1) (by omega)]
    exact LP_R_gainOf_w hR hA hp ha hw n (i + 1) _ (by omega) (by omega) (by omega) (by omega) k
theorem S_R_gainOf_w (hR : vRefs M) (hA : RA M) (hp : ∀ s : Nat, (s : Int) < M 1 0 → -999 ≤ M 86 s ∧ M 86 s ≤ 999) (ha : 0 ≤ l1 ∧ l1 < 4) (hw : 0 ≤ l2 ∧ l2 < 2) (k : Q (some (vI (a_left M l1 l2 (M 86)))) M) : cq X (d + 2) 197 [vR 81, vI l1, vI l2] M Q := by
  have hs := hA.1
  have c := a_cost_r hA ha
  have e := (hA.2.2.2.2.2.2.1 l1.toNat (by omega)).1
  refine E_R_gainOf (B_R_gainOf_0 hR (by omega) ?_)
  rw [e, w32_i (x := -12 * M 2 l1.toNat) (by omega)]
  refine LP_R_gainOf_w hR hA hp ha hw (M 1 0).toNat 0 _ (by omega) (by omega) (by omega) (by omega) (q_i k ?_)
  rw [a_left, a_paid, show (-12 * M 2 l1.toNat : Int) = 0 + -12 * M 2 l1.toNat by omega, a_sum_acc]
  omega
theorem LP_R_other_w (hR : vRefs M) (hA : RA M) (hp : ∀ s : Nat, (s : Int) < M 1 0 → -999 ≤ M 86 s ∧ M 86 s ≤ 999) (ha : 0 ≤ l1 ∧ l1 < 4) (hw : 0 ≤ l2 ∧ l2 < 2) : ∀ (n : Nat) (i acc : Int), 0 ≤ i → i + n = M 1 0 → -(24000 * i) ≤ acc → acc ≤ 24000 * i → Q (some (vI (a_sum (fun s => a_ch M l1 l2 s * M 12 s.toNat - a_ch M l1 l2 s * M 86 s.toNat) n i acc))) M → vw X (d + 1) 198 5 [vR 81, vI l1, vI l2, vI acc, vI i] [] M Q
  | 0, i, acc, h0, hn, h1, h2, k => B_R_other_5 (fun h => B_R_other_47 k) (fun h => by have := hA.2.1; exfalso; omega)
  | n + 1, i, acc, h0, hn, h1, h2, k => by
    have hs := hA.1
    have hs2 := hA.2.1
    have c := a_ch_r hA ha hw (s := i) (by omega)
    have hv := a_val_r hA i.toNat (by omega)
    have hq := hp i.toNat (by omega)
    have ev := (hA.2.2.2.2.2.2.2.1 i.toNat (by omega)).1
    have pr := mul_s' (b := a_ch M l1 l2 i) (B := 12) (a := M 12 i.toNat - M 86 i.toNat) (A := 1998) c.2 (by omega)
    refine B_R_other_5 (fun h => by exfalso; omega) (fun h => B_R_other_14 (S_R_chance hR ha (by omega) (by omega) (B_R_other_23 hR (by omega) (by omega) ?_)))
    rw [c.1, ev, w32_i (x := M 12 i.toNat - M 86 i.toNat) (by omega), w32_i (x := a_ch M l1 l2 i * (M 12 i.toNat - M 86 i.toNat)) (by omega), w32_i (x := acc + _) (by omega), w32_i (x := i + 1) (by omega), Int.mul_sub]
    rw [Int.mul_sub] at pr
    exact LP_R_other_w hR hA hp ha hw n (i + 1) _ (by omega) (by omega) (by omega) (by omega) k
theorem S_R_other_w (hR : vRefs M) (hA : RA M) (hp : ∀ s : Nat, (s : Int) < M 1 0 → -999 ≤ M 86 s ∧ M 86 s ≤ 999) (ha : 0 ≤ l1 ∧ l1 < 4) (hw : 0 ≤ l2 ∧ l2 < 2) (k : Q (some (vI (a_kept M l1 l2 (M 86)))) M) : cq X (d + 2) 198 [vR 81, vI l1, vI l2] M Q := by
  have hs := hA.1
  refine E_R_other (B_R_other_0 (LP_R_other_w hR hA hp ha hw (M 1 0).toNat 0 0 (by omega) (by omega) (by omega) (by omega) (q_i k ?_)))
  rw [a_kept, a_paid, a_paid, ← a_sum_sub]
  rfl
theorem LP_R_answerOf_w (hR : vRefs M) (hA : RA M) (hp : ∀ s : Nat, (s : Int) < M 1 0 → -999 ≤ M 86 s ∧ M 86 s ≤ 999) (hw : 0 ≤ l1 ∧ l1 < 2) : ∀ (n : Nat) (a b : Int) (w4 : vV), 0 ≤ b → b < a → a + n = M 1 4 → Q (some (vI (a_from M l1 (M 86) n a b))) M → vw X (d + 2) 199 4 [vR 81, vI l1, vI b, vI a, w4] [] M Q
  | 0, a, b, w4, h0, h1, hn, k => B_R_answerOf_4 (fun h => B_R_answerOf_64 k) (fun h => by have := hA.2.2.2.1; exfalso; omega)
  | n + 1, a, b, w4, h0, h1, hn, k => by
    have h4 := hA.2.2.1
    have h5 := hA.2.2.2.1
    have e1 := w32_i (x := a + 1) (by omega)
    have ca := a_cost_r hA (l1 := a) (by omega)
    have cb := a_cost_r hA (l1 := b) (by omega)
    have ra := a_paid_r_w hA hp (l1 := a) (by omega) hw
    have rb := a_paid_r_w hA hp (l1 := b) (by omega) hw
    have ea : a_left M a l1 (M 86) = a_paid M a l1 (M 86) - 12 * M 2 a.toNat := rfl
    have eb : a_left M b l1 (M 86) = a_paid M b l1 (M 86) - 12 * M 2 b.toNat := rfl
    have e2 := w32_i (x := a_left M a l1 (M 86) - a_left M b l1 (M 86)) (by omega)
    rw [a_from] at k
    refine B_R_answerOf_4 (fun h => by exfalso; omega) (fun h => B_R_answerOf_12 (S_R_gainOf_w hR hA hp (by omega) hw (B_R_answerOf_18 (S_R_gainOf_w hR hA hp (by omega) hw (B_R_answerOf_24 (fun hb => B_R_answerOf_52 ?_) (fun hb => B_R_answerOf_32 (fun hc => B_R_answerOf_56 ?_) (fun hc => B_R_answerOf_37 (S_R_other_w hR hA hp (by omega) hw (B_R_answerOf_43 (S_R_other_w hR hA hp (by omega) hw (B_R_answerOf_49 (fun he => B_R_answerOf_56 ?_) (fun he => B_R_answerOf_52 ?_))))))))))))
    · rw [e2] at hb
      rw [a_rather, if_pos (by simp only [decide_eq_true_eq]; omega)] at k
      rw [e1]
      exact LP_R_answerOf_w hR hA hp hw n (a + 1) a _ (by omega) (by omega) (by omega) k
    · rw [e2] at hb hc
      rw [a_rather, if_neg (by simp only [decide_eq_true_eq]; omega)] at k
      rw [e1]
      exact LP_R_answerOf_w hR hA hp hw n (a + 1) b _ (by omega) (by omega) (by omega) k
    · rw [e2] at hb hc
      rw [a_rather, if_neg (by simp only [decide_eq_true_eq]; omega)] at k
      rw [e1]
      exact LP_R_answerOf_w hR hA hp hw n (a + 1) b _ (by omega) (by omega) (by omega) k
    · rw [e2] at hb hc
      rw [a_rather, if_pos (by simp only [decide_eq_true_eq]; omega)] at k
      rw [e1]
      exact LP_R_answerOf_w hR hA hp hw n (a + 1) a _ (by omega) (by omega) (by omega) k
theorem S_R_answerOf_w (hR : vRefs M) (hA : RA M) (hp : ∀ s : Nat, (s : Int) < M 1 0 → -999 ≤ M 86 s ∧ M 86 s ≤ 999) (hw : 0 ≤ l1 ∧ l1 < 2) (h1 : M 1 4 ≠ 0) (k : Q (some (vI (a_ans M l1 (M 86)))) M) : cq X (d + 3) 199 [vR 81, vI l1] M Q := by
  have h4 := hA.2.2.1
  rw [a_ans, if_neg h1] at k
  exact E_R_answerOf (B_R_answerOf_0 (LP_R_answerOf_w hR hA hp hw _ 1 0 _ (by omega) (by omega) (by omega) k))

def WP (M M1 : vM) (c k i : Nat) : Prop := vRefs M1 ∧ Fr (fun b _ => b = 68 ∨ b = 111 ∨ b = c) M M1 ∧ (∀ s : Nat, s < i → M1 c s = kw M k s (M 12 s)) ∧ ∀ s : Nat, i ≤ s → M1 c s = M c s
theorem WP_s {M M1 M2 : vM} {c k i : Nat} {x : Int} (h : WP M M1 c k i) (f : Fr (fun b _ => b = 68 ∨ b = 111) M1 M2) (hc : c ≠ 68 ∧ c ≠ 111) (hR : vRefs (vm_up M2 c i x)) (hx : x = kw M k i (M 12 i)) : WP M (vm_up M2 c i x) c k (i + 1) := by
  obtain ⟨h1, h2, h3, h4⟩ := h
  refine ⟨hR, (h2.trans (f.mono (fun b j q => by omega))).up (Or.inr (Or.inr rfl)), fun s hs => ?_, fun s hs => ?_⟩
  · rw [vm_up_at]
    by_cases q : s = i
    · rw [if_pos q, q]; exact hx
    · rw [if_neg q, f c s (by omega)]; exact h3 s (by omega)
  · rw [vm_up_at, if_neg (by omega), f c s (by omega)]; exact h4 s (by omega)
theorem LP_X_writePay {k c : Nat} (hA : RA M) (hK : RK M) (hk : (k : Int) < M 56 5) (hc : c = 78 ∨ c = 79) : ∀ (n i : Nat) (M1 : vM), (i : Int) + n = M 1 0 → WP M M1 c k i → (∀ M1, WP M M1 c k (i + n) → Q none M1) → vw X (d + 36) 178 2 [vR 0, vI (k : Int), vR (c : Int), vI (i : Int)] [] M1 Q
  | 0, i, M1, hn, h, q => by
    have e10 : M1 1 0 = M 1 0 := h.2.1 1 0 (by omega)
    refine B_X_writePay_2 h.1 (E_Ac_howManySights (B_Ac_howManySights_0 (B_X_writePay_10 (fun _ => B_X_writePay_39 (q M1 h)) (fun z => by exfalso; omega))))
  | n + 1, i, M1, hn, h, q => by
    have hs := hA.1
    have e10 : M1 1 0 = M 1 0 := h.2.1 1 0 (by omega)
    have h5 := hK.2.2.2.2.1
    have hK1 : RK M1 := RK_cong (fun b j hb => h.2.1 b j (by unfold sRK at hb; omega)) hK
    have e56 : M1 56 5 = M 56 5 := h.2.1 56 5 (by omega)
    have e12 : M1 12 i = M 12 i := h.2.1 12 i (by omega)
    have hv := (hA.2.2.2.2.2.2.2.1 i (by omega)).2
    have ek := kw_fr (M := M) (M1 := M1) (k := k) (by omega) (fun b j y1 y2 => h.2.1 b j (by omega))
    have hq2 : vS0[c]? = some (.inr (0, 4)) := by rcases hc with rfl | rfl <;> rfl
    have hqf : vFree c := by rcases hc with rfl | rfl <;> exact ⟨by decide, by decide⟩
    refine B_X_writePay_2 h.1 (E_Ac_howManySights (B_Ac_howManySights_0 (B_X_writePay_10 (fun z => by exfalso; omega) (fun _ => B_X_writePay_13 h.1 (E_Ac_valueAt (B_Ac_valueAt_0 h.1 (by omega) (B_X_writePay_29 ?_)))))))
    rw [Int.toNat_natCast, e12]
    refine S_Co_paid h.1 hK1 (by rw [e56]; exact hk) (by omega) hv (fun M2 hR2 f2 => B_X_writePay_32 hq2 hqf hR2 (by omega) (fun hR3 => ?_))
    rw [Int.toNat_natCast, ek] at hR3 ⊢
    rw [w32_i (x := (i : Int) + 1) (by omega)]
    refine LP_X_writePay hA hK hk hc n (i + 1) _ (by omega) (WP_s h (f2.mono (fun b j y => Or.inl y)) (by omega) hR3 rfl) (fun M3 h3 => q M3 ?_)
    rw [show i + (n + 1) = i + 1 + n by omega]
    exact h3
theorem S_X_writePay {k c : Nat} (hR : vRefs M) (hA : RA M) (hK : RK M) (hk : (k : Int) < M 56 5) (hc : c = 78 ∨ c = 79) (q : ∀ M1, WP M M1 c k (M 1 0).toNat → Q none M1) : cq X (d + 37) 178 [vR 0, vI (k : Int), vR (c : Int)] M Q := by
  have hs := hA.1
  refine E_X_writePay (B_X_writePay_0 (LP_X_writePay hA hK hk hc (M 1 0).toNat 0 M (by omega) ⟨hR, Fr.refl, fun s y => by omega, fun s _ => rfl⟩ (fun M1 h1 => q M1 ?_)))
  rw [Nat.zero_add] at h1
  exact h1
theorem S_isContract (k : Q (some (vI (if 0 ≤ l1 ∧ l1 < M 56 5 then 1 else 0))) M) : cq X (d + 1) 39 [vR 56, vI l1] M Q :=
  E_Co_isContract (B_Co_isContract_0 (fun h => B_Co_isContract_16 (by rw [if_neg (by omega)] at k; exact k)) (fun h => B_Co_isContract_4 (fun h2 => B_Co_isContract_16 (by rw [if_neg (by omega)] at k; exact k)) (fun h2 => B_Co_isContract_12 (by rw [if_pos (by omega)] at k; exact k))))
theorem S_R_isContract (hK : 0 ≤ M 56 5 ∧ M 56 5 ≤ 8) (e : M 81 38 = M 56 5) (k : Q (some (vI (if 0 ≤ l1 ∧ l1 < M 56 5 then 1 else 0))) M) : cq X (d + 2) 262 [vR 81, vI l1] M Q := by
  have ew := w32_i (x := M 81 38 - 1) (by omega)
  exact E_R_isContract (B_R_isContract_0 (S_R_in (B_R_isContract_13 if01 (q_i k (ifc (by rw [ew]; omega))))))
theorem op_worth (hr : Rel M) : cq X (d + 40) 160 [vR 0, vI a0, vI a1] M (fun v M1 => cq X (d + 40) 263 [vR 81, vI a0, vI a1] M1 (fun v2 M2 => v2 = v ∧ Rel M2)) := by
  have hA := hr.2.1
  have hs := hA.1
  have hK := hr.2.2.2.2.2.2.1
  have h5 := hK.2.2.2.2.1
  by_cases h0 : 0 ≤ a0 ∧ a0 < M 56 5
  · by_cases h1 : 0 ≤ a1 ∧ a1 < M 1 0
    · obtain ⟨k, rfl⟩ : ∃ k : Nat, a0 = (k : Int) := ⟨a0.toNat, by omega⟩
      obtain ⟨s, rfl⟩ : ∃ s : Nat, a1 = (s : Int) := ⟨a1.toNat, by omega⟩
      have hv := hA.2.2.2.2.2.2.2.1 s (by omega)
      refine E_X_worth ?_
      refine B_X_worth_0 hr.1 ?_
      refine S_isContract ?_
      refine B_X_worth_8 (fun q9 => by rw [if_pos h0] at q9; omega) (fun _ => ?_)
      refine B_X_worth_11 hr.1 ?_
      refine S_isSight ?_
      refine B_X_worth_19 (fun _ => ?_) (fun q9 => by rw [if_pos h1] at q9; omega)
      refine B_X_worth_24 hr.1 ?_
      refine E_Ac_valueAt ?_
      refine B_Ac_valueAt_0 hr.1 (by omega) ?_
      refine B_X_worth_38 ?_
      rw [Int.toNat_natCast]
      refine S_Co_paid (d := d + 4) hr.1 hK h0.2 (by omega) hv.2 (fun M1 hR1 f1 => B_X_worth_41 ?_)
      have f1' : Fr sTmp M M1 := f1.mono (fun b j y => by unfold sTmp; omega)
      have hr1 := Rel_fr f1' hr
      have e56 : M1 56 5 = M 56 5 := f1 56 5 (show ¬ ((56 : Nat) = 68) by decide)
      have e10 : M1 1 0 = M 1 0 := f1 1 0 (show ¬ ((1 : Nat) = 68) by decide)
      have e84 : M1 84 s = M 12 s := by rw [f1 84 s (show ¬ ((84 : Nat) = 68) by decide)]; exact hv.1
      rw [← e56] at h0
      rw [← e10] at h1
      refine E_R_worth ?_
      refine B_R_worth_0 ?_
      refine S_R_isContract (by omega) hr1.2.2.2.2.2.2.1.2.2.2.1 ?_
      refine B_R_worth_5 (fun q9 => by rw [if_pos h0] at q9; omega) (fun _ => ?_)
      refine B_R_worth_8 ?_
      refine S_R_isSight hr1 ?_
      refine B_R_worth_13 (fun q9 => by rw [if_pos h1] at q9; omega) (fun _ => ?_)
      refine B_R_worth_16 ?_
      refine S_R_worthOf hr1.1 hr1.2.2.2.2.2.2.1 h0.2 (by omega) (by rw [e84]; exact hv.2) (fun M2 hR2 f2 => B_R_worth_22 ⟨?_, Rel_fr (f2.mono (fun b j y => by unfold sTmp; omega)) hr1⟩)
      rw [e84, kw_fr (M := M) (M1 := M1) (by omega) (fun b j y1 y2 => f1 b j (by omega))]
    · refine E_X_worth ?_
      refine B_X_worth_0 hr.1 ?_
      refine S_isContract ?_
      refine B_X_worth_8 (fun q9 => by rw [if_pos h0] at q9; omega) (fun _ => ?_)
      refine B_X_worth_11 hr.1 ?_
      refine S_isSight ?_
      refine B_X_worth_19 (fun q9 => absurd (if_neg h1) q9) (fun _ => ?_)
      refine B_X_worth_22 ?_
      refine E_R_worth ?_
      refine B_R_worth_0 ?_
      refine S_R_isContract h5 hK.2.2.2.1 ?_
      refine B_R_worth_5 (fun q9 => by rw [if_pos h0] at q9; omega) (fun _ => ?_)
      refine B_R_worth_8 ?_
      refine S_R_isSight hr ?_
      refine B_R_worth_13 (fun _ => ?_) (fun q9 => absurd (if_neg h1) q9)
      refine B_R_worth_25 ?_
      exact ⟨rfl, hr⟩
  · refine E_X_worth ?_
    refine B_X_worth_0 hr.1 ?_
    refine S_isContract ?_
    refine B_X_worth_8 (fun _ => ?_) (fun q9 => absurd (if_neg h0) q9)
    refine B_X_worth_22 ?_
    refine E_R_worth ?_
    refine B_R_worth_0 ?_
    refine S_R_isContract h5 hK.2.2.2.1 ?_
    refine B_R_worth_5 (fun _ => ?_) (fun q9 => absurd (if_neg h0) q9)
    refine B_R_worth_25 ?_
    exact ⟨rfl, hr⟩
end CH
