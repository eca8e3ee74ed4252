/-! FRACTIONS: what is above, below, without a common divisor; a look -/
theorem vm_up_k {M : vM} {a k j : Nat} {x : Int} (h : j ≠ k) : vm_up M a k x a j = M a j := if_neg (fun q => h q.2)
theorem l64_e {x : Int} (hx : -9223372036854775808 ≤ x ∧ x < 9223372036854775808) : (Int64.ofInt x).toInt = x := by rw [w64_of, w64_i hx]
theorem j_ldiv_eq {x y : Int} (hx : -9223372036854775808 < x ∧ x < 9223372036854775808) (hy : 0 < y ∧ y < 9223372036854775808) : j_ldiv x y = x.tdiv y := by
  have h1 : (x.tdiv y).natAbs ≤ x.natAbs := by
    rw [Int.natAbs_tdiv]
    exact Nat.div_le_self _ _
  unfold j_ldiv
  rw [Int64.toInt_div, l64_e (by omega), l64_e (by omega)]
  show (x.tdiv y).bmod 18446744073709551616 = _
  rw [w64_bmod, w64_i (by omega)]
theorem j_lrem_eq {x y : Int} (hx : 0 ≤ x ∧ x < 9223372036854775808) (hy : 0 < y ∧ y < 9223372036854775808) : j_lrem x y = x % y := by
  have h1 : x.tdiv y = x / y := Int.tdiv_eq_ediv_of_nonneg hx.1
  have h2 : 0 ≤ x / y := Int.ediv_nonneg hx.1 (by omega)
  have h3 : x / y ≤ x := Int.ediv_le_self y hx.1
  have h4 := Int.mul_ediv_add_emod x y
  have h5 := Int.emod_nonneg x (show y ≠ 0 by omega)
  have h6 : x / y * y = y * (x / y) := Int.mul_comm _ _
  have h7 : 0 ≤ x / y * y := Int.mul_nonneg h2 (by omega)
  unfold j_lrem
  rw [Int64.toInt_sub, Int64.toInt_mul, Int64.toInt_div, l64_e (by omega), l64_e (by omega)]
  show (x - ((x.tdiv y).bmod 18446744073709551616 * y).bmod 18446744073709551616).bmod 18446744073709551616 = _
  rw [w64_bmod, w64_bmod, w64_bmod, h1, w64_i (x := x / y) (by omega), w64_i (x := x / y * y) (by omega), w64_i (by omega)]
  omega
theorem j_lrem_n {a b : Nat} (ha : a < 9223372036854775808) (hb : 0 < b) (hb2 : b < 9223372036854775808) : j_lrem (a : Int) (b : Int) = ((a % b : Nat) : Int) := by
  rw [j_lrem_eq (by omega) (by omega), Int.natCast_emod]
/-- what is above (0), below (1) -/
def fr (p q : Int) (w : Int) : Int := if w = 0 then (mkRat p q.toNat).num else ((mkRat p q.toNat).den : Int)
theorem fr_eq {p q p' q' w : Int} (h : p * q' = p' * q) (hq : 0 < q) (hq' : 0 < q') : fr p q w = fr p' q' w := by
  have e : mkRat p q.toNat = mkRat p' q'.toNat := (Rat.mkRat_eq_iff (by omega) (by omega)).mpr (by rw [Int.toNat_of_nonneg (by omega), Int.toNat_of_nonneg (by omega)]; exact h)
  unfold fr
  rw [e]
theorem fr_div {p q : Int} {w : Int} (hp : -9223372036854775808 < p ∧ p < 9223372036854775808) (hq : 0 < q ∧ q < 9223372036854775808) : (if w = 0 then j_ldiv p ((Nat.gcd q.toNat p.natAbs : Nat) : Int) else j_ldiv q ((Nat.gcd q.toNat p.natAbs : Nat) : Int)) = fr p q w ∧ ((Nat.gcd q.toNat p.natAbs : Nat) : Int) ≠ 0 ∧ 0 < ((Nat.gcd q.toNat p.natAbs : Nat) : Int) := by
  have g0 : 0 < Nat.gcd q.toNat p.natAbs := Nat.gcd_pos_of_pos_left _ (by omega)
  have gl : Nat.gcd q.toNat p.natAbs ≤ q.toNat := Nat.gcd_le_left _ (by omega)
  have d1 : ((Nat.gcd q.toNat p.natAbs : Nat) : Int) ∣ p := Int.ofNat_dvd_left.mpr (Nat.gcd_dvd_right _ _)
  refine ⟨?_, by omega, by omega⟩
  unfold fr
  by_cases h : w = 0
  · rw [if_pos h, if_pos h, j_ldiv_eq hp (by omega), Rat.num_mkRat, if_neg (by omega)]
    exact Int.tdiv_eq_ediv_of_dvd d1
  · rw [if_neg h, if_neg h, j_ldiv_eq (by omega) (by omega), Rat.den_mkRat, if_neg (by omega), Int.natCast_ediv, Int.toNat_of_nonneg (by omega), Int.tdiv_eq_ediv_of_nonneg (by omega)]
theorem gcd_half {a b k : Nat} (hb : b < 2 ^ (k + 1)) (h0 : b ≠ 0) (h1 : a % b ≠ 0) : b % (a % b) < 2 ^ k := by
  have h2 : a % b < b := Nat.mod_lt _ (by omega)
  have h3 : b % (a % b) < a % b := Nat.mod_lt _ (by omega)
  have h4 := Nat.div_add_mod b (a % b)
  have h5 : 1 ≤ b / (a % b) := (Nat.one_le_div_iff (by omega)).mpr (by omega)
  have h6 : a % b ≤ (a % b) * (b / (a % b)) := Nat.le_mul_of_pos_right _ h5
  rw [Nat.pow_succ] at hb
  omega
section FR
variable {X : vX} {d : Nat} {M : vM} {Q : Option vV → vM → Prop} {l0 l1 l2 l3 l4 l5 a0 a1 a2 : Int}
theorem LP_X_gcd : ∀ (k a b : Nat) (t : Int) (w9 : vV), a < 9223372036854775808 → b < 2 ^ k → b < 9223372036854775808 → 0 ≤ t → t + 2 * k + 1 ≤ 1000 → Q (some (vL ((Nat.gcd b a : Nat) : Int))) M → vw X d 183 9 [vL l0, vN, vL l2, vN, vL (a : Int), vN, vL (b : Int), vN, vI t, w9, vN] [] M Q
  | 0, a, b, t, w9, ha, hb, hb2, h0, ht, k => by
    have : b = 0 := by omega
    subst this
    rw [Nat.gcd_zero_left] at k
    refine B_X_commonDivisor_9 (fun h => by exfalso; omega) (fun _ => ?_)
    refine B_X_commonDivisor_17 (fun _ => ?_) (fun h => absurd rfl h)
    refine B_X_commonDivisor_45 ?_
    exact k
  | n + 1, a, b, t, w9, ha, hb, hb2, h0, ht, k => by
    by_cases hz : b = 0
    · subst hz
      rw [Nat.gcd_zero_left] at k
      refine B_X_commonDivisor_9 (fun h => by exfalso; omega) (fun _ => ?_)
      refine B_X_commonDivisor_17 (fun _ => ?_) (fun h => absurd rfl h)
      refine B_X_commonDivisor_45 ?_
      exact k
    · refine B_X_commonDivisor_9 (fun h => by exfalso; omega) (fun _ => ?_)
      refine B_X_commonDivisor_17 (fun h => by exfalso; omega) (fun _ => ?_)
      refine B_X_commonDivisor_24 (by omega) ?_
      rw [j_lrem_n ha (by omega) hb2, w32_i (x := t + 1) (by omega)]
      have hm : a % b < b := Nat.mod_lt _ (by omega)
      by_cases hz2 : a % b = 0
      · have e : Nat.gcd b a = b := by rw [Nat.gcd_rec, hz2, Nat.gcd_zero_left]
        rw [e] at k
        rw [hz2]
        refine B_X_commonDivisor_9 (fun h => by exfalso; omega) (fun _ => ?_)
        refine B_X_commonDivisor_17 (fun _ => ?_) (fun h => absurd rfl h)
        refine B_X_commonDivisor_45 ?_
        exact k
      · refine B_X_commonDivisor_9 (fun h => by exfalso; omega) (fun _ => ?_)
        refine B_X_commonDivisor_17 (fun h => by exfalso; omega) (fun _ => ?_)
        refine B_X_commonDivisor_24 (by omega) ?_
        rw [j_lrem_n hb2 (by omega) (by omega), w32_i (x := t + 1 + 1) (by omega)]
        refine LP_X_gcd n (a % b) (b % (a % b)) (t + 1 + 1) _ (by omega) (gcd_half hb hz hz2) (Nat.lt_of_le_of_lt (Nat.mod_le _ _) hb2) (by omega) (by omega) ?_
        rw [← Nat.gcd_rec (a % b) b, ← Nat.gcd_rec b a]
        exact k
theorem LP_R_gcd : ∀ (k a b : Nat) (w8 : vV), a < 9223372036854775808 → b < 2 ^ k → b < 9223372036854775808 → Q (some (vL ((Nat.gcd b a : Nat) : Int))) M → vw X d 207 17 [vL l0, vN, vL l2, vN, vL (a : Int), vN, vL (b : Int), vN, w8, vN] [] M Q
  | 0, a, b, w9, ha, hb, hb2, k => by
    have : b = 0 := by omega
    subst this
    rw [Nat.gcd_zero_left] at k
    exact B_R_divisor_17 (fun _ => B_R_divisor_42 k) (fun h => absurd rfl h)
  | n + 1, a, b, w9, ha, hb, hb2, k => by
    by_cases hz : b = 0
    · subst hz
      rw [Nat.gcd_zero_left] at k
      exact B_R_divisor_17 (fun _ => B_R_divisor_42 k) (fun h => absurd rfl h)
    · refine B_R_divisor_17 (fun h => by exfalso; omega) (fun _ => ?_)
      refine B_R_divisor_24 (by omega) ?_
      rw [j_lrem_n ha (by omega) hb2]
      have hm : a % b < b := Nat.mod_lt _ (by omega)
      by_cases hz2 : a % b = 0
      · have e : Nat.gcd b a = b := by rw [Nat.gcd_rec, hz2, Nat.gcd_zero_left]
        rw [e] at k
        rw [hz2]
        exact B_R_divisor_17 (fun _ => B_R_divisor_42 k) (fun h => absurd rfl h)
      · refine B_R_divisor_17 (fun h => by exfalso; omega) (fun _ => ?_)
        refine B_R_divisor_24 (by omega) ?_
        rw [j_lrem_n hb2 (by omega) (by omega)]
        refine LP_R_gcd n (a % b) (b % (a % b)) _ (by omega) (gcd_half hb hz hz2) (Nat.lt_of_le_of_lt (Nat.mod_le _ _) hb2) ?_
        rw [← Nat.gcd_rec (a % b) b, ← Nat.gcd_rec b a]
        exact k
theorem S_J_abs (h : -9223372036854775808 < l0 ∧ l0 < 9223372036854775808) (k : Q (some (vL ((l0.natAbs : Nat) : Int))) M) : cq X (d + 1) 283 [vL l0] M Q := by
  refine E_J_abs (B_J_abs_0 (fun q => B_J_abs_11 ?_) (fun q => B_J_abs_6 ?_))
  · rw [show ((l0.natAbs : Nat) : Int) = l0 by omega] at k
    exact k
  · rw [show ((l0.natAbs : Nat) : Int) = -l0 by omega] at k
    rw [w64_i (by omega)]
    exact k
theorem S_X_part (hp : -9223372036854775808 < l0 ∧ l0 < 9223372036854775808) (hq : 0 < l2 ∧ l2 < 9223372036854775808) (k : Q (some (vL (if 0 ≤ l4 ∧ l4 ≤ 1 then fr l0 l2 l4 else -9223372036854775808))) M) : cq X (d + 3) 182 [vL l0, vL l2, vI l4] M Q := by
  obtain ⟨hf, g0, g1⟩ := fr_div (w := l4) hp hq
  refine E_X_part ?_
  refine B_X_part_0 ?_
  refine S_J_abs hp ?_
  refine B_X_part_4 ?_
  refine E_X_commonDivisor ?_
  refine B_X_commonDivisor_0 ?_
  rw [show l2 = ((l2.toNat : Nat) : Int) by omega]
  refine LP_X_gcd 63 l0.natAbs l2.toNat 0 _ (by omega) (by omega) (by omega) (by omega) (by omega) ?_
  rw [← show l2 = ((l2.toNat : Nat) : Int) by omega]
  refine B_X_part_8 ?_
  refine S_within ?_
  by_cases hw : 0 ≤ l4 ∧ l4 ≤ 1
  · rw [if_pos hw] at k
    refine B_X_part_17 (fun h => by rw [if_pos hw] at h; omega) (fun _ => ?_)
    refine B_X_part_20 (fun h => by exfalso; omega) (fun _ => ?_)
    refine B_X_part_26 (fun _ => ?_) (fun h => by exfalso; omega)
    refine B_X_part_37 (fun h => B_X_part_46 g0 ?_) (fun h => B_X_part_42 g0 ?_)
    · rw [if_neg h] at hf
      rw [hf]
      exact k
    · rw [if_pos h] at hf
      rw [hf]
      exact k
  · rw [if_neg hw] at k
    exact B_X_part_17 (fun _ => B_X_part_33 k) (fun h => absurd (if_neg hw) h)
theorem S_R_part (hp : -9223372036854775808 < l0 ∧ l0 < 9223372036854775808) (hq : 0 < l2 ∧ l2 < 9223372036854775808) (k : Q (some (vL (fr l0 l2 l4))) M) : cq X (d + 2) 208 [vL l0, vL l2, vI l4] M Q := by
  obtain ⟨hf, g0, g1⟩ := fr_div (w := l4) hp hq
  refine E_R_part ?_
  refine B_R_part_0 ?_
  refine E_R_divisor ?_
  have go : Q (some (vL (fr l0 l2 l4))) M → vw X d 207 17 [vL l0, vN, vL l2, vN, vL ((l0.natAbs : Nat) : Int), vN, vL l2, vN, vN, vN] [] M (fun r M1 => wp X (d + 1) 208 5 [vL l0, vN, vL l2, vN, vI l4, vN, vN] (r.toList ++ []) (vS0, M1) (vP Q)) := fun k => by
    have e2 : l2 = ((l2.toNat : Nat) : Int) := by omega
    have : vw X d 207 17 [vL l0, vN, vL l2, vN, vL ((l0.natAbs : Nat) : Int), vN, vL ((l2.toNat : Nat) : Int), vN, vN, vN] [] M (fun r M1 => wp X (d + 1) 208 5 [vL l0, vN, vL l2, vN, vI l4, vN, vN] (r.toList ++ []) (vS0, M1) (vP Q)) := by
      refine LP_R_gcd 63 l0.natAbs l2.toNat _ (by omega) (by omega) (by omega) ?_
      refine B_R_part_5 (fun h => B_R_part_19 g0 ?_) (fun h => B_R_part_12 g0 ?_)
      · rw [if_neg h] at hf
        rw [hf]
        exact k
      · rw [if_pos h] at hf
        rw [hf]
        exact k
    rw [← e2] at this
    exact this
  refine B_R_divisor_0 (fun h => B_R_divisor_11 ?_) (fun h => B_R_divisor_6 ?_)
  · have := go k
    rw [show ((l0.natAbs : Nat) : Int) = l0 by omega] at this
    exact this
  · have := go k
    rw [show ((l0.natAbs : Nat) : Int) = -l0 by omega] at this
    rw [w64_i (by omega)]
    exact this
theorem op_look (hr : Rel M) : cq X (d + 40) 154 [vR 0, vI a0, vI a1, vI a2] M (fun v M1 => cq X (d + 40) 242 [vR 81, vI a0, vI a1, vI a2] M1 (fun v2 M2 => v2 = v ∧ Rel M2)) := by
  by_cases h0 : 1 ≤ a0 ∧ a0 ≤ 999
  · by_cases h1 : 0 ≤ a1 ∧ a1 ≤ 999
    · have e := w32_i (x := a0 + a1) (by omega)
      refine E_X_look ?_
      refine B_X_look_0 ?_
      refine S_within ?_
      refine B_X_look_8 (fun h => by rw [if_pos h0] at h; omega) (fun _ => ?_)
      refine B_X_look_11 ?_
      refine S_within ?_
      refine B_X_look_19 (fun h => by rw [if_pos h1] at h; omega) (fun _ => ?_)
      refine B_X_look_22 ?_
      refine S_X_part (by omega) (by omega) ?_
      refine B_X_look_32 ?_
      refine E_R_look ?_
      refine B_R_look_0 ?_
      refine S_R_in ?_
      refine B_R_look_9 (fun h => by rw [if_pos h0] at h; omega) (fun _ => ?_)
      refine B_R_look_12 ?_
      refine S_R_in ?_
      refine B_R_look_21 (fun h => by rw [if_pos h1] at h; omega) (fun _ => ?_)
      refine B_R_look_24 ?_
      refine S_R_in ?_
      by_cases h2 : 0 ≤ a2 ∧ a2 ≤ 1
      · refine B_R_look_31 (fun h => by rw [if_pos h2] at h; omega) (fun _ => ?_)
        refine B_R_look_34 ?_
        refine S_R_part (by omega) (by omega) ?_
        refine B_R_look_44 ?_
        rw [if_pos h2]
        exact ⟨rfl, hr⟩
      · refine B_R_look_31 (fun _ => ?_) (fun h => absurd (if_neg h2) h)
        refine B_R_look_47 ?_
        rw [if_neg h2]
        exact ⟨rfl, hr⟩
    · refine E_X_look ?_
      refine B_X_look_0 ?_
      refine S_within ?_
      refine B_X_look_8 (fun h => by rw [if_pos h0] at h; omega) (fun _ => ?_)
      refine B_X_look_11 ?_
      refine S_within ?_
      refine B_X_look_19 (fun _ => ?_) (fun h => absurd (if_neg h1) h)
      refine B_X_look_35 ?_
      refine E_R_look ?_
      refine B_R_look_0 ?_
      refine S_R_in ?_
      refine B_R_look_9 (fun h => by rw [if_pos h0] at h; omega) (fun _ => ?_)
      refine B_R_look_12 ?_
      refine S_R_in ?_
      refine B_R_look_21 (fun _ => ?_) (fun h => absurd (if_neg h1) h)
      refine B_R_look_47 ?_
      exact ⟨rfl, hr⟩
  · refine E_X_look ?_
    refine B_X_look_0 ?_
    refine S_within ?_
    refine B_X_look_8 (fun _ => ?_) (fun h => absurd (if_neg h0) h)
    refine B_X_look_35 ?_
    refine E_R_look ?_
    refine B_R_look_0 ?_
    refine S_R_in ?_
    refine B_R_look_9 (fun _ => ?_) (fun h => absurd (if_neg h0) h)
    refine B_R_look_47 ?_
    exact ⟨rfl, hr⟩
end FR
