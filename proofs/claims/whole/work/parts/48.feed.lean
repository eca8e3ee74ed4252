/-! BYTES that come behind the tape's -/
theorem jl_u : ∀ k : Fin 64, (((Int32.ofInt (k.val : Int)).toInt64.toUInt64 &&& Int64.toUInt64 63).toBitVec % 64).toNat = k.val := by decide +kernel
theorem jl_k : ∀ k : Fin 64, (((Int32.ofInt (k.val : Int)).toInt64 &&& 63).toBitVec.smod 64).toNat = k.val := by decide +kernel
theorem j_lushr_k {x : Int} (k : Fin 64) : j_lushr x (k.val : Int) = w64 (((x % 18446744073709551616).toNat / 2 ^ k.val : Nat) : Int) := by
  have h : ((Int64.ofInt x).toUInt64 >>> ((Int32.ofInt (k.val : Int)).toInt64.toUInt64 &&& Int64.toUInt64 63)).toInt64.toBitVec.toNat = (x % 18446744073709551616).toNat / 2 ^ k.val := by
    rw [UInt64.toBitVec_toInt64, UInt64.toBitVec_shiftRight]
    show ((Int64.ofInt x).toUInt64.toBitVec >>> (((Int32.ofInt (k.val : Int)).toInt64.toUInt64 &&& Int64.toUInt64 63).toBitVec % 64).toNat).toNat = _
    rw [jl_u k, Int64.toBitVec_toUInt64, Int64.toBitVec_ofInt, BitVec.toNat_ushiftRight, BitVec.toNat_ofInt, Nat.shiftRight_eq_div_pow]
    rfl
  unfold j_lushr
  show (((Int64.ofInt x).toUInt64 >>> ((Int32.ofInt (k.val : Int)).toInt64.toUInt64 &&& Int64.toUInt64 63)).toInt64.toBitVec).toInt = _
  rw [BitVec.toInt_eq_toNat_bmod, h]
  show Int.bmod _ 18446744073709551616 = _
  rw [w64_bmod]
theorem j_lshr_k {x : Int} (hx : -9223372036854775808 ≤ x ∧ x < 9223372036854775808) (k : Fin 64) : j_lshr x (k.val : Int) = x / (2 ^ k.val : Nat) := by
  have e1 : (Int64.ofInt x).toBitVec.toInt = x := l64_e hx
  unfold j_lshr
  show ((Int64.ofInt x >>> ((Int32.ofInt (k.val : Int)).toInt64 &&& 63)).toBitVec).toInt = _
  rw [Int64.toBitVec_shiftRight, BitVec.toInt_sshiftRight', jl_k k, e1, Int.shiftRight_eq_div_pow]
theorem j_land_255 (x : Int) : j_land x 255 = x % 256 := by
  show (Int64.ofInt x &&& Int64.ofInt 255).toBitVec.toInt = _
  rw [Int64.toBitVec_and, Int64.toBitVec_ofInt, Int64.toBitVec_ofInt]
  have h1 : (BitVec.ofInt 64 x &&& BitVec.ofInt 64 255).toNat = (x % 18446744073709551616).toNat % 256 := by
    rw [BitVec.toNat_and, BitVec.toNat_ofInt, show (BitVec.ofInt 64 255).toNat = 2 ^ 8 - 1 by decide, Nat.and_two_pow_sub_one_eq_mod]
    rfl
  rw [BitVec.toInt_eq_toNat_of_lt (by rw [h1]; omega), h1]
  omega
theorem j_l2i_e (x : Int) : j_l2i x = w32 (w64 x) := by
  unfold j_l2i
  rw [Int64.toInt_toInt32, w64_of]
  show Int.bmod _ 4294967296 = _
  rw [w32_bmod]
theorem j_i2b_e (x : Int) : j_i2b x = (w32 x + 128) % 256 - 128 := by
  unfold j_i2b
  rw [Int8.toInt_toInt32, Int32.toInt_toInt8, w32_of]
  show Int.bmod _ 256 = _
  unfold Int.bmod
  simp only
  split <;> omega
def bx (w : Int) (k : Int) : Int := j_i2b (j_i2b (j_l2i (j_lushr w (w32 (8 * k)))))
def rx (w : Int) (k : Int) : Int := j_l2i (j_land (j_lshr w (w32 (8 * k))) 255)
theorem w32_m (x : Int) : (w32 x + 128) % 256 = (x + 128) % 256 := by unfold w32; omega
theorem w64_m (x : Int) : (w64 x + 128) % 256 = (x + 128) % 256 := by unfold w64; omega
theorem j_i2b_x (x : Int) : j_i2b x = (x + 128) % 256 - 128 := by rw [j_i2b_e, w32_m]
theorem j_i2b_2 (x : Int) : j_i2b (j_i2b x) = (x + 128) % 256 - 128 := by
  rw [j_i2b_x, j_i2b_x]
  omega
theorem bx_e {w : Int} {k : Int} (j : Fin 64) (hj : w32 (8 * k) = (j.val : Int)) : bx w k = ((((w % 18446744073709551616).toNat / 2 ^ j.val : Nat) : Int) + 128) % 256 - 128 := by
  unfold bx
  rw [hj, j_i2b_2, j_l2i_e, w32_m, w64_m, j_lushr_k, w64_m]
theorem rx_e {w : Int} {k : Int} (hw : -9223372036854775808 ≤ w ∧ w < 9223372036854775808) (j : Fin 64) (hj : w32 (8 * k) = (j.val : Int)) : rx w k = w / (2 ^ j.val : Nat) % 256 := by
  unfold rx
  rw [hj, j_land_255, j_lshr_k hw, j_l2i_e]
  have h1 := Int.emod_nonneg (w / (2 ^ j.val : Nat)) (show (256 : Int) ≠ 0 by decide)
  have h2 := Int.emod_lt_of_pos (w / (2 ^ j.val : Nat)) (show (0 : Int) < 256 by decide)
  rw [w64_i (by omega), w32_i (by omega)]
theorem bx_rx_c {w N D b r : Int} (hb : b = (N + 128) % 256 - 128) (hr : r = D % 256) (h : N % 256 = D % 256) : r = b % 256 ∧ -128 ≤ b ∧ b ≤ 127 := by omega
theorem bx_rx {w k : Int} (hw : -9223372036854775808 ≤ w ∧ w < 9223372036854775808) (hk : 0 ≤ k ∧ k ≤ 7) : rx w k = bx w k % 256 ∧ -128 ≤ bx w k ∧ bx w k ≤ 127 := by
  have e : ((w % 18446744073709551616).toNat : Int) = w % 18446744073709551616 := by omega
  rcases (show k = 0 ∨ k = 1 ∨ k = 2 ∨ k = 3 ∨ k = 4 ∨ k = 5 ∨ k = 6 ∨ k = 7 by omega) with rfl | rfl | rfl | rfl | rfl | rfl | rfl | rfl
  · refine bx_rx_c (w := w) (bx_e (w := w) (k := 0) ⟨0, by decide⟩ rfl) (rx_e hw ⟨0, by decide⟩ rfl) ?_
    rw [Int.natCast_ediv, e]
    show w % 18446744073709551616 / 1 % 256 = w / 1 % 256
    omega
  · refine bx_rx_c (w := w) (bx_e (w := w) (k := 1) ⟨8, by decide⟩ rfl) (rx_e hw ⟨8, by decide⟩ rfl) ?_
    rw [Int.natCast_ediv, e]
    show w % 18446744073709551616 / 256 % 256 = w / 256 % 256
    omega
  · refine bx_rx_c (w := w) (bx_e (w := w) (k := 2) ⟨16, by decide⟩ rfl) (rx_e hw ⟨16, by decide⟩ rfl) ?_
    rw [Int.natCast_ediv, e]
    show w % 18446744073709551616 / 65536 % 256 = w / 65536 % 256
    omega
  · refine bx_rx_c (w := w) (bx_e (w := w) (k := 3) ⟨24, by decide⟩ rfl) (rx_e hw ⟨24, by decide⟩ rfl) ?_
    rw [Int.natCast_ediv, e]
    show w % 18446744073709551616 / 16777216 % 256 = w / 16777216 % 256
    omega
  · refine bx_rx_c (w := w) (bx_e (w := w) (k := 4) ⟨32, by decide⟩ rfl) (rx_e hw ⟨32, by decide⟩ rfl) ?_
    rw [Int.natCast_ediv, e]
    show w % 18446744073709551616 / 4294967296 % 256 = w / 4294967296 % 256
    omega
  · refine bx_rx_c (w := w) (bx_e (w := w) (k := 5) ⟨40, by decide⟩ rfl) (rx_e hw ⟨40, by decide⟩ rfl) ?_
    rw [Int.natCast_ediv, e]
    show w % 18446744073709551616 / 1099511627776 % 256 = w / 1099511627776 % 256
    omega
  · refine bx_rx_c (w := w) (bx_e (w := w) (k := 6) ⟨48, by decide⟩ rfl) (rx_e hw ⟨48, by decide⟩ rfl) ?_
    rw [Int.natCast_ediv, e]
    show w % 18446744073709551616 / 281474976710656 % 256 = w / 281474976710656 % 256
    omega
  · refine bx_rx_c (w := w) (bx_e (w := w) (k := 7) ⟨56, by decide⟩ rfl) (rx_e hw ⟨56, by decide⟩ rfl) ?_
    rw [Int.natCast_ediv, e]
    show w % 18446744073709551616 / 72057594037927936 % 256 = w / 72057594037927936 % 256
    omega
section FE
variable {X : vX} {d : Nat} {M : vM} {Q : Option vV → vM → Prop} {l0 l1 l2 l3 l4 l5 a0 a1 a2 : Int}
/-- i bytes have come behind the t that were there: cells c, its count at the cell e, slot q -/
def FD (M M1 : vM) (c e q t i n : Nat) (f : Int → Int) : Prop := Fr (fun b j => b = c ∨ (b = e ∧ j = q)) M M1 ∧ M1 e q = ((t + i : Nat) : Int) ∧ (∀ k : Nat, k < i → M1 c (t + k) = f ((n : Int) - 1 - k)) ∧ ∀ j : Nat, j < t → M1 c j = M c j
theorem FD_s {M M1 : vM} {c e q t i n : Nat} {f : Int → Int} (hce : c ≠ e) (h : FD M M1 c e q t i n f) : FD M (vm_up (vm_up M1 c (t + i) (f ((n : Int) - 1 - i))) e q (((t + i : Nat) : Int) + 1)) c e q t (i + 1) n f := by
  obtain ⟨f0, f1, f2, f3⟩ := h
  refine ⟨(f0.up (Or.inl rfl)).up (Or.inr ⟨rfl, rfl⟩), ?_, fun k hk => ?_, fun j hj => ?_⟩
  · rw [vm_up_s]
    omega
  · rw [vm_up_o hce, vm_up_at]
    by_cases e : k = i
    · rw [if_pos (by omega), e]
    · rw [if_neg (by omega)]
      exact f2 k (by omega)
  · rw [vm_up_o hce, vm_up_at, if_neg (by omega)]
    exact f3 j hj
theorem LP_Co_append {t n : Nat} (h120 : t + n ≤ 120) : ∀ (m i : Nat) (M1 : vM), i + m = n → vRefs M1 → FD M M1 57 56 4 t i n (bx l1) → (∀ M1, vRefs M1 → FD M M1 57 56 4 t n n (bx l1) → Q (some (vI ((t + n : Nat) : Int))) M1) → vw X d 41 5 [vR 56, vL l1, vN, vI (n : Int), vI ((n : Int) - 1 - i)] [] M1 Q
  | 0, i, M1, hn, hR, hF, k => by
    have : i = n := by omega
    subst this
    have e := hF.2.1
    refine B_Co_append_5 (fun _ => B_Co_append_44 ?_) (fun h => by exfalso; omega)
    rw [e]
    exact k M1 hR hF
  | m + 1, i, M1, hn, hR, hF, k => by
    have e := hF.2.1
    refine B_Co_append_5 (fun h => by exfalso; omega) (fun _ => B_Co_append_10 hR (by omega) (fun hR2 => ?_))
    have e1 : w32 (((t + i : Nat) : Int) + 1) = ((t + i : Nat) : Int) + 1 := by unfold w32; omega
    simp (disch := decide) only [vm_up_o, e, e1, Int.toNat_natCast] at hR2 ⊢
    rw [show j_i2b (j_i2b (j_l2i (j_lushr l1 (w32 (8 * ((n : Int) - 1 - i)))))) = bx l1 ((n : Int) - 1 - i) from rfl] at hR2 ⊢
    rw [w32_i (x := (n : Int) - 1 - i + -1) (by omega), show (n : Int) - 1 - i + -1 = (n : Int) - 1 - ((i + 1 : Nat) : Int) by omega]
    exact LP_Co_append h120 m (i + 1) _ (by omega) hR2 (FD_s (by decide) hF) k
theorem LP_R_feed {t n : Nat} (h120 : t + n ≤ 120) : ∀ (m i : Nat) (M1 : vM), i + m = n → vRefs M1 → FD M M1 109 81 42 t i n (rx l1) → (∀ M1, vRefs M1 → FD M M1 109 81 42 t n n (rx l1) → Q (some (vI ((t + n : Nat) : Int))) M1) → vw X d 249 34 [vR 81, vL l1, vN, vI (n : Int), vI ((n : Int) - 1 - i)] [] M1 Q
  | 0, i, M1, hn, hR, hF, k => by
    have : i = n := by omega
    subst this
    have e := hF.2.1
    refine B_R_feed_34 (fun _ => B_R_feed_76 ?_) (fun h => by exfalso; omega)
    rw [e]
    exact k M1 hR hF
  | m + 1, i, M1, hn, hR, hF, k => by
    have e := hF.2.1
    refine B_R_feed_34 (fun h => by exfalso; omega) (fun _ => B_R_feed_39 hR (by omega) (fun hR2 => ?_))
    have e1 : w32 (((t + i : Nat) : Int) + 1) = ((t + i : Nat) : Int) + 1 := by unfold w32; omega
    simp (disch := decide) only [vm_up_o, e, e1, Int.toNat_natCast] at hR2 ⊢
    rw [show j_l2i (j_land (j_lshr l1 (w32 (8 * ((n : Int) - 1 - i)))) 255) = rx l1 ((n : Int) - 1 - i) from rfl] at hR2 ⊢
    rw [w32_i (x := (n : Int) - 1 - i + -1) (by omega), show (n : Int) - 1 - i + -1 = (n : Int) - 1 - ((i + 1 : Nat) : Int) by omega]
    exact LP_R_feed h120 m (i + 1) _ (by omega) hR2 (FD_s (by decide) hF) k
theorem lf_feed {t n : Nat} {w : Int} {M1 M2 : vM} (hr : Rel M) (ht : M 56 4 = (t : Int)) (h120 : t + n ≤ 120) (hn : n ≤ 8) (hw : -9223372036854775808 ≤ w ∧ w < 9223372036854775808) (h1 : FD M M1 57 56 4 t n n (bx w)) (h2 : FD M1 M2 109 81 42 t n n (rx w)) : Rel M2 := by
  obtain ⟨q1, q2, q3, q4, q5, q6⟩ := hr.2.2.2.2.2.2.1
  obtain ⟨f0, f1, f2, f3⟩ := h1
  obtain ⟨g0, g1, g2, g3⟩ := h2
  have E : ∀ b j : Nat, b ≠ 57 → ¬ (b = 56 ∧ j = 4) → b ≠ 109 → ¬ (b = 81 ∧ j = 42) → M2 b j = M b j := fun b j e1 e2 e3 e4 => by rw [g0 b j (by omega), f0 b j (by omega)]
  refine Rel_K (fun b j hb => E b j (fun q => hb (Or.inr (by unfold sRK; omega))) (fun q => hb (Or.inr (by unfold sRK; omega))) (fun q => hb (Or.inr (by unfold sRK; omega))) (fun q => hb (Or.inr (by unfold sRK; omega)))) hr ?_
  have e564 : M2 56 4 = ((t + n : Nat) : Int) := by rw [g0 56 4 (by omega)]; exact f1
  refine ⟨by rw [e564]; exact g1, by rw [e564]; omega, fun k hk hk2 => ?_, by rw [E 81 38 (by decide) (by decide) (by decide) (by decide), E 56 5 (by decide) (by decide) (by decide) (by decide)]; exact q4, by rw [E 56 5 (by decide) (by decide) (by decide) (by decide)]; exact q5, fun k hk hk2 => ?_⟩
  · rw [e564] at hk2
    by_cases h : k < t
    · rw [g3 k h, g0 57 k (by omega), f3 k h, f0 109 k (by omega)]
      exact q3 k hk (by omega)
    · obtain ⟨i, rfl⟩ : ∃ i, k = t + i := ⟨k - t, by omega⟩
      rw [g2 i (by omega), g0 57 (t + i) (by omega), f2 i (by omega)]
      exact bx_rx hw (by omega)
  · rw [E 56 5 (by decide) (by decide) (by decide) (by decide)] at hk2
    have f : M2 (59 + k) = M (59 + k) := funext (fun i => E (59 + k) i (by omega) (by omega) (by omega) (by omega))
    obtain ⟨r1, c, r2, r3, r4, r5⟩ := q6 k hk hk2
    unfold KTx
    rw [f, E 67 k (by omega) (by omega) (by omega) (by omega), E 107 k (by omega) (by omega) (by omega) (by omega)]
    exact ⟨r1, c, r2, r3, r4, fun i hi => by rw [E 108 _ (by omega) (by omega) (by omega) (by omega)]; exact r5 i hi⟩
theorem op_feed {w : Int} (hr : Rel M) (hw : -9223372036854775808 ≤ w ∧ w < 9223372036854775808) : cq X (d + 40) 158 [vR 0, vL w, vI a0] M (fun v M1 => cq X (d + 40) 249 [vR 81, vL w, vI a0] M1 (fun v2 M2 => v2 = v ∧ Rel M2)) := by
  obtain ⟨q1, q2, q3, q4, q5, q6⟩ := hr.2.2.2.2.2.2.1
  by_cases h0 : 1 ≤ a0 ∧ a0 ≤ 8
  · obtain ⟨n, rfl⟩ : ∃ n : Nat, a0 = (n : Int) := ⟨a0.toNat, by omega⟩
    obtain ⟨t, ht⟩ : ∃ t : Nat, M 56 4 = (t : Int) := ⟨(M 56 4).toNat, by omega⟩
    have e1 : w32 (M 56 4 + n) = M 56 4 + n := w32_i (by omega)
    have e2 : w32 (M 81 42 + n) = M 56 4 + n := by rw [q1]; exact e1
    have e3 : w32 ((n : Int) - 1) = (n : Int) - 1 - ((0 : Nat) : Int) := by rw [w32_i (by omega)]; omega
    by_cases h : t + n ≤ 120
    · refine E_X_feed ?_
      refine B_X_feed_0 ?_
      refine S_within ?_
      refine B_X_feed_7 (fun _ => ?_) (fun h => by rw [if_pos h0] at h; omega)
      refine B_X_feed_13 hr.1 ?_
      refine E_Co_hasRoom ?_
      refine B_Co_hasRoom_0 (fun h => by exfalso; omega) (fun _ => ?_)
      refine B_Co_hasRoom_11 ?_
      refine B_X_feed_21 (fun h => absurd h (by decide)) (fun _ => ?_)
      refine B_X_feed_24 hr.1 ?_
      refine E_Co_append ?_
      refine B_Co_append_0 ?_
      rw [e3]
      refine LP_Co_append (M := M) (t := t) h n 0 M (by omega) hr.1 ⟨Fr.refl, by rw [ht]; rfl, fun k hk => by omega, fun j _ => rfl⟩ (fun M1 hR1 h1 => ?_)
      refine B_X_feed_33 ?_
      have g1 : M1 81 42 = (t : Int) := by rw [h1.1 81 42 (by omega), q1]; exact ht
      refine E_R_feed ?_
      refine B_R_feed_0 ?_
      refine S_R_in ?_
      refine B_R_feed_9 (fun _ => ?_) (fun h => by rw [if_pos h0] at h; omega)
      have e4 : w32 (M1 81 42 + n) = (t : Int) + n := by rw [g1]; exact w32_i (by omega)
      refine B_R_feed_15 (fun _ => ?_) (fun h => by exfalso; omega)
      refine B_R_feed_29 ?_
      rw [e3]
      exact LP_R_feed (M := M1) (t := t) h n 0 M1 (by omega) hR1 ⟨Fr.refl, by rw [g1]; rfl, fun k hk => by omega, fun j _ => rfl⟩ (fun M2 hR2 h2 => ⟨rfl, lf_feed hr ht h (by omega) hw h1 h2⟩)
    · refine E_X_feed ?_
      refine B_X_feed_0 ?_
      refine S_within ?_
      refine B_X_feed_7 (fun _ => ?_) (fun h => by rw [if_pos h0] at h; omega)
      refine B_X_feed_13 hr.1 ?_
      refine E_Co_hasRoom ?_
      refine B_Co_hasRoom_0 (fun _ => ?_) (fun h => by exfalso; omega)
      refine B_Co_hasRoom_15 ?_
      refine B_X_feed_21 (fun _ => ?_) (fun h => absurd rfl h)
      refine B_X_feed_36 ?_
      refine E_R_feed ?_
      refine B_R_feed_0 ?_
      refine S_R_in ?_
      refine B_R_feed_9 (fun _ => ?_) (fun h => by rw [if_pos h0] at h; omega)
      refine B_R_feed_15 (fun h => by exfalso; omega) (fun _ => ?_)
      refine B_R_feed_26 ?_
      exact ⟨rfl, hr⟩
  · refine E_X_feed ?_
    refine B_X_feed_0 ?_
    refine S_within ?_
    refine B_X_feed_7 (fun h => absurd (if_neg h0) h) (fun _ => ?_)
    refine B_X_feed_10 ?_
    refine E_R_feed ?_
    refine B_R_feed_0 ?_
    refine S_R_in ?_
    refine B_R_feed_9 (fun h => absurd (if_neg h0) h) (fun _ => ?_)
    refine B_R_feed_12 ?_
    exact ⟨rfl, hr⟩
end FE
