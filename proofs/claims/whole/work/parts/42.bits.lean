/-! WHAT HOLDS, group by group, where cells change; bits of any number -/
def sVR (b j : Nat) : Prop := (b = 0 ∧ j ≤ 11) ∨ (b = 1 ∧ 1 ≤ j ∧ j ≤ 3) ∨ (b = 13 ∧ j = 0) ∨ (b = 28 ∧ j = 0) ∨ (b = 30 ∧ j ≤ 3) ∨ (b = 49 ∧ j ≤ 2) ∨ (b = 53 ∧ j ≤ 1) ∨ (b = 56 ∧ j ≤ 3) ∨ (b = 70 ∧ j ≤ 5) ∨ (b = 81 ∧ ¬ (j = 0 ∨ j = 1 ∨ j = 6 ∨ j = 9 ∨ j = 14 ∨ j = 15 ∨ j = 18 ∨ j = 19 ∨ j = 22 ∨ j = 23 ∨ j = 28 ∨ j = 31 ∨ j = 35 ∨ j = 38 ∨ j = 42 ∨ j = 44 ∨ j = 45 ∨ j = 46 ∨ j = 48 ∨ j = 49 ∨ j = 56 ∨ j = 57 ∨ j = 58)) ∨ b = 3 ∨ b = 14 ∨ b = 33 ∨ b = 41 ∨ b = 58
theorem vRefs_cong {M M2 : vM} (E : ∀ b j : Nat, sVR b j → M2 b j = M b j) (h : vRefs M) : vRefs M2 := by
  have hd : ∀ q ∈ vRefT, sVR q.1 q.2.1 := by unfold sVR; decide +kernel
  obtain ⟨r0, r1, r2, r3, r4, r5⟩ := h
  refine ⟨fun q hq => by rw [E _ _ (hd q hq)]; exact r0 q hq, fun i hi => ?_, fun i hi => ?_, fun i hi => ?_, fun i hi => ?_, fun i hi => ?_⟩
  · rw [E _ _ (by unfold sVR; omega)]; exact r1 i hi
  · rw [E _ _ (by unfold sVR; omega)]; exact r2 i hi
  · rw [E _ _ (by unfold sVR; omega)]; exact r3 i hi
  · rw [E _ _ (by unfold sVR; omega)]; exact r4 i hi
  · rw [E _ _ (by unfold sVR; omega)]; exact r5 i hi
def sRM (b _ : Nat) : Prop := b = 29 ∨ b = 96
theorem RM_cong {M M2 : vM} (e : ∀ b j : Nat, sRM b j → M2 b j = M b j) (h : RM M) : RM M2 := by
  refine ⟨by rw [e 29 0 (by unfold sRM; omega)]; exact h.1, fun q hq => ?_⟩
  rw [e 29 q (by unfold sRM; omega), e 96 q (by unfold sRM; omega)]; exact h.2 q hq
def sRT (b j : Nat) : Prop := (b = 49 ∧ j = 3) ∨ (b = 81 ∧ j = 31) ∨ (50 ≤ b ∧ b ≤ 52) ∨ (102 ≤ b ∧ b ≤ 104)
theorem RT_cong {M M2 : vM} (e : ∀ b j : Nat, sRT b j → M2 b j = M b j) (h : RT M) : RT M2 := by
  refine ⟨?_, ?_, fun q hq => ?_, fun q hq => ?_, fun q hq => ?_⟩
  · rw [e 81 31 (by unfold sRT; omega), e 49 3 (by unfold sRT; omega)]; exact h.1
  · rw [e 49 3 (by unfold sRT; omega)]; exact h.2.1
  · rw [e 102 q (by unfold sRT; omega), e 50 q (by unfold sRT; omega)]; exact h.2.2.1 q hq
  · rw [e 103 q (by unfold sRT; omega), e 51 q (by unfold sRT; omega)]; exact h.2.2.2.1 q hq
  · rw [e 104 q (by unfold sRT; omega), e 52 q (by unfold sRT; omega)]; exact h.2.2.2.2 q hq
def sRC (b j : Nat) : Prop := (b = 53 ∧ j = 2) ∨ (b = 81 ∧ j = 35) ∨ b = 54 ∨ b = 55 ∨ b = 105 ∨ b = 106
theorem RC_cong {M M2 : vM} (e : ∀ b j : Nat, sRC b j → M2 b j = M b j) (h : RC M) : RC M2 := by
  refine ⟨?_, ?_, fun q hq => ?_, fun q hq => ?_⟩
  · rw [e 81 35 (by unfold sRC; omega), e 53 2 (by unfold sRC; omega)]; exact h.1
  · rw [e 53 2 (by unfold sRC; omega)]; exact h.2.1
  · rw [e 105 q (by unfold sRC; omega), e 54 q (by unfold sRC; omega)]; exact h.2.2.1 q hq
  · rw [e 106 q (by unfold sRC; omega), e 55 q (by unfold sRC; omega)]; exact h.2.2.2 q hq
def sRY (b j : Nat) : Prop := (b = 70 ∧ (j = 6 ∨ j = 7)) ∨ (b = 81 ∧ (j = 48 ∨ j = 49)) ∨ (71 ≤ b ∧ b ≤ 76) ∨ (112 ≤ b ∧ b ≤ 117) ∨ (b = 1 ∧ j = 0)
theorem RY_cong {M M2 : vM} (e : ∀ b j : Nat, sRY b j → M2 b j = M b j) (h : RY M) : RY M2 := by
  refine ⟨?_, ?_, ?_, ?_, fun y hy hy2 => ?_⟩
  · rw [e 70 6 (by unfold sRY; omega)]; exact h.1
  · rw [e 81 49 (by unfold sRY; omega), e 70 6 (by unfold sRY; omega)]; exact h.2.1
  · rw [e 70 7 (by unfold sRY; omega)]; exact h.2.2.1
  · rw [e 81 48 (by unfold sRY; omega), e 70 7 (by unfold sRY; omega)]; exact h.2.2.2.1
  · rw [e 70 6 (by unfold sRY; omega)] at hy2
    rw [e 71 y (by unfold sRY; omega), e 72 y (by unfold sRY; omega), e 73 y (by unfold sRY; omega), e 74 y (by unfold sRY; omega), e 75 y (by unfold sRY; omega), e 76 y (by unfold sRY; omega), e 112 y (by unfold sRY; omega), e 113 y (by unfold sRY; omega), e 114 y (by unfold sRY; omega), e 115 y (by unfold sRY; omega), e 116 y (by unfold sRY; omega), e 117 y (by unfold sRY; omega), e 1 0 (by unfold sRY; omega)]
    exact h.2.2.2.2 y hy hy2
def sR2 (b j : Nat) : Prop := b = 77 ∨ (b = 81 ∧ (j = 56 ∨ j = 57 ∨ j = 58))
theorem R2_cong {M M2 : vM} (e : ∀ b j : Nat, sR2 b j → M2 b j = M b j) (h : R2 M) : R2 M2 := by
  unfold R2
  rw [e 77 0 (by unfold sR2; omega), e 77 1 (by unfold sR2; omega), e 77 2 (by unfold sR2; omega), e 81 56 (by unfold sR2; omega), e 81 57 (by unfold sR2; omega), e 81 58 (by unfold sR2; omega)]
  exact h
/-- where acts, teams, contracts, years, promises are written -/
def sA (b j : Nat) : Prop := sTmp b j ∨ (b = 1 ∧ (j = 4 ∨ j = 5)) ∨ b = 2 ∨ b = 12 ∨ b = 78 ∨ (82 ≤ b ∧ b ≤ 85) ∨ (4 ≤ b ∧ b ≤ 11) ∨ (b = 81 ∧ (j = 1 ∨ j = 6))
theorem Rel_A {M M2 : vM} (f : Fr sA M M2) (h : Rel M) (hA : RA M2) : Rel M2 := by
  obtain ⟨hR, hRA, hRM, hRP, hRT, hRC, hRK, hRY, hR2⟩ := h
  exact ⟨vRefs_cong (fun b j hb => f b j (by unfold sVR at hb; unfold sA sTmp; omega)) hR, hA, RM_cong (fun b j hb => f b j (by unfold sRM at hb; unfold sA sTmp; omega)) hRM, RP_cong (fun b j hb => f b j (by unfold sRP at hb; unfold sA sTmp; omega)) hRP, RT_cong (fun b j hb => f b j (by unfold sRT at hb; unfold sA sTmp; omega)) hRT, RC_cong (fun b j hb => f b j (by unfold sRC at hb; unfold sA sTmp; omega)) hRC, RK_cong (fun b j hb => f b j (by unfold sRK at hb; unfold sA sTmp; omega)) hRK, RY_cong (fun b j hb => f b j (by unfold sRY at hb; unfold sA sTmp; omega)) hRY, R2_cong (fun b j hb => f b j (by unfold sR2 at hb; unfold sA sTmp; omega)) hR2⟩
def sT (b j : Nat) : Prop := sTmp b j ∨ (b = 49 ∧ j = 3) ∨ b = 50 ∨ b = 51 ∨ b = 102 ∨ b = 103 ∨ (b = 81 ∧ j = 31)
theorem Rel_T {M M2 : vM} (f : Fr sT M M2) (h : Rel M) (hT : RT M2) : Rel M2 := by
  obtain ⟨hR, hRA, hRM, hRP, hRT, hRC, hRK, hRY, hR2⟩ := h
  exact ⟨vRefs_cong (fun b j hb => f b j (by unfold sVR at hb; unfold sT sTmp; omega)) hR, RA_cong (fun b j hb => f b j (by unfold sRA at hb; unfold sT sTmp; omega)) hRA, RM_cong (fun b j hb => f b j (by unfold sRM at hb; unfold sT sTmp; omega)) hRM, RP_cong (fun b j hb => f b j (by unfold sRP at hb; unfold sT sTmp; omega)) hRP, hT, RC_cong (fun b j hb => f b j (by unfold sRC at hb; unfold sT sTmp; omega)) hRC, RK_cong (fun b j hb => f b j (by unfold sRK at hb; unfold sT sTmp; omega)) hRK, RY_cong (fun b j hb => f b j (by unfold sRY at hb; unfold sT sTmp; omega)) hRY, R2_cong (fun b j hb => f b j (by unfold sR2 at hb; unfold sT sTmp; omega)) hR2⟩
def sK (b j : Nat) : Prop := sTmp b j ∨ sRK b j
theorem Rel_K {M M2 : vM} (f : Fr sK M M2) (h : Rel M) (hK : RK M2) : Rel M2 := by
  obtain ⟨hR, hRA, hRM, hRP, hRT, hRC, hRK, hRY, hR2⟩ := h
  exact ⟨vRefs_cong (fun b j hb => f b j (by unfold sVR at hb; unfold sK sTmp sRK; omega)) hR, RA_cong (fun b j hb => f b j (by unfold sRA at hb; unfold sK sTmp sRK; omega)) hRA, RM_cong (fun b j hb => f b j (by unfold sRM at hb; unfold sK sTmp sRK; omega)) hRM, RP_cong (fun b j hb => f b j (by unfold sRP at hb; unfold sK sTmp sRK; omega)) hRP, RT_cong (fun b j hb => f b j (by unfold sRT at hb; unfold sK sTmp sRK; omega)) hRT, RC_cong (fun b j hb => f b j (by unfold sRC at hb; unfold sK sTmp sRK; omega)) hRC, hK, RY_cong (fun b j hb => f b j (by unfold sRY at hb; unfold sK sTmp sRK; omega)) hRY, R2_cong (fun b j hb => f b j (by unfold sR2 at hb; unfold sK sTmp sRK; omega)) hR2⟩
def sY (b j : Nat) : Prop := sTmp b j ∨ (b = 70 ∧ (j = 6 ∨ j = 7)) ∨ (b = 81 ∧ (j = 48 ∨ j = 49)) ∨ (71 ≤ b ∧ b ≤ 76) ∨ (112 ≤ b ∧ b ≤ 117)
theorem Rel_Y {M M2 : vM} (f : Fr sY M M2) (h : Rel M) (hY : RY M2) : Rel M2 := by
  obtain ⟨hR, hRA, hRM, hRP, hRT, hRC, hRK, hRY, hR2⟩ := h
  exact ⟨vRefs_cong (fun b j hb => f b j (by unfold sVR at hb; unfold sY sTmp; omega)) hR, RA_cong (fun b j hb => f b j (by unfold sRA at hb; unfold sY sTmp; omega)) hRA, RM_cong (fun b j hb => f b j (by unfold sRM at hb; unfold sY sTmp; omega)) hRM, RP_cong (fun b j hb => f b j (by unfold sRP at hb; unfold sY sTmp; omega)) hRP, RT_cong (fun b j hb => f b j (by unfold sRT at hb; unfold sY sTmp; omega)) hRT, RC_cong (fun b j hb => f b j (by unfold sRC at hb; unfold sY sTmp; omega)) hRC, RK_cong (fun b j hb => f b j (by unfold sRK at hb; unfold sY sTmp; omega)) hRK, hY, R2_cong (fun b j hb => f b j (by unfold sR2 at hb; unfold sY sTmp; omega)) hR2⟩
def sP (b j : Nat) : Prop := sTmp b j ∨ (b = 30 ∧ j = 5) ∨ (34 ≤ b ∧ b ≤ 40) ∨ (42 ≤ b ∧ b ≤ 48)
theorem Rel_P {M M2 : vM} (f : Fr sP M M2) (h : Rel M) (hP : RP M2) : Rel M2 := by
  obtain ⟨hR, hRA, hRM, hRP, hRT, hRC, hRK, hRY, hR2⟩ := h
  exact ⟨vRefs_cong (fun b j hb => f b j (by unfold sVR at hb; unfold sP sTmp; omega)) hR, RA_cong (fun b j hb => f b j (by unfold sRA at hb; unfold sP sTmp; omega)) hRA, RM_cong (fun b j hb => f b j (by unfold sRM at hb; unfold sP sTmp; omega)) hRM, hP, RT_cong (fun b j hb => f b j (by unfold sRT at hb; unfold sP sTmp; omega)) hRT, RC_cong (fun b j hb => f b j (by unfold sRC at hb; unfold sP sTmp; omega)) hRC, RK_cong (fun b j hb => f b j (by unfold sRK at hb; unfold sP sTmp; omega)) hRK, RY_cong (fun b j hb => f b j (by unfold sRY at hb; unfold sP sTmp; omega)) hRY, R2_cong (fun b j hb => f b j (by unfold sR2 at hb; unfold sP sTmp; omega)) hR2⟩
theorem vm_up_s {M : vM} {a k : Nat} {x : Int} : vm_up M a k x a k = x := if_pos ⟨rfl, rfl⟩
theorem jb_k : ∀ k : Fin 32, ((Int32.ofInt (k.val : Int) &&& 31).toBitVec.smod 32).toNat = k.val := by decide +kernel
theorem jb_u : ∀ k : Fin 32, (((Int32.ofInt (k.val : Int)).toUInt32 &&& Int32.toUInt32 31).toBitVec % 32).toNat = k.val := by decide +kernel
theorem j_ishr_k {x : Int} (hx : -2147483648 ≤ x ∧ x < 2147483648) (k : Fin 32) : j_ishr x (k.val : Int) = x / (2 ^ k.val : Nat) := by
  have e1 : (Int32.ofInt x).toBitVec.toInt = x := vm_small (by omega) (by omega)
  unfold j_ishr
  show ((Int32.ofInt x >>> (Int32.ofInt (k.val : Int) &&& 31)).toBitVec).toInt = _
  rw [Int32.toBitVec_shiftRight, BitVec.toInt_sshiftRight', jb_k k, e1, Int.shiftRight_eq_div_pow]
theorem j_iushr_n {x : Int} (k : Fin 32) : ((Int32.ofInt x).toUInt32 >>> ((Int32.ofInt (k.val : Int)).toUInt32 &&& Int32.toUInt32 31)).toInt32.toBitVec.toNat = (x % 4294967296).toNat / 2 ^ k.val := by
  rw [UInt32.toBitVec_toInt32, UInt32.toBitVec_shiftRight]
  show ((Int32.ofInt x).toUInt32.toBitVec >>> (((Int32.ofInt (k.val : Int)).toUInt32 &&& Int32.toUInt32 31).toBitVec % 32).toNat).toNat = _
  rw [jb_u k, Int32.toBitVec_toUInt32, Int32.toBitVec_ofInt, BitVec.toNat_ushiftRight, BitVec.toNat_ofInt, Nat.shiftRight_eq_div_pow]
  rfl
theorem j_iushr_k {x : Int} (hx : 0 ≤ x ∧ x < 2147483648) (k : Fin 32) : j_iushr x (k.val : Int) = j_ishr x (k.val : Int) := by
  rw [j_ishr_k (by omega) k]
  have h := j_iushr_n (x := x) k
  have e : (x % 4294967296).toNat = x.toNat := by omega
  rw [e] at h
  have hl : x.toNat / 2 ^ k.val ≤ x.toNat := Nat.div_le_self _ _
  unfold j_iushr
  show (((Int32.ofInt x).toUInt32 >>> ((Int32.ofInt (k.val : Int)).toUInt32 &&& Int32.toUInt32 31)).toInt32.toBitVec).toInt = _
  rw [BitVec.toInt_eq_toNat_of_lt (by rw [h]; omega), h, Int.natCast_ediv, Int.toNat_of_nonneg hx.1]
theorem j_iushr_neg {x : Int} (hx : -2147483648 ≤ x ∧ x < 0) (k : Fin 32) : j_iushr x (k.val : Int) ≠ 0 := by
  have h := j_iushr_n (x := x) k
  intro hz
  have hz2 : (((Int32.ofInt x).toUInt32 >>> ((Int32.ofInt (k.val : Int)).toUInt32 &&& Int32.toUInt32 31)).toInt32.toBitVec).toInt = 0 := hz
  have hb : ((Int32.ofInt x).toUInt32 >>> ((Int32.ofInt (k.val : Int)).toUInt32 &&& Int32.toUInt32 31)).toInt32.toBitVec = 0 := BitVec.eq_of_toInt_eq (by rw [hz2]; rfl)
  rw [hb] at h
  have h0 : (0 : Nat) = (x % 4294967296).toNat / 2 ^ k.val := h
  have h1 : 2 ^ k.val ≤ 2 ^ 31 := Nat.pow_le_pow_right (by decide) (by omega)
  have h2 : 1 ≤ (x % 4294967296).toNat / 2 ^ k.val := (Nat.one_le_div_iff (Nat.pow_pos (by decide))).mpr (by omega)
  omega
theorem j_shr_eq {x y : Int} (hx : 0 ≤ x ∧ x < 2147483648) (hy : 0 ≤ y ∧ y < 32) : j_iushr x y = j_ishr x y := by
  have := j_iushr_k hx ⟨y.toNat, by omega⟩
  rw [show ((⟨y.toNat, by omega⟩ : Fin 32).val : Int) = y by simp only; omega] at this
  exact this
theorem j_shr_neg {x y : Int} (hx : -2147483648 ≤ x ∧ x < 0) (hy : 0 ≤ y ∧ y < 32) : j_iushr x y ≠ 0 := by
  have := j_iushr_neg hx ⟨y.toNat, by omega⟩
  rw [show ((⟨y.toNat, by omega⟩ : Fin 32).val : Int) = y by simp only; omega] at this
  exact this
theorem j_iand_1 (x : Int) : j_iand x 1 = x % 2 := by
  show (Int32.ofInt x &&& Int32.ofInt 1).toBitVec.toInt = _
  rw [Int32.toBitVec_and, Int32.toBitVec_ofInt, Int32.toBitVec_ofInt]
  have h1 : (BitVec.ofInt 32 x &&& BitVec.ofInt 32 1).toNat = (x % 4294967296).toNat % 2 := by
    rw [BitVec.toNat_and, BitVec.toNat_ofInt, show (BitVec.ofInt 32 1).toNat = 2 ^ 1 - 1 by decide, Nat.and_two_pow_sub_one_eq_mod]
    rfl
  rw [BitVec.toInt_eq_toNat_of_lt (by rw [h1]; omega), h1]
  omega
theorem j_iand_15 (x : Int) : j_iand x 15 = x % 16 := by
  show (Int32.ofInt x &&& Int32.ofInt 15).toBitVec.toInt = _
  rw [Int32.toBitVec_and, Int32.toBitVec_ofInt, Int32.toBitVec_ofInt]
  have h1 : (BitVec.ofInt 32 x &&& BitVec.ofInt 32 15).toNat = (x % 4294967296).toNat % 16 := by
    rw [BitVec.toNat_and, BitVec.toNat_ofInt, show (BitVec.ofInt 32 15).toNat = 2 ^ 4 - 1 by decide, Nat.and_two_pow_sub_one_eq_mod]
    rfl
  rw [BitVec.toInt_eq_toNat_of_lt (by rw [h1]; omega), h1]
  omega
theorem j_iand_63 (x : Int) : j_iand x 63 = x % 64 := by
  show (Int32.ofInt x &&& Int32.ofInt 63).toBitVec.toInt = _
  rw [Int32.toBitVec_and, Int32.toBitVec_ofInt, Int32.toBitVec_ofInt]
  have h1 : (BitVec.ofInt 32 x &&& BitVec.ofInt 32 63).toNat = (x % 4294967296).toNat % 64 := by
    rw [BitVec.toNat_and, BitVec.toNat_ofInt, show (BitVec.ofInt 32 63).toNat = 2 ^ 6 - 1 by decide, Nat.and_two_pow_sub_one_eq_mod]
    rfl
  rw [BitVec.toInt_eq_toNat_of_lt (by rw [h1]; omega), h1]
  omega
theorem j_iand_127 (x : Int) : j_iand x 127 = x % 128 := by
  show (Int32.ofInt x &&& Int32.ofInt 127).toBitVec.toInt = _
  rw [Int32.toBitVec_and, Int32.toBitVec_ofInt, Int32.toBitVec_ofInt]
  have h1 : (BitVec.ofInt 32 x &&& BitVec.ofInt 32 127).toNat = (x % 4294967296).toNat % 128 := by
    rw [BitVec.toNat_and, BitVec.toNat_ofInt, show (BitVec.ofInt 32 127).toNat = 2 ^ 7 - 1 by decide, Nat.and_two_pow_sub_one_eq_mod]
    rfl
  rw [BitVec.toInt_eq_toNat_of_lt (by rw [h1]; omega), h1]
  omega
theorem j_iand_255 (x : Int) : j_iand x 255 = x % 256 := by
  show (Int32.ofInt x &&& Int32.ofInt 255).toBitVec.toInt = _
  rw [Int32.toBitVec_and, Int32.toBitVec_ofInt, Int32.toBitVec_ofInt]
  have h1 : (BitVec.ofInt 32 x &&& BitVec.ofInt 32 255).toNat = (x % 4294967296).toNat % 256 := by
    rw [BitVec.toNat_and, BitVec.toNat_ofInt, show (BitVec.ofInt 32 255).toNat = 2 ^ 8 - 1 by decide, Nat.and_two_pow_sub_one_eq_mod]
    rfl
  rw [BitVec.toInt_eq_toNat_of_lt (by rw [h1]; omega), h1]
  omega
/-- a row of digits written from a place on -/
def ch_up (M : vM) (c o n : Nat) (f : Nat → Int) : vM := fun b j => if b = c ∧ o ≤ j ∧ j < o + n then f (j - o) else M b j
theorem ch_up_0 {M : vM} {c o : Nat} {f : Nat → Int} : ch_up M c o 0 f = M := by
  funext b j
  unfold ch_up
  rw [if_neg (by omega)]
theorem ch_up_s {M : vM} {c o n : Nat} {f : Nat → Int} {x : Int} (hx : x = f n) : vm_up (ch_up M c o n f) c (o + n) x = ch_up M c o (n + 1) f := by
  funext b j
  subst hx
  unfold vm_up ch_up
  by_cases h : b = c ∧ j = o + n
  · rw [if_pos h, if_pos (by omega), h.2, show o + n - o = n by omega]
  · rw [if_neg h]
    by_cases h2 : b = c ∧ o ≤ j ∧ j < o + n
    · rw [if_pos h2, if_pos (by omega)]
    · rw [if_neg h2, if_neg (by omega)]
theorem ch_up_comm {M : vM} {a k c o n : Nat} {f : Nat → Int} {x : Int} (h : a ≠ c) : vm_up (ch_up M c o n f) a k x = ch_up (vm_up M a k x) c o n f := by
  funext b j
  unfold vm_up ch_up
  by_cases h1 : b = a ∧ j = k
  · rw [if_pos h1, if_neg (by omega)]
    exact (if_pos h1).symm
  · rw [if_neg h1]
    by_cases h2 : b = c ∧ o ≤ j ∧ j < o + n
    · rw [if_pos h2, if_pos h2]
    · rw [if_neg h2, if_neg h2]
      exact (if_neg h1).symm
theorem ch_up_o {M : vM} {b c o n : Nat} {f : Nat → Int} (h : b ≠ c) : ch_up M c o n f b = M b := by
  funext j
  unfold ch_up
  rw [if_neg (fun q => h q.1)]
theorem Fr.ch {S : Nat → Nat → Prop} {M M2 : vM} {c o n : Nat} {f : Nat → Int} (h : Fr S M M2) (hS : ∀ j, S c j) : Fr S M (ch_up M2 c o n f) := fun b j hb => by
  unfold ch_up
  rw [if_neg]
  · exact h b j hb
  · rintro ⟨rfl, -⟩
    exact hb (hS j)
