/-! THE CONSTRUCTORS, written by gen6.py: from no cell to the 118 cells -/
section IN
variable {X : vX} {d j pc : Nat} {ls st : List vV} {M : vM} {P : Option vV → vH → Prop}
abbrev vT (n : Nat) : List vSh := vS0.take n
theorem w_newE {idx c n : Nat} {r : Int} {q : Nat × Nat × Nat} (hd : decode (vm_cd j) pc = .ok (.new idx, 3)) (hl : vm_nw.lookup (vm_own j, idx) = some (c, q)) (hr : r = (n : Int)) (hn : (vT n).length = n) (hs : vT n ++ [.inl c] = vT (n + 1)) (k : wp X d j (pc + 3) ls (vR r :: st) (vT (n + 1), vm_new M n (.inl c)) P) : wp X d j pc ls st (vT n, M) P := by
  subst hr
  refine w_new hd hl ?_
  rw [hn, hs]
  exact k
theorem w_newaE {at0 : ArrayType} {t n N : Nat} {r z : Int} (hd : decode (vm_cd j) pc = .ok (.newarray at0, 2)) (ht : (at0 = .int ∧ t = 0) ∨ (at0 = .long ∧ t = 1) ∨ (at0 = .byte ∧ t = 2)) (hz : z = (N : Int)) (hN : N ≤ 4096) (hr : r = (n : Int)) (hn : (vT n).length = n) (hs : vT n ++ [.inr (t, N)] = vT (n + 1)) (k : wp X d j (pc + 2) ls (vR r :: st) (vT (n + 1), vm_new M n (.inr (t, N))) P) : wp X d j pc ls (vI z :: st) (vT n, M) P := by
  subst hr hz
  refine w_newa hd ht ⟨by omega, by omega⟩ ?_
  rw [hn, Int.toNat_natCast, hs]
  exact k
theorem w_newnE {idx t n N K : Nat} {q : Nat × Nat × Nat} {r z z2 : Int} (hd : decode (vm_cd j) pc = .ok (.multianewarray idx 2, 4)) (hl : vm_mn.lookup (vm_own j, idx) = some (t, q)) (hz : z = (N : Int)) (hz2 : z2 = (K : Int)) (hN : N ≤ 4096 ∧ K ≤ 4096) (hr : r = (n : Int)) (hn : (vT n).length = n) (hs : vT n ++ [.inr (t, N)] ++ List.replicate N (.inr (t - 3, K)) = vT (n + 1 + N)) (k : wp X d j (pc + 4) ls (vR r :: st) (vT (n + 1 + N), vm_newm M n N) P) : wp X d j pc ls (vI z2 :: vI z :: st) (vT n, M) P := by
  subst hr hz hz2
  refine w_newn hd hl ⟨by omega, by omega, by omega, by omega⟩ ?_
  rw [hn, Int.toNat_natCast, Int.toNat_natCast, hs]
  exact k
theorem w_inv2E {idx j' na kind n n1 : Nat} {w : Nat × Nat × Nat × Nat} {as st0 : List vV} {r : Int} {M1 : vM} (hd : decode (vm_cd j) pc = .ok (.invokespecial idx, 3)) (hl : vm_ml.lookup (vm_own j, idx) = some (kind, j', na, w)) (hk : kind = 2 ∨ kind = 4) (hst : vm_refs st0 na = some (as, vR r :: st)) (hcat : vm_cats st ≤ 8 ∧ 0 ≤ r) (hg : (vT n).length ≤ (vT n1).length ∧ vm_sz (vT n) ≤ vm_sz (vT n1)) (h : wc X d j' (vR r :: as) (vT n, M) (fun q hp1 => q = none ∧ hp1 = (vT n1, M1))) (k : wp X d j (pc + 3) ls st (vT n1, M1) P) : wp X d j pc ls st0 (vT n, M) P :=
  w_inv2 hd hl hk hst hcat (wc.mono h (fun q hp1 e => by
    obtain ⟨rfl, rfl⟩ := e
    exact ⟨hg, k⟩))
theorem w_inv1E {idx j' na kind n : Nat} {w : Nat × Nat × Nat × Nat} {as st0 : List vV} {v : vV} (hd : decode (vm_cd j) pc = .ok (.invokestatic idx, 3)) (hl : vm_ml.lookup (vm_own j, idx) = some (kind, j', na, w)) (hk : kind = 1 ∨ kind = 3) (hst : vm_refs st0 na = some (as, st)) (hcat : vm_cats st ≤ 8) (h : wc X d j' as (vT n, M) (fun q hp1 => q = some v ∧ hp1 = (vT n, M))) (k : wp X d j (pc + 3) ls (v :: st) (vT n, M) P) : wp X d j pc ls st0 (vT n, M) P :=
  w_inv1 hd hl hk hst hcat (wc.mono h (fun q hp1 e => by
    obtain ⟨rfl, rfl⟩ := e
    exact ⟨⟨Nat.le_refl _, Nat.le_refl _⟩, k⟩))
end IN
theorem j_ixor_neg {x : Int} (hx : -2147483648 ≤ x ∧ x < 2147483648) : j_ixor x 3 < 0 ↔ x < 0 := by
  have e1 : (Int32.ofInt x).toInt = x := vm_small (by omega) (by omega)
  have h : ∀ a : Int32, (a ^^^ Int32.ofInt 3).toInt < 0 ↔ a.toInt < 0 := fun a => by
    have m1 : (a ^^^ Int32.ofInt 3).toBitVec.msb = a.toBitVec.msb := by
      rw [show (a ^^^ Int32.ofInt 3).toBitVec = a.toBitVec ^^^ (Int32.ofInt 3).toBitVec from rfl, BitVec.msb_xor, show (Int32.ofInt 3).toBitVec.msb = false by decide, Bool.xor_false]
    rw [BitVec.msb_eq_toInt, BitVec.msb_eq_toInt] at m1
    exact decide_eq_decide.mp m1
  have := h (Int32.ofInt x)
  rw [e1] at this
  exact this
theorem j_rem3 {x : Int} (hx : -2147483648 ≤ x ∧ x < 2147483648) : j_irem x 3 = x.tmod 3 := j_irem_eq hx (by omega)
theorem tm3 (x : Int) : (0 ≤ x → x.tmod 3 = x % 3) ∧ (x < 0 → (x.tmod 3 = 0 ∧ x % 3 = 0) ∨ x.tmod 3 = x % 3 - 3) := by
  refine ⟨fun h => Int.tmod_eq_emod_of_nonneg h, fun h => ?_⟩
  have e : x.tmod 3 = -((-x) % 3) := by
    rw [← Int.tmod_eq_emod_of_nonneg (show 0 ≤ -x by omega), Int.neg_tmod]
    omega
  omega
theorem I_floorMod {X : vX} {d : Nat} {S : List vSh} {M : vM} {x : Int} (hx : -2147483648 ≤ x ∧ x < 2147483648) : wc X (d + 1) 282 [vI x, vI 3] (S, M) (fun q hp1 => q = some (vI (x % 3)) ∧ hp1 = (S, M)) := by
  refine wc_in (Nat.le_of_ble_eq_true rfl) (Nat.le_of_ble_eq_true rfl) ?_
  show wp X d 282 0 [vI x, vI 3, vN] [] (S, M) _
  have t := tm3 x
  have e := j_rem3 hx
  refine w_iload_n d282_0 rfl ?_
  refine w_iload_n d282_1 rfl ?_
  refine w_irem d282_2 (by decide) ?_
  refine w_istore_nE (ls' := [vI x, vI 3, vI (j_irem x 3)]) d282_3 (Nat.le_of_ble_eq_true rfl) rfl ?_
  refine w_iload_n d282_4 rfl ?_
  refine w_iload_n d282_5 rfl ?_
  refine w_ixor d282_6 ?_
  refine w_if_ge (tgt := 18) d282_7 rfl (fun h => ?_) (fun h => ?_)
  · refine w_iload_n d282_18 rfl ?_
    have h2 : ¬ x < 0 := fun q => by have := (j_ixor_neg hx).mpr q; omega
    exact w_iret d282_19 r282 ⟨by rw [e, t.1 (by omega)], rfl⟩
  · have h2 : x < 0 := (j_ixor_neg hx).mp h
    refine w_iload_n d282_10 rfl ?_
    refine w_if_eq (tgt := 18) d282_11 rfl (fun h3 => ?_) (fun h3 => ?_)
    · refine w_iload_n d282_18 rfl ?_
      exact w_iret d282_19 r282 ⟨by rw [show j_irem x 3 = x % 3 by have := t.2 h2; omega], rfl⟩
    · refine w_iload_n d282_14 rfl ?_
      refine w_iload_n d282_15 rfl ?_
      refine w_iadd d282_16 ?_
      exact w_iret d282_17 r282 ⟨by rw [show w32 (j_irem x 3 + 3) = x % 3 by have := t.2 h2; unfold w32; omega], rfl⟩
theorem cd0 : vm_cd 0 = cX0_init := rfl
theorem d0_0 : decode (vm_cd 0) 0 = .ok (.aload_n 0, 1) := (congrArg (fun b => decode b 0) cd0).trans (by decide +kernel)
theorem d0_1 : decode (vm_cd 0) 1 = .ok (.invokespecial 3, 3) := (congrArg (fun b => decode b 1) cd0).trans (by decide +kernel)
theorem d0_4 : decode (vm_cd 0) 4 = .ok (.aload_n 0, 1) := (congrArg (fun b => decode b 4) cd0).trans (by decide +kernel)
theorem d0_5 : decode (vm_cd 0) 5 = .ok (.iconst 4, 1) := (congrArg (fun b => decode b 5) cd0).trans (by decide +kernel)
theorem d0_6 : decode (vm_cd 0) 6 = .ok (.newarray .int, 2) := (congrArg (fun b => decode b 6) cd0).trans (by decide +kernel)
theorem d0_8 : decode (vm_cd 0) 8 = .ok (.putfield 9, 3) := (congrArg (fun b => decode b 8) cd0).trans (by decide +kernel)
theorem d0_11 : decode (vm_cd 0) 11 = .ok (.aload_n 0, 1) := (congrArg (fun b => decode b 11) cd0).trans (by decide +kernel)
theorem d0_12 : decode (vm_cd 0) 12 = .ok (.bipush 8, 2) := (congrArg (fun b => decode b 12) cd0).trans (by decide +kernel)
theorem d0_14 : decode (vm_cd 0) 14 = .ok (.iconst 4, 1) := (congrArg (fun b => decode b 14) cd0).trans (by decide +kernel)
theorem d0_15 : decode (vm_cd 0) 15 = .ok (.multianewarray 15 2, 4) := (congrArg (fun b => decode b 15) cd0).trans (by decide +kernel)
theorem d0_19 : decode (vm_cd 0) 19 = .ok (.putfield 17, 3) := (congrArg (fun b => decode b 19) cd0).trans (by decide +kernel)
theorem d0_22 : decode (vm_cd 0) 22 = .ok (.aload_n 0, 1) := (congrArg (fun b => decode b 22) cd0).trans (by decide +kernel)
theorem d0_23 : decode (vm_cd 0) 23 = .ok (.iconst 4, 1) := (congrArg (fun b => decode b 23) cd0).trans (by decide +kernel)
theorem d0_24 : decode (vm_cd 0) 24 = .ok (.newarray .int, 2) := (congrArg (fun b => decode b 24) cd0).trans (by decide +kernel)
theorem d0_26 : decode (vm_cd 0) 26 = .ok (.putfield 20, 3) := (congrArg (fun b => decode b 26) cd0).trans (by decide +kernel)
theorem d0_29 : decode (vm_cd 0) 29 = .ok (.aload_n 0, 1) := (congrArg (fun b => decode b 29) cd0).trans (by decide +kernel)
theorem d0_30 : decode (vm_cd 0) 30 = .ok (.iload_n 1, 1) := (congrArg (fun b => decode b 30) cd0).trans (by decide +kernel)
theorem d0_31 : decode (vm_cd 0) 31 = .ok (.putfield 23, 3) := (congrArg (fun b => decode b 31) cd0).trans (by decide +kernel)
theorem d0_34 : decode (vm_cd 0) 34 = .ok (.return_, 1) := (congrArg (fun b => decode b 34) cd0).trans (by decide +kernel)
theorem f0_9 : vm_fl.lookup (vm_own 0, 9) = some (0, 1, 37) := by decide +kernel
theorem f0_17 : vm_fl.lookup (vm_own 0, 17) = some (0, 2, 38) := by decide +kernel
theorem f0_20 : vm_fl.lookup (vm_own 0, 20) = some (0, 3, 39) := by decide +kernel
theorem f0_23 : vm_fl.lookup (vm_own 0, 23) = some (0, 0, 36) := by decide +kernel
theorem c0_3 : vm_ml.lookup (vm_own 0, 3) = some (5, 0, 0, 33, 23, 0, 24) := vm_lk (by decide +kernel)
theorem m0_15 : vm_mn.lookup (vm_own 0, 15) = some (3, 34, 35, 55) := by decide +kernel
theorem r0 : vm_rt 0 = none := by decide +kernel
theorem cd27 : vm_cd 27 = cX1_init := rfl
theorem d27_0 : decode (vm_cd 27) 0 = .ok (.aload_n 0, 1) := (congrArg (fun b => decode b 0) cd27).trans (by decide +kernel)
theorem d27_1 : decode (vm_cd 27) 1 = .ok (.invokespecial 3, 3) := (congrArg (fun b => decode b 1) cd27).trans (by decide +kernel)
theorem d27_4 : decode (vm_cd 27) 4 = .ok (.aload_n 0, 1) := (congrArg (fun b => decode b 4) cd27).trans (by decide +kernel)
theorem d27_5 : decode (vm_cd 27) 5 = .ok (.iconst 2, 1) := (congrArg (fun b => decode b 5) cd27).trans (by decide +kernel)
theorem d27_6 : decode (vm_cd 27) 6 = .ok (.newarray .int, 2) := (congrArg (fun b => decode b 6) cd27).trans (by decide +kernel)
theorem d27_8 : decode (vm_cd 27) 8 = .ok (.dup, 1) := (congrArg (fun b => decode b 8) cd27).trans (by decide +kernel)
theorem d27_9 : decode (vm_cd 27) 9 = .ok (.iconst 0, 1) := (congrArg (fun b => decode b 9) cd27).trans (by decide +kernel)
theorem d27_10 : decode (vm_cd 27) 10 = .ok (.iconst 1, 1) := (congrArg (fun b => decode b 10) cd27).trans (by decide +kernel)
theorem d27_11 : decode (vm_cd 27) 11 = .ok (.iastore, 1) := (congrArg (fun b => decode b 11) cd27).trans (by decide +kernel)
theorem d27_12 : decode (vm_cd 27) 12 = .ok (.dup, 1) := (congrArg (fun b => decode b 12) cd27).trans (by decide +kernel)
theorem d27_13 : decode (vm_cd 27) 13 = .ok (.iconst 1, 1) := (congrArg (fun b => decode b 13) cd27).trans (by decide +kernel)
theorem d27_14 : decode (vm_cd 27) 14 = .ok (.iconst 1, 1) := (congrArg (fun b => decode b 14) cd27).trans (by decide +kernel)
theorem d27_15 : decode (vm_cd 27) 15 = .ok (.iastore, 1) := (congrArg (fun b => decode b 15) cd27).trans (by decide +kernel)
theorem d27_16 : decode (vm_cd 27) 16 = .ok (.putfield 9, 3) := (congrArg (fun b => decode b 16) cd27).trans (by decide +kernel)
theorem d27_19 : decode (vm_cd 27) 19 = .ok (.aload_n 0, 1) := (congrArg (fun b => decode b 19) cd27).trans (by decide +kernel)
theorem d27_20 : decode (vm_cd 27) 20 = .ok (.iconst 2, 1) := (congrArg (fun b => decode b 20) cd27).trans (by decide +kernel)
theorem d27_21 : decode (vm_cd 27) 21 = .ok (.newarray .int, 2) := (congrArg (fun b => decode b 21) cd27).trans (by decide +kernel)
theorem d27_23 : decode (vm_cd 27) 23 = .ok (.putfield 15, 3) := (congrArg (fun b => decode b 23) cd27).trans (by decide +kernel)
theorem d27_26 : decode (vm_cd 27) 26 = .ok (.return_, 1) := (congrArg (fun b => decode b 26) cd27).trans (by decide +kernel)
theorem f27_9 : vm_fl.lookup (vm_own 27, 9) = some (1, 0, 140) := by decide +kernel
theorem f27_15 : vm_fl.lookup (vm_own 27, 15) = some (1, 1, 141) := by decide +kernel
theorem c27_3 : vm_ml.lookup (vm_own 27, 3) = some (5, 0, 0, 139, 23, 0, 24) := vm_lk (by decide +kernel)
theorem r27 : vm_rt 27 = none := by decide +kernel
theorem cd35 : vm_cd 35 = cX2_init := rfl
theorem d35_0 : decode (vm_cd 35) 0 = .ok (.aload_n 0, 1) := (congrArg (fun b => decode b 0) cd35).trans (by decide +kernel)
theorem d35_1 : decode (vm_cd 35) 1 = .ok (.invokespecial 3, 3) := (congrArg (fun b => decode b 1) cd35).trans (by decide +kernel)
theorem d35_4 : decode (vm_cd 35) 4 = .ok (.aload_n 0, 1) := (congrArg (fun b => decode b 4) cd35).trans (by decide +kernel)
theorem d35_5 : decode (vm_cd 35) 5 = .ok (.bipush 120, 2) := (congrArg (fun b => decode b 5) cd35).trans (by decide +kernel)
theorem d35_7 : decode (vm_cd 35) 7 = .ok (.newarray .byte, 2) := (congrArg (fun b => decode b 7) cd35).trans (by decide +kernel)
theorem d35_9 : decode (vm_cd 35) 9 = .ok (.putfield 11, 3) := (congrArg (fun b => decode b 9) cd35).trans (by decide +kernel)
theorem d35_12 : decode (vm_cd 35) 12 = .ok (.aload_n 0, 1) := (congrArg (fun b => decode b 12) cd35).trans (by decide +kernel)
theorem d35_13 : decode (vm_cd 35) 13 = .ok (.bipush 8, 2) := (congrArg (fun b => decode b 13) cd35).trans (by decide +kernel)
theorem d35_15 : decode (vm_cd 35) 15 = .ok (.bipush 120, 2) := (congrArg (fun b => decode b 15) cd35).trans (by decide +kernel)
theorem d35_17 : decode (vm_cd 35) 17 = .ok (.multianewarray 15 2, 4) := (congrArg (fun b => decode b 17) cd35).trans (by decide +kernel)
theorem d35_21 : decode (vm_cd 35) 21 = .ok (.putfield 17, 3) := (congrArg (fun b => decode b 21) cd35).trans (by decide +kernel)
theorem d35_24 : decode (vm_cd 35) 24 = .ok (.aload_n 0, 1) := (congrArg (fun b => decode b 24) cd35).trans (by decide +kernel)
theorem d35_25 : decode (vm_cd 35) 25 = .ok (.bipush 8, 2) := (congrArg (fun b => decode b 25) cd35).trans (by decide +kernel)
theorem d35_27 : decode (vm_cd 35) 27 = .ok (.newarray .int, 2) := (congrArg (fun b => decode b 27) cd35).trans (by decide +kernel)
theorem d35_29 : decode (vm_cd 35) 29 = .ok (.putfield 20, 3) := (congrArg (fun b => decode b 29) cd35).trans (by decide +kernel)
theorem d35_32 : decode (vm_cd 35) 32 = .ok (.aload_n 0, 1) := (congrArg (fun b => decode b 32) cd35).trans (by decide +kernel)
theorem d35_33 : decode (vm_cd 35) 33 = .ok (.new 24, 3) := (congrArg (fun b => decode b 33) cd35).trans (by decide +kernel)
theorem d35_36 : decode (vm_cd 35) 36 = .ok (.dup, 1) := (congrArg (fun b => decode b 36) cd35).trans (by decide +kernel)
theorem d35_37 : decode (vm_cd 35) 37 = .ok (.invokespecial 26, 3) := (congrArg (fun b => decode b 37) cd35).trans (by decide +kernel)
theorem d35_40 : decode (vm_cd 35) 40 = .ok (.putfield 27, 3) := (congrArg (fun b => decode b 40) cd35).trans (by decide +kernel)
theorem d35_43 : decode (vm_cd 35) 43 = .ok (.return_, 1) := (congrArg (fun b => decode b 43) cd35).trans (by decide +kernel)
theorem f35_11 : vm_fl.lookup (vm_own 35, 11) = some (2, 0, 184) := by decide +kernel
theorem f35_17 : vm_fl.lookup (vm_own 35, 17) = some (2, 1, 185) := by decide +kernel
theorem f35_20 : vm_fl.lookup (vm_own 35, 20) = some (2, 2, 186) := by decide +kernel
theorem f35_27 : vm_fl.lookup (vm_own 35, 27) = some (2, 3, 187) := by decide +kernel
theorem c35_3 : vm_ml.lookup (vm_own 35, 3) = some (5, 0, 0, 155, 23, 0, 24) := vm_lk (by decide +kernel)
theorem c35_26 : vm_ml.lookup (vm_own 35, 26) = some (4, 68, 0, 160, 161, 0, 10) := vm_lk (by decide +kernel)
theorem n35_24 : vm_nw.lookup (vm_own 35, 24) = some (5, 158, 159, 10) := by decide +kernel
theorem m35_15 : vm_mn.lookup (vm_own 35, 15) = some (5, 156, 157, 183) := by decide +kernel
theorem r35 : vm_rt 35 = none := by decide +kernel
theorem cd44 : vm_cd 44 = cX3_init := rfl
theorem d44_0 : decode (vm_cd 44) 0 = .ok (.aload_n 0, 1) := (congrArg (fun b => decode b 0) cd44).trans (by decide +kernel)
theorem d44_1 : decode (vm_cd 44) 1 = .ok (.invokespecial 1, 3) := (congrArg (fun b => decode b 1) cd44).trans (by decide +kernel)
theorem d44_4 : decode (vm_cd 44) 4 = .ok (.aload_n 0, 1) := (congrArg (fun b => decode b 4) cd44).trans (by decide +kernel)
theorem d44_5 : decode (vm_cd 44) 5 = .ok (.bipush 10, 2) := (congrArg (fun b => decode b 5) cd44).trans (by decide +kernel)
theorem d44_7 : decode (vm_cd 44) 7 = .ok (.newarray .int, 2) := (congrArg (fun b => decode b 7) cd44).trans (by decide +kernel)
theorem d44_9 : decode (vm_cd 44) 9 = .ok (.putfield 9, 3) := (congrArg (fun b => decode b 9) cd44).trans (by decide +kernel)
theorem d44_12 : decode (vm_cd 44) 12 = .ok (.return_, 1) := (congrArg (fun b => decode b 12) cd44).trans (by decide +kernel)
theorem f44_9 : vm_fl.lookup (vm_own 44, 9) = some (3, 0, 84) := by decide +kernel
theorem c44_1 : vm_ml.lookup (vm_own 44, 1) = some (5, 0, 0, 83, 23, 0, 24) := vm_lk (by decide +kernel)
theorem r44 : vm_rt 44 = none := by decide +kernel
theorem cd53 : vm_cd 53 = cX4_init := rfl
theorem d53_0 : decode (vm_cd 53) 0 = .ok (.aload_n 0, 1) := (congrArg (fun b => decode b 0) cd53).trans (by decide +kernel)
theorem d53_1 : decode (vm_cd 53) 1 = .ok (.invokespecial 5, 3) := (congrArg (fun b => decode b 1) cd53).trans (by decide +kernel)
theorem d53_4 : decode (vm_cd 53) 4 = .ok (.aload_n 0, 1) := (congrArg (fun b => decode b 4) cd53).trans (by decide +kernel)
theorem d53_5 : decode (vm_cd 53) 5 = .ok (.iconst 2, 1) := (congrArg (fun b => decode b 5) cd53).trans (by decide +kernel)
theorem d53_6 : decode (vm_cd 53) 6 = .ok (.newarray .int, 2) := (congrArg (fun b => decode b 6) cd53).trans (by decide +kernel)
theorem d53_8 : decode (vm_cd 53) 8 = .ok (.dup, 1) := (congrArg (fun b => decode b 8) cd53).trans (by decide +kernel)
theorem d53_9 : decode (vm_cd 53) 9 = .ok (.iconst 0, 1) := (congrArg (fun b => decode b 9) cd53).trans (by decide +kernel)
theorem d53_10 : decode (vm_cd 53) 10 = .ok (.iconst 0, 1) := (congrArg (fun b => decode b 10) cd53).trans (by decide +kernel)
theorem d53_11 : decode (vm_cd 53) 11 = .ok (.iastore, 1) := (congrArg (fun b => decode b 11) cd53).trans (by decide +kernel)
theorem d53_12 : decode (vm_cd 53) 12 = .ok (.dup, 1) := (congrArg (fun b => decode b 12) cd53).trans (by decide +kernel)
theorem d53_13 : decode (vm_cd 53) 13 = .ok (.iconst 1, 1) := (congrArg (fun b => decode b 13) cd53).trans (by decide +kernel)
theorem d53_14 : decode (vm_cd 53) 14 = .ok (.iconst 3, 1) := (congrArg (fun b => decode b 14) cd53).trans (by decide +kernel)
theorem d53_15 : decode (vm_cd 53) 15 = .ok (.iastore, 1) := (congrArg (fun b => decode b 15) cd53).trans (by decide +kernel)
theorem d53_16 : decode (vm_cd 53) 16 = .ok (.putfield 11, 3) := (congrArg (fun b => decode b 16) cd53).trans (by decide +kernel)
theorem d53_19 : decode (vm_cd 53) 19 = .ok (.aload_n 0, 1) := (congrArg (fun b => decode b 19) cd53).trans (by decide +kernel)
theorem d53_20 : decode (vm_cd 53) 20 = .ok (.iconst 2, 1) := (congrArg (fun b => decode b 20) cd53).trans (by decide +kernel)
theorem d53_21 : decode (vm_cd 53) 21 = .ok (.newarray .int, 2) := (congrArg (fun b => decode b 21) cd53).trans (by decide +kernel)
theorem d53_23 : decode (vm_cd 53) 23 = .ok (.dup, 1) := (congrArg (fun b => decode b 23) cd53).trans (by decide +kernel)
theorem d53_24 : decode (vm_cd 53) 24 = .ok (.iconst 0, 1) := (congrArg (fun b => decode b 24) cd53).trans (by decide +kernel)
theorem d53_25 : decode (vm_cd 53) 25 = .ok (.iconst 3, 1) := (congrArg (fun b => decode b 25) cd53).trans (by decide +kernel)
theorem d53_26 : decode (vm_cd 53) 26 = .ok (.iastore, 1) := (congrArg (fun b => decode b 26) cd53).trans (by decide +kernel)
theorem d53_27 : decode (vm_cd 53) 27 = .ok (.dup, 1) := (congrArg (fun b => decode b 27) cd53).trans (by decide +kernel)
theorem d53_28 : decode (vm_cd 53) 28 = .ok (.iconst 1, 1) := (congrArg (fun b => decode b 28) cd53).trans (by decide +kernel)
theorem d53_29 : decode (vm_cd 53) 29 = .ok (.bipush 9, 2) := (congrArg (fun b => decode b 29) cd53).trans (by decide +kernel)
theorem d53_31 : decode (vm_cd 53) 31 = .ok (.iastore, 1) := (congrArg (fun b => decode b 31) cd53).trans (by decide +kernel)
theorem d53_32 : decode (vm_cd 53) 32 = .ok (.putfield 15, 3) := (congrArg (fun b => decode b 32) cd53).trans (by decide +kernel)
theorem d53_35 : decode (vm_cd 53) 35 = .ok (.aload_n 0, 1) := (congrArg (fun b => decode b 35) cd53).trans (by decide +kernel)
theorem d53_36 : decode (vm_cd 53) 36 = .ok (.bipush 7, 2) := (congrArg (fun b => decode b 36) cd53).trans (by decide +kernel)
theorem d53_38 : decode (vm_cd 53) 38 = .ok (.bipush 13, 2) := (congrArg (fun b => decode b 38) cd53).trans (by decide +kernel)
theorem d53_40 : decode (vm_cd 53) 40 = .ok (.multianewarray 18 2, 4) := (congrArg (fun b => decode b 40) cd53).trans (by decide +kernel)
theorem d53_44 : decode (vm_cd 53) 44 = .ok (.putfield 20, 3) := (congrArg (fun b => decode b 44) cd53).trans (by decide +kernel)
theorem d53_47 : decode (vm_cd 53) 47 = .ok (.aload_n 0, 1) := (congrArg (fun b => decode b 47) cd53).trans (by decide +kernel)
theorem d53_48 : decode (vm_cd 53) 48 = .ok (.bipush 7, 2) := (congrArg (fun b => decode b 48) cd53).trans (by decide +kernel)
theorem d53_50 : decode (vm_cd 53) 50 = .ok (.bipush 52, 2) := (congrArg (fun b => decode b 50) cd53).trans (by decide +kernel)
theorem d53_52 : decode (vm_cd 53) 52 = .ok (.multianewarray 23 2, 4) := (congrArg (fun b => decode b 52) cd53).trans (by decide +kernel)
theorem d53_56 : decode (vm_cd 53) 56 = .ok (.putfield 25, 3) := (congrArg (fun b => decode b 56) cd53).trans (by decide +kernel)
theorem d53_59 : decode (vm_cd 53) 59 = .ok (.aload_n 0, 1) := (congrArg (fun b => decode b 59) cd53).trans (by decide +kernel)
theorem d53_60 : decode (vm_cd 53) 60 = .ok (.bipush 10, 2) := (congrArg (fun b => decode b 60) cd53).trans (by decide +kernel)
theorem d53_62 : decode (vm_cd 53) 62 = .ok (.putfield 28, 3) := (congrArg (fun b => decode b 62) cd53).trans (by decide +kernel)
theorem d53_65 : decode (vm_cd 53) 65 = .ok (.return_, 1) := (congrArg (fun b => decode b 65) cd53).trans (by decide +kernel)
theorem f53_11 : vm_fl.lookup (vm_own 53, 11) = some (4, 0, 96) := by decide +kernel
theorem f53_15 : vm_fl.lookup (vm_own 53, 15) = some (4, 1, 97) := by decide +kernel
theorem f53_20 : vm_fl.lookup (vm_own 53, 20) = some (4, 2, 98) := by decide +kernel
theorem f53_25 : vm_fl.lookup (vm_own 53, 25) = some (4, 3, 99) := by decide +kernel
theorem f53_28 : vm_fl.lookup (vm_own 53, 28) = some (4, 4, 100) := by decide +kernel
theorem c53_5 : vm_ml.lookup (vm_own 53, 5) = some (5, 0, 0, 93, 23, 0, 24) := vm_lk (by decide +kernel)
theorem m53_18 : vm_mn.lookup (vm_own 53, 18) = some (4, 94, 63, 77) := by decide +kernel
theorem m53_23 : vm_mn.lookup (vm_own 53, 23) = some (3, 95, 35, 55) := by decide +kernel
theorem r53 : vm_rt 53 = none := by decide +kernel
theorem cd68 : vm_cd 68 = cX6_init := rfl
theorem d68_0 : decode (vm_cd 68) 0 = .ok (.aload_n 0, 1) := (congrArg (fun b => decode b 0) cd68).trans (by decide +kernel)
theorem d68_1 : decode (vm_cd 68) 1 = .ok (.invokespecial 1, 3) := (congrArg (fun b => decode b 1) cd68).trans (by decide +kernel)
theorem d68_4 : decode (vm_cd 68) 4 = .ok (.aload_n 0, 1) := (congrArg (fun b => decode b 4) cd68).trans (by decide +kernel)
theorem d68_5 : decode (vm_cd 68) 5 = .ok (.iconst 0, 1) := (congrArg (fun b => decode b 5) cd68).trans (by decide +kernel)
theorem d68_6 : decode (vm_cd 68) 6 = .ok (.newarray .byte, 2) := (congrArg (fun b => decode b 6) cd68).trans (by decide +kernel)
theorem d68_8 : decode (vm_cd 68) 8 = .ok (.putfield 7, 3) := (congrArg (fun b => decode b 8) cd68).trans (by decide +kernel)
theorem d68_11 : decode (vm_cd 68) 11 = .ok (.return_, 1) := (congrArg (fun b => decode b 11) cd68).trans (by decide +kernel)
theorem f68_7 : vm_fl.lookup (vm_own 68, 7) = some (5, 0, 164) := by decide +kernel
theorem c68_1 : vm_ml.lookup (vm_own 68, 1) = some (5, 0, 0, 163, 23, 0, 24) := vm_lk (by decide +kernel)
theorem r68 : vm_rt 68 = none := by decide +kernel
theorem cd84 : vm_cd 84 = cX7_init := rfl
theorem d84_0 : decode (vm_cd 84) 0 = .ok (.aload_n 0, 1) := (congrArg (fun b => decode b 0) cd84).trans (by decide +kernel)
theorem d84_1 : decode (vm_cd 84) 1 = .ok (.invokespecial 3, 3) := (congrArg (fun b => decode b 1) cd84).trans (by decide +kernel)
theorem d84_4 : decode (vm_cd 84) 4 = .ok (.aload_n 0, 1) := (congrArg (fun b => decode b 4) cd84).trans (by decide +kernel)
theorem d84_5 : decode (vm_cd 84) 5 = .ok (.bipush 13, 2) := (congrArg (fun b => decode b 5) cd84).trans (by decide +kernel)
theorem d84_7 : decode (vm_cd 84) 7 = .ok (.iconst 5, 1) := (congrArg (fun b => decode b 7) cd84).trans (by decide +kernel)
theorem d84_8 : decode (vm_cd 84) 8 = .ok (.multianewarray 9 2, 4) := (congrArg (fun b => decode b 8) cd84).trans (by decide +kernel)
theorem d84_12 : decode (vm_cd 84) 12 = .ok (.putfield 11, 3) := (congrArg (fun b => decode b 12) cd84).trans (by decide +kernel)
theorem d84_15 : decode (vm_cd 84) 15 = .ok (.aload_n 0, 1) := (congrArg (fun b => decode b 15) cd84).trans (by decide +kernel)
theorem d84_16 : decode (vm_cd 84) 16 = .ok (.lconst 1, 1) := (congrArg (fun b => decode b 16) cd84).trans (by decide +kernel)
theorem d84_17 : decode (vm_cd 84) 17 = .ok (.putfield 14, 3) := (congrArg (fun b => decode b 17) cd84).trans (by decide +kernel)
theorem d84_20 : decode (vm_cd 84) 20 = .ok (.return_, 1) := (congrArg (fun b => decode b 20) cd84).trans (by decide +kernel)
theorem f84_11 : vm_fl.lookup (vm_own 84, 11) = some (6, 0, 64) := by decide +kernel
theorem f84_14 : vm_fl.lookup (vm_own 84, 14) = some (6, 3, 67) := by decide +kernel
theorem c84_3 : vm_ml.lookup (vm_own 84, 3) = some (5, 0, 0, 61, 23, 0, 24) := vm_lk (by decide +kernel)
theorem m84_9 : vm_mn.lookup (vm_own 84, 9) = some (4, 62, 63, 77) := by decide +kernel
theorem r84 : vm_rt 84 = none := by decide +kernel
theorem cd98 : vm_cd 98 = cX8_init := rfl
theorem d98_0 : decode (vm_cd 98) 0 = .ok (.aload_n 0, 1) := (congrArg (fun b => decode b 0) cd98).trans (by decide +kernel)
theorem d98_1 : decode (vm_cd 98) 1 = .ok (.invokespecial 3, 3) := (congrArg (fun b => decode b 1) cd98).trans (by decide +kernel)
theorem d98_4 : decode (vm_cd 98) 4 = .ok (.aload_n 0, 1) := (congrArg (fun b => decode b 4) cd98).trans (by decide +kernel)
theorem d98_5 : decode (vm_cd 98) 5 = .ok (.iconst 4, 1) := (congrArg (fun b => decode b 5) cd98).trans (by decide +kernel)
theorem d98_6 : decode (vm_cd 98) 6 = .ok (.newarray .int, 2) := (congrArg (fun b => decode b 6) cd98).trans (by decide +kernel)
theorem d98_8 : decode (vm_cd 98) 8 = .ok (.putfield 11, 3) := (congrArg (fun b => decode b 8) cd98).trans (by decide +kernel)
theorem d98_11 : decode (vm_cd 98) 11 = .ok (.aload_n 0, 1) := (congrArg (fun b => decode b 11) cd98).trans (by decide +kernel)
theorem d98_12 : decode (vm_cd 98) 12 = .ok (.iconst 4, 1) := (congrArg (fun b => decode b 12) cd98).trans (by decide +kernel)
theorem d98_13 : decode (vm_cd 98) 13 = .ok (.newarray .int, 2) := (congrArg (fun b => decode b 13) cd98).trans (by decide +kernel)
theorem d98_15 : decode (vm_cd 98) 15 = .ok (.putfield 15, 3) := (congrArg (fun b => decode b 15) cd98).trans (by decide +kernel)
theorem d98_18 : decode (vm_cd 98) 18 = .ok (.aload_n 0, 1) := (congrArg (fun b => decode b 18) cd98).trans (by decide +kernel)
theorem d98_19 : decode (vm_cd 98) 19 = .ok (.iconst 5, 1) := (congrArg (fun b => decode b 19) cd98).trans (by decide +kernel)
theorem d98_20 : decode (vm_cd 98) 20 = .ok (.newarray .int, 2) := (congrArg (fun b => decode b 20) cd98).trans (by decide +kernel)
theorem d98_22 : decode (vm_cd 98) 22 = .ok (.putfield 18, 3) := (congrArg (fun b => decode b 22) cd98).trans (by decide +kernel)
theorem d98_25 : decode (vm_cd 98) 25 = .ok (.aload_n 0, 1) := (congrArg (fun b => decode b 25) cd98).trans (by decide +kernel)
theorem d98_26 : decode (vm_cd 98) 26 = .ok (.iconst 2, 1) := (congrArg (fun b => decode b 26) cd98).trans (by decide +kernel)
theorem d98_27 : decode (vm_cd 98) 27 = .ok (.putfield 21, 3) := (congrArg (fun b => decode b 27) cd98).trans (by decide +kernel)
theorem d98_30 : decode (vm_cd 98) 30 = .ok (.return_, 1) := (congrArg (fun b => decode b 30) cd98).trans (by decide +kernel)
theorem f98_11 : vm_fl.lookup (vm_own 98, 11) = some (7, 0, 121) := by decide +kernel
theorem f98_15 : vm_fl.lookup (vm_own 98, 15) = some (7, 1, 122) := by decide +kernel
theorem f98_18 : vm_fl.lookup (vm_own 98, 18) = some (7, 2, 123) := by decide +kernel
theorem f98_21 : vm_fl.lookup (vm_own 98, 21) = some (7, 3, 124) := by decide +kernel
theorem c98_3 : vm_ml.lookup (vm_own 98, 3) = some (5, 0, 0, 120, 23, 0, 24) := vm_lk (by decide +kernel)
theorem r98 : vm_rt 98 = none := by decide +kernel
theorem cd110 : vm_cd 110 = cX9_init := rfl
theorem d110_0 : decode (vm_cd 110) 0 = .ok (.aload_n 0, 1) := (congrArg (fun b => decode b 0) cd110).trans (by decide +kernel)
theorem d110_1 : decode (vm_cd 110) 1 = .ok (.invokespecial 1, 3) := (congrArg (fun b => decode b 1) cd110).trans (by decide +kernel)
theorem d110_4 : decode (vm_cd 110) 4 = .ok (.return_, 1) := (congrArg (fun b => decode b 4) cd110).trans (by decide +kernel)
theorem c110_1 : vm_ml.lookup (vm_own 110, 1) = some (5, 0, 0, 239, 23, 0, 24) := vm_lk (by decide +kernel)
theorem r110 : vm_rt 110 = none := by decide +kernel
theorem cd116 : vm_cd 116 = cX10_init := rfl
theorem d116_0 : decode (vm_cd 116) 0 = .ok (.aload_n 0, 1) := (congrArg (fun b => decode b 0) cd116).trans (by decide +kernel)
theorem d116_1 : decode (vm_cd 116) 1 = .ok (.invokespecial 3, 3) := (congrArg (fun b => decode b 1) cd116).trans (by decide +kernel)
theorem d116_4 : decode (vm_cd 116) 4 = .ok (.aload_n 0, 1) := (congrArg (fun b => decode b 4) cd116).trans (by decide +kernel)
theorem d116_5 : decode (vm_cd 116) 5 = .ok (.bipush 60, 2) := (congrArg (fun b => decode b 5) cd116).trans (by decide +kernel)
theorem d116_7 : decode (vm_cd 116) 7 = .ok (.newarray .int, 2) := (congrArg (fun b => decode b 7) cd116).trans (by decide +kernel)
theorem d116_9 : decode (vm_cd 116) 9 = .ok (.putfield 11, 3) := (congrArg (fun b => decode b 9) cd116).trans (by decide +kernel)
theorem d116_12 : decode (vm_cd 116) 12 = .ok (.aload_n 0, 1) := (congrArg (fun b => decode b 12) cd116).trans (by decide +kernel)
theorem d116_13 : decode (vm_cd 116) 13 = .ok (.bipush 60, 2) := (congrArg (fun b => decode b 13) cd116).trans (by decide +kernel)
theorem d116_15 : decode (vm_cd 116) 15 = .ok (.newarray .int, 2) := (congrArg (fun b => decode b 15) cd116).trans (by decide +kernel)
theorem d116_17 : decode (vm_cd 116) 17 = .ok (.putfield 15, 3) := (congrArg (fun b => decode b 17) cd116).trans (by decide +kernel)
theorem d116_20 : decode (vm_cd 116) 20 = .ok (.aload_n 0, 1) := (congrArg (fun b => decode b 20) cd116).trans (by decide +kernel)
theorem d116_21 : decode (vm_cd 116) 21 = .ok (.bipush 60, 2) := (congrArg (fun b => decode b 21) cd116).trans (by decide +kernel)
theorem d116_23 : decode (vm_cd 116) 23 = .ok (.newarray .int, 2) := (congrArg (fun b => decode b 23) cd116).trans (by decide +kernel)
theorem d116_25 : decode (vm_cd 116) 25 = .ok (.putfield 18, 3) := (congrArg (fun b => decode b 25) cd116).trans (by decide +kernel)
theorem d116_28 : decode (vm_cd 116) 28 = .ok (.aload_n 0, 1) := (congrArg (fun b => decode b 28) cd116).trans (by decide +kernel)
theorem d116_29 : decode (vm_cd 116) 29 = .ok (.bipush 60, 2) := (congrArg (fun b => decode b 29) cd116).trans (by decide +kernel)
theorem d116_31 : decode (vm_cd 116) 31 = .ok (.newarray .int, 2) := (congrArg (fun b => decode b 31) cd116).trans (by decide +kernel)
theorem d116_33 : decode (vm_cd 116) 33 = .ok (.putfield 21, 3) := (congrArg (fun b => decode b 33) cd116).trans (by decide +kernel)
theorem d116_36 : decode (vm_cd 116) 36 = .ok (.aload_n 0, 1) := (congrArg (fun b => decode b 36) cd116).trans (by decide +kernel)
theorem d116_37 : decode (vm_cd 116) 37 = .ok (.bipush 60, 2) := (congrArg (fun b => decode b 37) cd116).trans (by decide +kernel)
theorem d116_39 : decode (vm_cd 116) 39 = .ok (.newarray .int, 2) := (congrArg (fun b => decode b 39) cd116).trans (by decide +kernel)
theorem d116_41 : decode (vm_cd 116) 41 = .ok (.putfield 24, 3) := (congrArg (fun b => decode b 41) cd116).trans (by decide +kernel)
theorem d116_44 : decode (vm_cd 116) 44 = .ok (.aload_n 0, 1) := (congrArg (fun b => decode b 44) cd116).trans (by decide +kernel)
theorem d116_45 : decode (vm_cd 116) 45 = .ok (.bipush 60, 2) := (congrArg (fun b => decode b 45) cd116).trans (by decide +kernel)
theorem d116_47 : decode (vm_cd 116) 47 = .ok (.newarray .int, 2) := (congrArg (fun b => decode b 47) cd116).trans (by decide +kernel)
theorem d116_49 : decode (vm_cd 116) 49 = .ok (.putfield 27, 3) := (congrArg (fun b => decode b 49) cd116).trans (by decide +kernel)
theorem d116_52 : decode (vm_cd 116) 52 = .ok (.return_, 1) := (congrArg (fun b => decode b 52) cd116).trans (by decide +kernel)
theorem f116_11 : vm_fl.lookup (vm_own 116, 11) = some (9, 0, 209) := by decide +kernel
theorem f116_15 : vm_fl.lookup (vm_own 116, 15) = some (9, 1, 210) := by decide +kernel
theorem f116_18 : vm_fl.lookup (vm_own 116, 18) = some (9, 2, 211) := by decide +kernel
theorem f116_21 : vm_fl.lookup (vm_own 116, 21) = some (9, 3, 212) := by decide +kernel
theorem f116_24 : vm_fl.lookup (vm_own 116, 24) = some (9, 4, 213) := by decide +kernel
theorem f116_27 : vm_fl.lookup (vm_own 116, 27) = some (9, 5, 214) := by decide +kernel
theorem c116_3 : vm_ml.lookup (vm_own 116, 3) = some (5, 0, 0, 208, 23, 0, 24) := vm_lk (by decide +kernel)
theorem r116 : vm_rt 116 = none := by decide +kernel
theorem cd127 : vm_cd 127 = cX11_init := rfl
theorem d127_0 : decode (vm_cd 127) 0 = .ok (.aload_n 0, 1) := (congrArg (fun b => decode b 0) cd127).trans (by decide +kernel)
theorem d127_1 : decode (vm_cd 127) 1 = .ok (.invokespecial 3, 3) := (congrArg (fun b => decode b 1) cd127).trans (by decide +kernel)
theorem d127_4 : decode (vm_cd 127) 4 = .ok (.aload_n 0, 1) := (congrArg (fun b => decode b 4) cd127).trans (by decide +kernel)
theorem d127_5 : decode (vm_cd 127) 5 = .ok (.new 9, 3) := (congrArg (fun b => decode b 5) cd127).trans (by decide +kernel)
theorem d127_8 : decode (vm_cd 127) 8 = .ok (.dup, 1) := (congrArg (fun b => decode b 8) cd127).trans (by decide +kernel)
theorem d127_9 : decode (vm_cd 127) 9 = .ok (.iconst 2, 1) := (congrArg (fun b => decode b 9) cd127).trans (by decide +kernel)
theorem d127_10 : decode (vm_cd 127) 10 = .ok (.iload_n 1, 1) := (congrArg (fun b => decode b 10) cd127).trans (by decide +kernel)
theorem d127_11 : decode (vm_cd 127) 11 = .ok (.iconst 3, 1) := (congrArg (fun b => decode b 11) cd127).trans (by decide +kernel)
theorem d127_12 : decode (vm_cd 127) 12 = .ok (.invokestatic 13, 3) := (congrArg (fun b => decode b 12) cd127).trans (by decide +kernel)
theorem d127_15 : decode (vm_cd 127) 15 = .ok (.iadd, 1) := (congrArg (fun b => decode b 15) cd127).trans (by decide +kernel)
theorem d127_16 : decode (vm_cd 127) 16 = .ok (.invokespecial 19, 3) := (congrArg (fun b => decode b 16) cd127).trans (by decide +kernel)
theorem d127_19 : decode (vm_cd 127) 19 = .ok (.putfield 22, 3) := (congrArg (fun b => decode b 19) cd127).trans (by decide +kernel)
theorem d127_22 : decode (vm_cd 127) 22 = .ok (.aload_n 0, 1) := (congrArg (fun b => decode b 22) cd127).trans (by decide +kernel)
theorem d127_23 : decode (vm_cd 127) 23 = .ok (.new 26, 3) := (congrArg (fun b => decode b 23) cd127).trans (by decide +kernel)
theorem d127_26 : decode (vm_cd 127) 26 = .ok (.dup, 1) := (congrArg (fun b => decode b 26) cd127).trans (by decide +kernel)
theorem d127_27 : decode (vm_cd 127) 27 = .ok (.invokespecial 28, 3) := (congrArg (fun b => decode b 27) cd127).trans (by decide +kernel)
theorem d127_30 : decode (vm_cd 127) 30 = .ok (.putfield 29, 3) := (congrArg (fun b => decode b 30) cd127).trans (by decide +kernel)
theorem d127_33 : decode (vm_cd 127) 33 = .ok (.aload_n 0, 1) := (congrArg (fun b => decode b 33) cd127).trans (by decide +kernel)
theorem d127_34 : decode (vm_cd 127) 34 = .ok (.new 33, 3) := (congrArg (fun b => decode b 34) cd127).trans (by decide +kernel)
theorem d127_37 : decode (vm_cd 127) 37 = .ok (.dup, 1) := (congrArg (fun b => decode b 37) cd127).trans (by decide +kernel)
theorem d127_38 : decode (vm_cd 127) 38 = .ok (.invokespecial 35, 3) := (congrArg (fun b => decode b 38) cd127).trans (by decide +kernel)
theorem d127_41 : decode (vm_cd 127) 41 = .ok (.putfield 36, 3) := (congrArg (fun b => decode b 41) cd127).trans (by decide +kernel)
theorem d127_44 : decode (vm_cd 127) 44 = .ok (.aload_n 0, 1) := (congrArg (fun b => decode b 44) cd127).trans (by decide +kernel)
theorem d127_45 : decode (vm_cd 127) 45 = .ok (.new 40, 3) := (congrArg (fun b => decode b 45) cd127).trans (by decide +kernel)
theorem d127_48 : decode (vm_cd 127) 48 = .ok (.dup, 1) := (congrArg (fun b => decode b 48) cd127).trans (by decide +kernel)
theorem d127_49 : decode (vm_cd 127) 49 = .ok (.invokespecial 42, 3) := (congrArg (fun b => decode b 49) cd127).trans (by decide +kernel)
theorem d127_52 : decode (vm_cd 127) 52 = .ok (.putfield 43, 3) := (congrArg (fun b => decode b 52) cd127).trans (by decide +kernel)
theorem d127_55 : decode (vm_cd 127) 55 = .ok (.aload_n 0, 1) := (congrArg (fun b => decode b 55) cd127).trans (by decide +kernel)
theorem d127_56 : decode (vm_cd 127) 56 = .ok (.new 47, 3) := (congrArg (fun b => decode b 56) cd127).trans (by decide +kernel)
theorem d127_59 : decode (vm_cd 127) 59 = .ok (.dup, 1) := (congrArg (fun b => decode b 59) cd127).trans (by decide +kernel)
theorem d127_60 : decode (vm_cd 127) 60 = .ok (.invokespecial 49, 3) := (congrArg (fun b => decode b 60) cd127).trans (by decide +kernel)
theorem d127_63 : decode (vm_cd 127) 63 = .ok (.putfield 50, 3) := (congrArg (fun b => decode b 63) cd127).trans (by decide +kernel)
theorem d127_66 : decode (vm_cd 127) 66 = .ok (.aload_n 0, 1) := (congrArg (fun b => decode b 66) cd127).trans (by decide +kernel)
theorem d127_67 : decode (vm_cd 127) 67 = .ok (.new 54, 3) := (congrArg (fun b => decode b 67) cd127).trans (by decide +kernel)
theorem d127_70 : decode (vm_cd 127) 70 = .ok (.dup, 1) := (congrArg (fun b => decode b 70) cd127).trans (by decide +kernel)
theorem d127_71 : decode (vm_cd 127) 71 = .ok (.invokespecial 56, 3) := (congrArg (fun b => decode b 71) cd127).trans (by decide +kernel)
theorem d127_74 : decode (vm_cd 127) 74 = .ok (.putfield 57, 3) := (congrArg (fun b => decode b 74) cd127).trans (by decide +kernel)
theorem d127_77 : decode (vm_cd 127) 77 = .ok (.aload_n 0, 1) := (congrArg (fun b => decode b 77) cd127).trans (by decide +kernel)
theorem d127_78 : decode (vm_cd 127) 78 = .ok (.new 61, 3) := (congrArg (fun b => decode b 78) cd127).trans (by decide +kernel)
theorem d127_81 : decode (vm_cd 127) 81 = .ok (.dup, 1) := (congrArg (fun b => decode b 81) cd127).trans (by decide +kernel)
theorem d127_82 : decode (vm_cd 127) 82 = .ok (.invokespecial 63, 3) := (congrArg (fun b => decode b 82) cd127).trans (by decide +kernel)
theorem d127_85 : decode (vm_cd 127) 85 = .ok (.putfield 64, 3) := (congrArg (fun b => decode b 85) cd127).trans (by decide +kernel)
theorem d127_88 : decode (vm_cd 127) 88 = .ok (.aload_n 0, 1) := (congrArg (fun b => decode b 88) cd127).trans (by decide +kernel)
theorem d127_89 : decode (vm_cd 127) 89 = .ok (.new 68, 3) := (congrArg (fun b => decode b 89) cd127).trans (by decide +kernel)
theorem d127_92 : decode (vm_cd 127) 92 = .ok (.dup, 1) := (congrArg (fun b => decode b 92) cd127).trans (by decide +kernel)
theorem d127_93 : decode (vm_cd 127) 93 = .ok (.invokespecial 70, 3) := (congrArg (fun b => decode b 93) cd127).trans (by decide +kernel)
theorem d127_96 : decode (vm_cd 127) 96 = .ok (.putfield 71, 3) := (congrArg (fun b => decode b 96) cd127).trans (by decide +kernel)
theorem d127_99 : decode (vm_cd 127) 99 = .ok (.aload_n 0, 1) := (congrArg (fun b => decode b 99) cd127).trans (by decide +kernel)
theorem d127_100 : decode (vm_cd 127) 100 = .ok (.new 75, 3) := (congrArg (fun b => decode b 100) cd127).trans (by decide +kernel)
theorem d127_103 : decode (vm_cd 127) 103 = .ok (.dup, 1) := (congrArg (fun b => decode b 103) cd127).trans (by decide +kernel)
theorem d127_104 : decode (vm_cd 127) 104 = .ok (.invokespecial 77, 3) := (congrArg (fun b => decode b 104) cd127).trans (by decide +kernel)
theorem d127_107 : decode (vm_cd 127) 107 = .ok (.putfield 78, 3) := (congrArg (fun b => decode b 107) cd127).trans (by decide +kernel)
theorem d127_110 : decode (vm_cd 127) 110 = .ok (.aload_n 0, 1) := (congrArg (fun b => decode b 110) cd127).trans (by decide +kernel)
theorem d127_111 : decode (vm_cd 127) 111 = .ok (.iconst 4, 1) := (congrArg (fun b => decode b 111) cd127).trans (by decide +kernel)
theorem d127_112 : decode (vm_cd 127) 112 = .ok (.newarray .int, 2) := (congrArg (fun b => decode b 112) cd127).trans (by decide +kernel)
theorem d127_114 : decode (vm_cd 127) 114 = .ok (.putfield 82, 3) := (congrArg (fun b => decode b 114) cd127).trans (by decide +kernel)
theorem d127_117 : decode (vm_cd 127) 117 = .ok (.aload_n 0, 1) := (congrArg (fun b => decode b 117) cd127).trans (by decide +kernel)
theorem d127_118 : decode (vm_cd 127) 118 = .ok (.iconst 4, 1) := (congrArg (fun b => decode b 118) cd127).trans (by decide +kernel)
theorem d127_119 : decode (vm_cd 127) 119 = .ok (.newarray .int, 2) := (congrArg (fun b => decode b 119) cd127).trans (by decide +kernel)
theorem d127_121 : decode (vm_cd 127) 121 = .ok (.putfield 86, 3) := (congrArg (fun b => decode b 121) cd127).trans (by decide +kernel)
theorem d127_124 : decode (vm_cd 127) 124 = .ok (.aload_n 0, 1) := (congrArg (fun b => decode b 124) cd127).trans (by decide +kernel)
theorem d127_125 : decode (vm_cd 127) 125 = .ok (.iconst 4, 1) := (congrArg (fun b => decode b 125) cd127).trans (by decide +kernel)
theorem d127_126 : decode (vm_cd 127) 126 = .ok (.newarray .int, 2) := (congrArg (fun b => decode b 126) cd127).trans (by decide +kernel)
theorem d127_128 : decode (vm_cd 127) 128 = .ok (.putfield 89, 3) := (congrArg (fun b => decode b 128) cd127).trans (by decide +kernel)
theorem d127_131 : decode (vm_cd 127) 131 = .ok (.return_, 1) := (congrArg (fun b => decode b 131) cd127).trans (by decide +kernel)
theorem f127_22 : vm_fl.lookup (vm_own 127, 22) = some (10, 0, 250) := by decide +kernel
theorem f127_29 : vm_fl.lookup (vm_own 127, 29) = some (10, 1, 251) := by decide +kernel
theorem f127_36 : vm_fl.lookup (vm_own 127, 36) = some (10, 2, 252) := by decide +kernel
theorem f127_43 : vm_fl.lookup (vm_own 127, 43) = some (10, 3, 253) := by decide +kernel
theorem f127_50 : vm_fl.lookup (vm_own 127, 50) = some (10, 4, 254) := by decide +kernel
theorem f127_57 : vm_fl.lookup (vm_own 127, 57) = some (10, 5, 255) := by decide +kernel
theorem f127_64 : vm_fl.lookup (vm_own 127, 64) = some (10, 6, 256) := by decide +kernel
theorem f127_71 : vm_fl.lookup (vm_own 127, 71) = some (10, 7, 257) := by decide +kernel
theorem f127_78 : vm_fl.lookup (vm_own 127, 78) = some (10, 8, 258) := by decide +kernel
theorem f127_82 : vm_fl.lookup (vm_own 127, 82) = some (10, 9, 259) := by decide +kernel
theorem f127_86 : vm_fl.lookup (vm_own 127, 86) = some (10, 10, 260) := by decide +kernel
theorem f127_89 : vm_fl.lookup (vm_own 127, 89) = some (10, 11, 261) := by decide +kernel
theorem c127_3 : vm_ml.lookup (vm_own 127, 3) = some (5, 0, 0, 22, 23, 0, 24) := vm_lk (by decide +kernel)
theorem c127_13 : vm_ml.lookup (vm_own 127, 13) = some (1, 282, 2, 27, 28, 0, 3) := vm_lk (by decide +kernel)
theorem c127_19 : vm_ml.lookup (vm_own 127, 19) = some (2, 0, 1, 30, 31, 0, 2) := vm_lk (by decide +kernel)
theorem c127_28 : vm_ml.lookup (vm_own 127, 28) = some (4, 84, 0, 58, 59, 0, 4) := vm_lk (by decide +kernel)
theorem c127_35 : vm_ml.lookup (vm_own 127, 35) = some (4, 44, 0, 80, 81, 0, 5) := vm_lk (by decide +kernel)
theorem c127_42 : vm_ml.lookup (vm_own 127, 42) = some (4, 53, 0, 90, 91, 0, 6) := vm_lk (by decide +kernel)
theorem c127_49 : vm_ml.lookup (vm_own 127, 49) = some (4, 98, 0, 117, 118, 0, 7) := vm_lk (by decide +kernel)
theorem c127_56 : vm_ml.lookup (vm_own 127, 56) = some (4, 27, 0, 136, 137, 0, 8) := vm_lk (by decide +kernel)
theorem c127_63 : vm_ml.lookup (vm_own 127, 63) = some (4, 35, 0, 152, 153, 0, 9) := vm_lk (by decide +kernel)
theorem c127_70 : vm_ml.lookup (vm_own 127, 70) = some (4, 116, 0, 205, 206, 0, 11) := vm_lk (by decide +kernel)
theorem c127_77 : vm_ml.lookup (vm_own 127, 77) = some (4, 110, 0, 236, 237, 0, 12) := vm_lk (by decide +kernel)
theorem n127_9 : vm_nw.lookup (vm_own 127, 9) = some (0, 25, 26, 2) := by decide +kernel
theorem n127_26 : vm_nw.lookup (vm_own 127, 26) = some (6, 56, 57, 4) := by decide +kernel
theorem n127_33 : vm_nw.lookup (vm_own 127, 33) = some (3, 78, 79, 5) := by decide +kernel
theorem n127_40 : vm_nw.lookup (vm_own 127, 40) = some (4, 88, 89, 6) := by decide +kernel
theorem n127_47 : vm_nw.lookup (vm_own 127, 47) = some (7, 115, 116, 7) := by decide +kernel
theorem n127_54 : vm_nw.lookup (vm_own 127, 54) = some (1, 134, 135, 8) := by decide +kernel
theorem n127_61 : vm_nw.lookup (vm_own 127, 61) = some (2, 150, 151, 9) := by decide +kernel
theorem n127_68 : vm_nw.lookup (vm_own 127, 68) = some (9, 203, 204, 11) := by decide +kernel
theorem n127_75 : vm_nw.lookup (vm_own 127, 75) = some (8, 234, 235, 12) := by decide +kernel
theorem r127 : vm_rt 127 = none := by decide +kernel
theorem cd184 : vm_cd 184 = cX12_init := rfl
theorem d184_0 : decode (vm_cd 184) 0 = .ok (.aload_n 0, 1) := (congrArg (fun b => decode b 0) cd184).trans (by decide +kernel)
theorem d184_1 : decode (vm_cd 184) 1 = .ok (.invokespecial 1, 3) := (congrArg (fun b => decode b 1) cd184).trans (by decide +kernel)
theorem d184_4 : decode (vm_cd 184) 4 = .ok (.aload_n 0, 1) := (congrArg (fun b => decode b 4) cd184).trans (by decide +kernel)
theorem d184_5 : decode (vm_cd 184) 5 = .ok (.iconst 4, 1) := (congrArg (fun b => decode b 5) cd184).trans (by decide +kernel)
theorem d184_6 : decode (vm_cd 184) 6 = .ok (.newarray .int, 2) := (congrArg (fun b => decode b 6) cd184).trans (by decide +kernel)
theorem d184_8 : decode (vm_cd 184) 8 = .ok (.putfield 7, 3) := (congrArg (fun b => decode b 8) cd184).trans (by decide +kernel)
theorem d184_11 : decode (vm_cd 184) 11 = .ok (.aload_n 0, 1) := (congrArg (fun b => decode b 11) cd184).trans (by decide +kernel)
theorem d184_12 : decode (vm_cd 184) 12 = .ok (.bipush 48, 2) := (congrArg (fun b => decode b 12) cd184).trans (by decide +kernel)
theorem d184_14 : decode (vm_cd 184) 14 = .ok (.newarray .int, 2) := (congrArg (fun b => decode b 14) cd184).trans (by decide +kernel)
theorem d184_16 : decode (vm_cd 184) 16 = .ok (.putfield 13, 3) := (congrArg (fun b => decode b 16) cd184).trans (by decide +kernel)
theorem d184_19 : decode (vm_cd 184) 19 = .ok (.aload_n 0, 1) := (congrArg (fun b => decode b 19) cd184).trans (by decide +kernel)
theorem d184_20 : decode (vm_cd 184) 20 = .ok (.iconst 4, 1) := (congrArg (fun b => decode b 20) cd184).trans (by decide +kernel)
theorem d184_21 : decode (vm_cd 184) 21 = .ok (.newarray .int, 2) := (congrArg (fun b => decode b 21) cd184).trans (by decide +kernel)
theorem d184_23 : decode (vm_cd 184) 23 = .ok (.putfield 16, 3) := (congrArg (fun b => decode b 23) cd184).trans (by decide +kernel)
theorem d184_26 : decode (vm_cd 184) 26 = .ok (.aload_n 0, 1) := (congrArg (fun b => decode b 26) cd184).trans (by decide +kernel)
theorem d184_27 : decode (vm_cd 184) 27 = .ok (.iconst 4, 1) := (congrArg (fun b => decode b 27) cd184).trans (by decide +kernel)
theorem d184_28 : decode (vm_cd 184) 28 = .ok (.newarray .int, 2) := (congrArg (fun b => decode b 28) cd184).trans (by decide +kernel)
theorem d184_30 : decode (vm_cd 184) 30 = .ok (.putfield 19, 3) := (congrArg (fun b => decode b 30) cd184).trans (by decide +kernel)
theorem d184_33 : decode (vm_cd 184) 33 = .ok (.aload_n 0, 1) := (congrArg (fun b => decode b 33) cd184).trans (by decide +kernel)
theorem d184_34 : decode (vm_cd 184) 34 = .ok (.iconst 4, 1) := (congrArg (fun b => decode b 34) cd184).trans (by decide +kernel)
theorem d184_35 : decode (vm_cd 184) 35 = .ok (.newarray .int, 2) := (congrArg (fun b => decode b 35) cd184).trans (by decide +kernel)
theorem d184_37 : decode (vm_cd 184) 37 = .ok (.putfield 22, 3) := (congrArg (fun b => decode b 37) cd184).trans (by decide +kernel)
theorem d184_40 : decode (vm_cd 184) 40 = .ok (.aload_n 0, 1) := (congrArg (fun b => decode b 40) cd184).trans (by decide +kernel)
theorem d184_41 : decode (vm_cd 184) 41 = .ok (.bipush 60, 2) := (congrArg (fun b => decode b 41) cd184).trans (by decide +kernel)
theorem d184_43 : decode (vm_cd 184) 43 = .ok (.newarray .long, 2) := (congrArg (fun b => decode b 43) cd184).trans (by decide +kernel)
theorem d184_45 : decode (vm_cd 184) 45 = .ok (.putfield 25, 3) := (congrArg (fun b => decode b 45) cd184).trans (by decide +kernel)
theorem d184_48 : decode (vm_cd 184) 48 = .ok (.aload_n 0, 1) := (congrArg (fun b => decode b 48) cd184).trans (by decide +kernel)
theorem d184_49 : decode (vm_cd 184) 49 = .ok (.iconst 4, 1) := (congrArg (fun b => decode b 49) cd184).trans (by decide +kernel)
theorem d184_50 : decode (vm_cd 184) 50 = .ok (.newarray .int, 2) := (congrArg (fun b => decode b 50) cd184).trans (by decide +kernel)
theorem d184_52 : decode (vm_cd 184) 52 = .ok (.putfield 29, 3) := (congrArg (fun b => decode b 52) cd184).trans (by decide +kernel)
theorem d184_55 : decode (vm_cd 184) 55 = .ok (.aload_n 0, 1) := (congrArg (fun b => decode b 55) cd184).trans (by decide +kernel)
theorem d184_56 : decode (vm_cd 184) 56 = .ok (.bipush 16, 2) := (congrArg (fun b => decode b 56) cd184).trans (by decide +kernel)
theorem d184_58 : decode (vm_cd 184) 58 = .ok (.newarray .long, 2) := (congrArg (fun b => decode b 58) cd184).trans (by decide +kernel)
theorem d184_60 : decode (vm_cd 184) 60 = .ok (.putfield 32, 3) := (congrArg (fun b => decode b 60) cd184).trans (by decide +kernel)
theorem d184_63 : decode (vm_cd 184) 63 = .ok (.aload_n 0, 1) := (congrArg (fun b => decode b 63) cd184).trans (by decide +kernel)
theorem d184_64 : decode (vm_cd 184) 64 = .ok (.iconst 5, 1) := (congrArg (fun b => decode b 64) cd184).trans (by decide +kernel)
theorem d184_65 : decode (vm_cd 184) 65 = .ok (.newarray .long, 2) := (congrArg (fun b => decode b 65) cd184).trans (by decide +kernel)
theorem d184_67 : decode (vm_cd 184) 67 = .ok (.putfield 35, 3) := (congrArg (fun b => decode b 67) cd184).trans (by decide +kernel)
theorem d184_70 : decode (vm_cd 184) 70 = .ok (.aload_n 0, 1) := (congrArg (fun b => decode b 70) cd184).trans (by decide +kernel)
theorem d184_71 : decode (vm_cd 184) 71 = .ok (.iconst 5, 1) := (congrArg (fun b => decode b 71) cd184).trans (by decide +kernel)
theorem d184_72 : decode (vm_cd 184) 72 = .ok (.newarray .long, 2) := (congrArg (fun b => decode b 72) cd184).trans (by decide +kernel)
theorem d184_74 : decode (vm_cd 184) 74 = .ok (.putfield 38, 3) := (congrArg (fun b => decode b 74) cd184).trans (by decide +kernel)
theorem d184_77 : decode (vm_cd 184) 77 = .ok (.aload_n 0, 1) := (congrArg (fun b => decode b 77) cd184).trans (by decide +kernel)
theorem d184_78 : decode (vm_cd 184) 78 = .ok (.iconst 5, 1) := (congrArg (fun b => decode b 78) cd184).trans (by decide +kernel)
theorem d184_79 : decode (vm_cd 184) 79 = .ok (.newarray .long, 2) := (congrArg (fun b => decode b 79) cd184).trans (by decide +kernel)
theorem d184_81 : decode (vm_cd 184) 81 = .ok (.putfield 41, 3) := (congrArg (fun b => decode b 81) cd184).trans (by decide +kernel)
theorem d184_84 : decode (vm_cd 184) 84 = .ok (.aload_n 0, 1) := (congrArg (fun b => decode b 84) cd184).trans (by decide +kernel)
theorem d184_85 : decode (vm_cd 184) 85 = .ok (.iconst 5, 1) := (congrArg (fun b => decode b 85) cd184).trans (by decide +kernel)
theorem d184_86 : decode (vm_cd 184) 86 = .ok (.newarray .long, 2) := (congrArg (fun b => decode b 86) cd184).trans (by decide +kernel)
theorem d184_88 : decode (vm_cd 184) 88 = .ok (.putfield 44, 3) := (congrArg (fun b => decode b 88) cd184).trans (by decide +kernel)
theorem d184_91 : decode (vm_cd 184) 91 = .ok (.aload_n 0, 1) := (congrArg (fun b => decode b 91) cd184).trans (by decide +kernel)
theorem d184_92 : decode (vm_cd 184) 92 = .ok (.iconst 3, 1) := (congrArg (fun b => decode b 92) cd184).trans (by decide +kernel)
theorem d184_93 : decode (vm_cd 184) 93 = .ok (.newarray .int, 2) := (congrArg (fun b => decode b 93) cd184).trans (by decide +kernel)
theorem d184_95 : decode (vm_cd 184) 95 = .ok (.putfield 47, 3) := (congrArg (fun b => decode b 95) cd184).trans (by decide +kernel)
theorem d184_98 : decode (vm_cd 184) 98 = .ok (.aload_n 0, 1) := (congrArg (fun b => decode b 98) cd184).trans (by decide +kernel)
theorem d184_99 : decode (vm_cd 184) 99 = .ok (.iconst 3, 1) := (congrArg (fun b => decode b 99) cd184).trans (by decide +kernel)
theorem d184_100 : decode (vm_cd 184) 100 = .ok (.newarray .int, 2) := (congrArg (fun b => decode b 100) cd184).trans (by decide +kernel)
theorem d184_102 : decode (vm_cd 184) 102 = .ok (.putfield 50, 3) := (congrArg (fun b => decode b 102) cd184).trans (by decide +kernel)
theorem d184_105 : decode (vm_cd 184) 105 = .ok (.aload_n 0, 1) := (congrArg (fun b => decode b 105) cd184).trans (by decide +kernel)
theorem d184_106 : decode (vm_cd 184) 106 = .ok (.bipush 10, 2) := (congrArg (fun b => decode b 106) cd184).trans (by decide +kernel)
theorem d184_108 : decode (vm_cd 184) 108 = .ok (.newarray .int, 2) := (congrArg (fun b => decode b 108) cd184).trans (by decide +kernel)
theorem d184_110 : decode (vm_cd 184) 110 = .ok (.putfield 53, 3) := (congrArg (fun b => decode b 110) cd184).trans (by decide +kernel)
theorem d184_113 : decode (vm_cd 184) 113 = .ok (.aload_n 0, 1) := (congrArg (fun b => decode b 113) cd184).trans (by decide +kernel)
theorem d184_114 : decode (vm_cd 184) 114 = .ok (.bipush 6, 2) := (congrArg (fun b => decode b 114) cd184).trans (by decide +kernel)
theorem d184_116 : decode (vm_cd 184) 116 = .ok (.newarray .int, 2) := (congrArg (fun b => decode b 116) cd184).trans (by decide +kernel)
theorem d184_118 : decode (vm_cd 184) 118 = .ok (.putfield 56, 3) := (congrArg (fun b => decode b 118) cd184).trans (by decide +kernel)
theorem d184_121 : decode (vm_cd 184) 121 = .ok (.aload_n 0, 1) := (congrArg (fun b => decode b 121) cd184).trans (by decide +kernel)
theorem d184_122 : decode (vm_cd 184) 122 = .ok (.iconst 2, 1) := (congrArg (fun b => decode b 122) cd184).trans (by decide +kernel)
theorem d184_123 : decode (vm_cd 184) 123 = .ok (.newarray .int, 2) := (congrArg (fun b => decode b 123) cd184).trans (by decide +kernel)
theorem d184_125 : decode (vm_cd 184) 125 = .ok (.dup, 1) := (congrArg (fun b => decode b 125) cd184).trans (by decide +kernel)
theorem d184_126 : decode (vm_cd 184) 126 = .ok (.iconst 0, 1) := (congrArg (fun b => decode b 126) cd184).trans (by decide +kernel)
theorem d184_127 : decode (vm_cd 184) 127 = .ok (.iconst 0, 1) := (congrArg (fun b => decode b 127) cd184).trans (by decide +kernel)
theorem d184_128 : decode (vm_cd 184) 128 = .ok (.iastore, 1) := (congrArg (fun b => decode b 128) cd184).trans (by decide +kernel)
theorem d184_129 : decode (vm_cd 184) 129 = .ok (.dup, 1) := (congrArg (fun b => decode b 129) cd184).trans (by decide +kernel)
theorem d184_130 : decode (vm_cd 184) 130 = .ok (.iconst 1, 1) := (congrArg (fun b => decode b 130) cd184).trans (by decide +kernel)
theorem d184_131 : decode (vm_cd 184) 131 = .ok (.iconst 3, 1) := (congrArg (fun b => decode b 131) cd184).trans (by decide +kernel)
theorem d184_132 : decode (vm_cd 184) 132 = .ok (.iastore, 1) := (congrArg (fun b => decode b 132) cd184).trans (by decide +kernel)
theorem d184_133 : decode (vm_cd 184) 133 = .ok (.putfield 59, 3) := (congrArg (fun b => decode b 133) cd184).trans (by decide +kernel)
theorem d184_136 : decode (vm_cd 184) 136 = .ok (.aload_n 0, 1) := (congrArg (fun b => decode b 136) cd184).trans (by decide +kernel)
theorem d184_137 : decode (vm_cd 184) 137 = .ok (.iconst 2, 1) := (congrArg (fun b => decode b 137) cd184).trans (by decide +kernel)
theorem d184_138 : decode (vm_cd 184) 138 = .ok (.newarray .int, 2) := (congrArg (fun b => decode b 138) cd184).trans (by decide +kernel)
theorem d184_140 : decode (vm_cd 184) 140 = .ok (.dup, 1) := (congrArg (fun b => decode b 140) cd184).trans (by decide +kernel)
theorem d184_141 : decode (vm_cd 184) 141 = .ok (.iconst 0, 1) := (congrArg (fun b => decode b 141) cd184).trans (by decide +kernel)
theorem d184_142 : decode (vm_cd 184) 142 = .ok (.iconst 3, 1) := (congrArg (fun b => decode b 142) cd184).trans (by decide +kernel)
theorem d184_143 : decode (vm_cd 184) 143 = .ok (.iastore, 1) := (congrArg (fun b => decode b 143) cd184).trans (by decide +kernel)
theorem d184_144 : decode (vm_cd 184) 144 = .ok (.dup, 1) := (congrArg (fun b => decode b 144) cd184).trans (by decide +kernel)
theorem d184_145 : decode (vm_cd 184) 145 = .ok (.iconst 1, 1) := (congrArg (fun b => decode b 145) cd184).trans (by decide +kernel)
theorem d184_146 : decode (vm_cd 184) 146 = .ok (.bipush 9, 2) := (congrArg (fun b => decode b 146) cd184).trans (by decide +kernel)
theorem d184_148 : decode (vm_cd 184) 148 = .ok (.iastore, 1) := (congrArg (fun b => decode b 148) cd184).trans (by decide +kernel)
theorem d184_149 : decode (vm_cd 184) 149 = .ok (.putfield 62, 3) := (congrArg (fun b => decode b 149) cd184).trans (by decide +kernel)
theorem d184_152 : decode (vm_cd 184) 152 = .ok (.aload_n 0, 1) := (congrArg (fun b => decode b 152) cd184).trans (by decide +kernel)
theorem d184_153 : decode (vm_cd 184) 153 = .ok (.bipush 10, 2) := (congrArg (fun b => decode b 153) cd184).trans (by decide +kernel)
theorem d184_155 : decode (vm_cd 184) 155 = .ok (.putfield 65, 3) := (congrArg (fun b => decode b 155) cd184).trans (by decide +kernel)
theorem d184_158 : decode (vm_cd 184) 158 = .ok (.aload_n 0, 1) := (congrArg (fun b => decode b 158) cd184).trans (by decide +kernel)
theorem d184_159 : decode (vm_cd 184) 159 = .ok (.bipush 91, 2) := (congrArg (fun b => decode b 159) cd184).trans (by decide +kernel)
theorem d184_161 : decode (vm_cd 184) 161 = .ok (.newarray .long, 2) := (congrArg (fun b => decode b 161) cd184).trans (by decide +kernel)
theorem d184_163 : decode (vm_cd 184) 163 = .ok (.putfield 69, 3) := (congrArg (fun b => decode b 163) cd184).trans (by decide +kernel)
theorem d184_166 : decode (vm_cd 184) 166 = .ok (.aload_n 0, 1) := (congrArg (fun b => decode b 166) cd184).trans (by decide +kernel)
theorem d184_167 : decode (vm_cd 184) 167 = .ok (.sipush 364, 3) := (congrArg (fun b => decode b 167) cd184).trans (by decide +kernel)
theorem d184_170 : decode (vm_cd 184) 170 = .ok (.newarray .int, 2) := (congrArg (fun b => decode b 170) cd184).trans (by decide +kernel)
theorem d184_172 : decode (vm_cd 184) 172 = .ok (.putfield 72, 3) := (congrArg (fun b => decode b 172) cd184).trans (by decide +kernel)
theorem d184_175 : decode (vm_cd 184) 175 = .ok (.aload_n 0, 1) := (congrArg (fun b => decode b 175) cd184).trans (by decide +kernel)
theorem d184_176 : decode (vm_cd 184) 176 = .ok (.iconst 2, 1) := (congrArg (fun b => decode b 176) cd184).trans (by decide +kernel)
theorem d184_177 : decode (vm_cd 184) 177 = .ok (.putfield 75, 3) := (congrArg (fun b => decode b 177) cd184).trans (by decide +kernel)
theorem d184_180 : decode (vm_cd 184) 180 = .ok (.aload_n 0, 1) := (congrArg (fun b => decode b 180) cd184).trans (by decide +kernel)
theorem d184_181 : decode (vm_cd 184) 181 = .ok (.iconst 4, 1) := (congrArg (fun b => decode b 181) cd184).trans (by decide +kernel)
theorem d184_182 : decode (vm_cd 184) 182 = .ok (.newarray .int, 2) := (congrArg (fun b => decode b 182) cd184).trans (by decide +kernel)
theorem d184_184 : decode (vm_cd 184) 184 = .ok (.putfield 78, 3) := (congrArg (fun b => decode b 184) cd184).trans (by decide +kernel)
theorem d184_187 : decode (vm_cd 184) 187 = .ok (.aload_n 0, 1) := (congrArg (fun b => decode b 187) cd184).trans (by decide +kernel)
theorem d184_188 : decode (vm_cd 184) 188 = .ok (.iconst 4, 1) := (congrArg (fun b => decode b 188) cd184).trans (by decide +kernel)
theorem d184_189 : decode (vm_cd 184) 189 = .ok (.newarray .int, 2) := (congrArg (fun b => decode b 189) cd184).trans (by decide +kernel)
theorem d184_191 : decode (vm_cd 184) 191 = .ok (.putfield 81, 3) := (congrArg (fun b => decode b 191) cd184).trans (by decide +kernel)
theorem d184_194 : decode (vm_cd 184) 194 = .ok (.aload_n 0, 1) := (congrArg (fun b => decode b 194) cd184).trans (by decide +kernel)
theorem d184_195 : decode (vm_cd 184) 195 = .ok (.iconst 5, 1) := (congrArg (fun b => decode b 195) cd184).trans (by decide +kernel)
theorem d184_196 : decode (vm_cd 184) 196 = .ok (.newarray .int, 2) := (congrArg (fun b => decode b 196) cd184).trans (by decide +kernel)
theorem d184_198 : decode (vm_cd 184) 198 = .ok (.putfield 84, 3) := (congrArg (fun b => decode b 198) cd184).trans (by decide +kernel)
theorem d184_201 : decode (vm_cd 184) 201 = .ok (.aload_n 0, 1) := (congrArg (fun b => decode b 201) cd184).trans (by decide +kernel)
theorem d184_202 : decode (vm_cd 184) 202 = .ok (.iconst 2, 1) := (congrArg (fun b => decode b 202) cd184).trans (by decide +kernel)
theorem d184_203 : decode (vm_cd 184) 203 = .ok (.newarray .int, 2) := (congrArg (fun b => decode b 203) cd184).trans (by decide +kernel)
theorem d184_205 : decode (vm_cd 184) 205 = .ok (.dup, 1) := (congrArg (fun b => decode b 205) cd184).trans (by decide +kernel)
theorem d184_206 : decode (vm_cd 184) 206 = .ok (.iconst 0, 1) := (congrArg (fun b => decode b 206) cd184).trans (by decide +kernel)
theorem d184_207 : decode (vm_cd 184) 207 = .ok (.iconst 1, 1) := (congrArg (fun b => decode b 207) cd184).trans (by decide +kernel)
theorem d184_208 : decode (vm_cd 184) 208 = .ok (.iastore, 1) := (congrArg (fun b => decode b 208) cd184).trans (by decide +kernel)
theorem d184_209 : decode (vm_cd 184) 209 = .ok (.dup, 1) := (congrArg (fun b => decode b 209) cd184).trans (by decide +kernel)
theorem d184_210 : decode (vm_cd 184) 210 = .ok (.iconst 1, 1) := (congrArg (fun b => decode b 210) cd184).trans (by decide +kernel)
theorem d184_211 : decode (vm_cd 184) 211 = .ok (.iconst 1, 1) := (congrArg (fun b => decode b 211) cd184).trans (by decide +kernel)
theorem d184_212 : decode (vm_cd 184) 212 = .ok (.iastore, 1) := (congrArg (fun b => decode b 212) cd184).trans (by decide +kernel)
theorem d184_213 : decode (vm_cd 184) 213 = .ok (.putfield 87, 3) := (congrArg (fun b => decode b 213) cd184).trans (by decide +kernel)
theorem d184_216 : decode (vm_cd 184) 216 = .ok (.aload_n 0, 1) := (congrArg (fun b => decode b 216) cd184).trans (by decide +kernel)
theorem d184_217 : decode (vm_cd 184) 217 = .ok (.iconst 2, 1) := (congrArg (fun b => decode b 217) cd184).trans (by decide +kernel)
theorem d184_218 : decode (vm_cd 184) 218 = .ok (.newarray .int, 2) := (congrArg (fun b => decode b 218) cd184).trans (by decide +kernel)
theorem d184_220 : decode (vm_cd 184) 220 = .ok (.putfield 90, 3) := (congrArg (fun b => decode b 220) cd184).trans (by decide +kernel)
theorem d184_223 : decode (vm_cd 184) 223 = .ok (.aload_n 0, 1) := (congrArg (fun b => decode b 223) cd184).trans (by decide +kernel)
theorem d184_224 : decode (vm_cd 184) 224 = .ok (.bipush 8, 2) := (congrArg (fun b => decode b 224) cd184).trans (by decide +kernel)
theorem d184_226 : decode (vm_cd 184) 226 = .ok (.newarray .int, 2) := (congrArg (fun b => decode b 226) cd184).trans (by decide +kernel)
theorem d184_228 : decode (vm_cd 184) 228 = .ok (.putfield 93, 3) := (congrArg (fun b => decode b 228) cd184).trans (by decide +kernel)
theorem d184_231 : decode (vm_cd 184) 231 = .ok (.aload_n 0, 1) := (congrArg (fun b => decode b 231) cd184).trans (by decide +kernel)
theorem d184_232 : decode (vm_cd 184) 232 = .ok (.sipush 960, 3) := (congrArg (fun b => decode b 232) cd184).trans (by decide +kernel)
theorem d184_235 : decode (vm_cd 184) 235 = .ok (.newarray .int, 2) := (congrArg (fun b => decode b 235) cd184).trans (by decide +kernel)
theorem d184_237 : decode (vm_cd 184) 237 = .ok (.putfield 96, 3) := (congrArg (fun b => decode b 237) cd184).trans (by decide +kernel)
theorem d184_240 : decode (vm_cd 184) 240 = .ok (.aload_n 0, 1) := (congrArg (fun b => decode b 240) cd184).trans (by decide +kernel)
theorem d184_241 : decode (vm_cd 184) 241 = .ok (.bipush 120, 2) := (congrArg (fun b => decode b 241) cd184).trans (by decide +kernel)
theorem d184_243 : decode (vm_cd 184) 243 = .ok (.newarray .int, 2) := (congrArg (fun b => decode b 243) cd184).trans (by decide +kernel)
theorem d184_245 : decode (vm_cd 184) 245 = .ok (.putfield 99, 3) := (congrArg (fun b => decode b 245) cd184).trans (by decide +kernel)
theorem d184_248 : decode (vm_cd 184) 248 = .ok (.aload_n 0, 1) := (congrArg (fun b => decode b 248) cd184).trans (by decide +kernel)
theorem d184_249 : decode (vm_cd 184) 249 = .ok (.sipush 130, 3) := (congrArg (fun b => decode b 249) cd184).trans (by decide +kernel)
theorem d184_252 : decode (vm_cd 184) 252 = .ok (.newarray .int, 2) := (congrArg (fun b => decode b 252) cd184).trans (by decide +kernel)
theorem d184_254 : decode (vm_cd 184) 254 = .ok (.putfield 102, 3) := (congrArg (fun b => decode b 254) cd184).trans (by decide +kernel)
theorem d184_257 : decode (vm_cd 184) 257 = .ok (.aload_n 0, 1) := (congrArg (fun b => decode b 257) cd184).trans (by decide +kernel)
theorem d184_258 : decode (vm_cd 184) 258 = .ok (.sipush 130, 3) := (congrArg (fun b => decode b 258) cd184).trans (by decide +kernel)
theorem d184_261 : decode (vm_cd 184) 261 = .ok (.newarray .long, 2) := (congrArg (fun b => decode b 261) cd184).trans (by decide +kernel)
theorem d184_263 : decode (vm_cd 184) 263 = .ok (.putfield 105, 3) := (congrArg (fun b => decode b 263) cd184).trans (by decide +kernel)
theorem d184_266 : decode (vm_cd 184) 266 = .ok (.aload_n 0, 1) := (congrArg (fun b => decode b 266) cd184).trans (by decide +kernel)
theorem d184_267 : decode (vm_cd 184) 267 = .ok (.bipush 60, 2) := (congrArg (fun b => decode b 267) cd184).trans (by decide +kernel)
theorem d184_269 : decode (vm_cd 184) 269 = .ok (.newarray .int, 2) := (congrArg (fun b => decode b 269) cd184).trans (by decide +kernel)
theorem d184_271 : decode (vm_cd 184) 271 = .ok (.putfield 108, 3) := (congrArg (fun b => decode b 271) cd184).trans (by decide +kernel)
theorem d184_274 : decode (vm_cd 184) 274 = .ok (.aload_n 0, 1) := (congrArg (fun b => decode b 274) cd184).trans (by decide +kernel)
theorem d184_275 : decode (vm_cd 184) 275 = .ok (.bipush 60, 2) := (congrArg (fun b => decode b 275) cd184).trans (by decide +kernel)
theorem d184_277 : decode (vm_cd 184) 277 = .ok (.newarray .int, 2) := (congrArg (fun b => decode b 277) cd184).trans (by decide +kernel)
theorem d184_279 : decode (vm_cd 184) 279 = .ok (.putfield 111, 3) := (congrArg (fun b => decode b 279) cd184).trans (by decide +kernel)
theorem d184_282 : decode (vm_cd 184) 282 = .ok (.aload_n 0, 1) := (congrArg (fun b => decode b 282) cd184).trans (by decide +kernel)
theorem d184_283 : decode (vm_cd 184) 283 = .ok (.bipush 60, 2) := (congrArg (fun b => decode b 283) cd184).trans (by decide +kernel)
theorem d184_285 : decode (vm_cd 184) 285 = .ok (.newarray .int, 2) := (congrArg (fun b => decode b 285) cd184).trans (by decide +kernel)
theorem d184_287 : decode (vm_cd 184) 287 = .ok (.putfield 114, 3) := (congrArg (fun b => decode b 287) cd184).trans (by decide +kernel)
theorem d184_290 : decode (vm_cd 184) 290 = .ok (.aload_n 0, 1) := (congrArg (fun b => decode b 290) cd184).trans (by decide +kernel)
theorem d184_291 : decode (vm_cd 184) 291 = .ok (.bipush 60, 2) := (congrArg (fun b => decode b 291) cd184).trans (by decide +kernel)
theorem d184_293 : decode (vm_cd 184) 293 = .ok (.newarray .int, 2) := (congrArg (fun b => decode b 293) cd184).trans (by decide +kernel)
theorem d184_295 : decode (vm_cd 184) 295 = .ok (.putfield 117, 3) := (congrArg (fun b => decode b 295) cd184).trans (by decide +kernel)
theorem d184_298 : decode (vm_cd 184) 298 = .ok (.aload_n 0, 1) := (congrArg (fun b => decode b 298) cd184).trans (by decide +kernel)
theorem d184_299 : decode (vm_cd 184) 299 = .ok (.bipush 60, 2) := (congrArg (fun b => decode b 299) cd184).trans (by decide +kernel)
theorem d184_301 : decode (vm_cd 184) 301 = .ok (.newarray .int, 2) := (congrArg (fun b => decode b 301) cd184).trans (by decide +kernel)
theorem d184_303 : decode (vm_cd 184) 303 = .ok (.putfield 120, 3) := (congrArg (fun b => decode b 303) cd184).trans (by decide +kernel)
theorem d184_306 : decode (vm_cd 184) 306 = .ok (.aload_n 0, 1) := (congrArg (fun b => decode b 306) cd184).trans (by decide +kernel)
theorem d184_307 : decode (vm_cd 184) 307 = .ok (.bipush 60, 2) := (congrArg (fun b => decode b 307) cd184).trans (by decide +kernel)
theorem d184_309 : decode (vm_cd 184) 309 = .ok (.newarray .int, 2) := (congrArg (fun b => decode b 309) cd184).trans (by decide +kernel)
theorem d184_311 : decode (vm_cd 184) 311 = .ok (.putfield 123, 3) := (congrArg (fun b => decode b 311) cd184).trans (by decide +kernel)
theorem d184_314 : decode (vm_cd 184) 314 = .ok (.aload_n 0, 1) := (congrArg (fun b => decode b 314) cd184).trans (by decide +kernel)
theorem d184_315 : decode (vm_cd 184) 315 = .ok (.iconst 2, 1) := (congrArg (fun b => decode b 315) cd184).trans (by decide +kernel)
theorem d184_316 : decode (vm_cd 184) 316 = .ok (.iload_n 1, 1) := (congrArg (fun b => decode b 316) cd184).trans (by decide +kernel)
theorem d184_317 : decode (vm_cd 184) 317 = .ok (.iconst 3, 1) := (congrArg (fun b => decode b 317) cd184).trans (by decide +kernel)
theorem d184_318 : decode (vm_cd 184) 318 = .ok (.irem, 1) := (congrArg (fun b => decode b 318) cd184).trans (by decide +kernel)
theorem d184_319 : decode (vm_cd 184) 319 = .ok (.iconst 3, 1) := (congrArg (fun b => decode b 319) cd184).trans (by decide +kernel)
theorem d184_320 : decode (vm_cd 184) 320 = .ok (.iadd, 1) := (congrArg (fun b => decode b 320) cd184).trans (by decide +kernel)
theorem d184_321 : decode (vm_cd 184) 321 = .ok (.iconst 3, 1) := (congrArg (fun b => decode b 321) cd184).trans (by decide +kernel)
theorem d184_322 : decode (vm_cd 184) 322 = .ok (.irem, 1) := (congrArg (fun b => decode b 322) cd184).trans (by decide +kernel)
theorem d184_323 : decode (vm_cd 184) 323 = .ok (.iadd, 1) := (congrArg (fun b => decode b 323) cd184).trans (by decide +kernel)
theorem d184_324 : decode (vm_cd 184) 324 = .ok (.putfield 126, 3) := (congrArg (fun b => decode b 324) cd184).trans (by decide +kernel)
theorem d184_327 : decode (vm_cd 184) 327 = .ok (.return_, 1) := (congrArg (fun b => decode b 327) cd184).trans (by decide +kernel)
theorem f184_7 : vm_fl.lookup (vm_own 184, 7) = some (11, 2, 1029) := by decide +kernel
theorem f184_13 : vm_fl.lookup (vm_own 184, 13) = some (11, 3, 1030) := by decide +kernel
theorem f184_16 : vm_fl.lookup (vm_own 184, 16) = some (11, 4, 1031) := by decide +kernel
theorem f184_19 : vm_fl.lookup (vm_own 184, 19) = some (11, 5, 1032) := by decide +kernel
theorem f184_22 : vm_fl.lookup (vm_own 184, 22) = some (11, 7, 1034) := by decide +kernel
theorem f184_25 : vm_fl.lookup (vm_own 184, 25) = some (11, 8, 1035) := by decide +kernel
theorem f184_29 : vm_fl.lookup (vm_own 184, 29) = some (11, 10, 1037) := by decide +kernel
theorem f184_32 : vm_fl.lookup (vm_own 184, 32) = some (11, 11, 1038) := by decide +kernel
theorem f184_35 : vm_fl.lookup (vm_own 184, 35) = some (11, 12, 1039) := by decide +kernel
theorem f184_38 : vm_fl.lookup (vm_own 184, 38) = some (11, 13, 1040) := by decide +kernel
theorem f184_41 : vm_fl.lookup (vm_own 184, 41) = some (11, 16, 1043) := by decide +kernel
theorem f184_44 : vm_fl.lookup (vm_own 184, 44) = some (11, 17, 1044) := by decide +kernel
theorem f184_47 : vm_fl.lookup (vm_own 184, 47) = some (11, 20, 1047) := by decide +kernel
theorem f184_50 : vm_fl.lookup (vm_own 184, 50) = some (11, 21, 1048) := by decide +kernel
theorem f184_53 : vm_fl.lookup (vm_own 184, 53) = some (11, 24, 1051) := by decide +kernel
theorem f184_56 : vm_fl.lookup (vm_own 184, 56) = some (11, 25, 1052) := by decide +kernel
theorem f184_59 : vm_fl.lookup (vm_own 184, 59) = some (11, 26, 1053) := by decide +kernel
theorem f184_62 : vm_fl.lookup (vm_own 184, 62) = some (11, 27, 1054) := by decide +kernel
theorem f184_65 : vm_fl.lookup (vm_own 184, 65) = some (11, 28, 1055) := by decide +kernel
theorem f184_69 : vm_fl.lookup (vm_own 184, 69) = some (11, 29, 1056) := by decide +kernel
theorem f184_72 : vm_fl.lookup (vm_own 184, 72) = some (11, 30, 1057) := by decide +kernel
theorem f184_75 : vm_fl.lookup (vm_own 184, 75) = some (11, 31, 1058) := by decide +kernel
theorem f184_78 : vm_fl.lookup (vm_own 184, 78) = some (11, 32, 1059) := by decide +kernel
theorem f184_81 : vm_fl.lookup (vm_own 184, 81) = some (11, 33, 1060) := by decide +kernel
theorem f184_84 : vm_fl.lookup (vm_own 184, 84) = some (11, 34, 1061) := by decide +kernel
theorem f184_87 : vm_fl.lookup (vm_own 184, 87) = some (11, 36, 1063) := by decide +kernel
theorem f184_90 : vm_fl.lookup (vm_own 184, 90) = some (11, 37, 1064) := by decide +kernel
theorem f184_93 : vm_fl.lookup (vm_own 184, 93) = some (11, 39, 1066) := by decide +kernel
theorem f184_96 : vm_fl.lookup (vm_own 184, 96) = some (11, 40, 1067) := by decide +kernel
theorem f184_99 : vm_fl.lookup (vm_own 184, 99) = some (11, 41, 1068) := by decide +kernel
theorem f184_102 : vm_fl.lookup (vm_own 184, 102) = some (11, 43, 1070) := by decide +kernel
theorem f184_105 : vm_fl.lookup (vm_own 184, 105) = some (11, 47, 1074) := by decide +kernel
theorem f184_108 : vm_fl.lookup (vm_own 184, 108) = some (11, 50, 1077) := by decide +kernel
theorem f184_111 : vm_fl.lookup (vm_own 184, 111) = some (11, 51, 1078) := by decide +kernel
theorem f184_114 : vm_fl.lookup (vm_own 184, 114) = some (11, 52, 1079) := by decide +kernel
theorem f184_117 : vm_fl.lookup (vm_own 184, 117) = some (11, 53, 1080) := by decide +kernel
theorem f184_120 : vm_fl.lookup (vm_own 184, 120) = some (11, 54, 1081) := by decide +kernel
theorem f184_123 : vm_fl.lookup (vm_own 184, 123) = some (11, 55, 1082) := by decide +kernel
theorem f184_126 : vm_fl.lookup (vm_own 184, 126) = some (11, 0, 1027) := by decide +kernel
theorem c184_1 : vm_ml.lookup (vm_own 184, 1) = some (5, 0, 0, 1026, 23, 0, 24) := vm_lk (by decide +kernel)
theorem r184 : vm_rt 184 = none := by decide +kernel
def vM_Ac_init (M : vM) (l1 : Int) : vM := vm_up (vm_up (vm_new (vm_up (vm_newm (vm_up (vm_new M 2 (.inr (0, 4))) 1 1 2) 3 8) 1 2 3) 12 (.inr (0, 4))) 1 3 12) 1 0 l1
theorem I_Ac_init {X : vX} {d : Nat} {M : vM} {l1 : Int} : wc X (d + 1) 0 [vR 1, vI l1] (vT 2, M) (fun q hp1 => q = none ∧ hp1 = (vT 13, vM_Ac_init M l1)) := by
  refine wc_in (d := d + 0) (Nat.le_of_ble_eq_true rfl) (Nat.le_of_ble_eq_true rfl) ?_
  show wp X (d + 0) 0 0 [vR 1, vI l1] [] (vT 2, M) _
  refine w_aload_n d0_0 rfl ?_
  refine w_oinit d0_1 c0_3 ⟨by decide, Nat.le_of_ble_eq_true rfl⟩ ?_
  refine w_aload_n d0_4 rfl ?_
  refine w_ic (v := 4) d0_5 rfl ?_
  refine w_newaE (n := 2) (r := 2) (N := 4) d0_6 (Or.inl ⟨rfl, rfl⟩) rfl (by decide) rfl rfl (by decide +kernel) ?_
  refine w_putf (a := 1) (x := 2) d0_8 f0_9 rfl (by decide +kernel) (vm_fitr (by decide)) (Or.inr ⟨by decide +kernel, by decide +kernel⟩) ?_
  refine w_aload_n d0_11 rfl ?_
  refine w_bi (v := 8) d0_12 rfl ?_
  refine w_ic (v := 4) d0_14 rfl ?_
  refine w_newnE (n := 3) (r := 3) (N := 8) (K := 4) d0_15 m0_15 rfl rfl (by decide) rfl rfl (by decide +kernel) ?_
  refine w_putf (a := 1) (x := 3) d0_19 f0_17 rfl (by decide +kernel) (vm_fitr (by decide)) (Or.inr ⟨by decide +kernel, by decide +kernel⟩) ?_
  refine w_aload_n d0_22 rfl ?_
  refine w_ic (v := 4) d0_23 rfl ?_
  refine w_newaE (n := 12) (r := 12) (N := 4) d0_24 (Or.inl ⟨rfl, rfl⟩) rfl (by decide) rfl rfl (by decide +kernel) ?_
  refine w_putf (a := 1) (x := 12) d0_26 f0_20 rfl (by decide +kernel) (vm_fitr (by decide)) (Or.inr ⟨by decide +kernel, by decide +kernel⟩) ?_
  refine w_aload_n d0_29 rfl ?_
  refine w_iload_n d0_30 rfl ?_
  refine w_putf (a := 1) (x := l1) d0_31 f0_23 rfl (by decide +kernel) rfl (Or.inr ⟨by decide +kernel, by decide +kernel⟩) ?_
  exact w_vret d0_34 r0 ⟨rfl, rfl⟩

def vM_So_init (M : vM) : vM := vm_up (vm_up (vm_newm M 14 13) 13 0 14) 13 3 1
theorem I_So_init {X : vX} {d : Nat} {M : vM} : wc X (d + 1) 84 [vR 13] (vT 14, M) (fun q hp1 => q = none ∧ hp1 = (vT 28, vM_So_init M)) := by
  refine wc_in (d := d + 0) (Nat.le_of_ble_eq_true rfl) (Nat.le_of_ble_eq_true rfl) ?_
  show wp X (d + 0) 84 0 [vR 13] [] (vT 14, M) _
  refine w_aload_n d84_0 rfl ?_
  refine w_oinit d84_1 c84_3 ⟨by decide, Nat.le_of_ble_eq_true rfl⟩ ?_
  refine w_aload_n d84_4 rfl ?_
  refine w_bi (v := 13) d84_5 rfl ?_
  refine w_ic (v := 5) d84_7 rfl ?_
  refine w_newnE (n := 14) (r := 14) (N := 13) (K := 5) d84_8 m84_9 rfl rfl (by decide) rfl rfl (by decide +kernel) ?_
  refine w_putf (a := 13) (x := 14) d84_12 f84_11 rfl (by decide +kernel) (vm_fitr (by decide)) (Or.inr ⟨by decide +kernel, by decide +kernel⟩) ?_
  refine w_aload_n d84_15 rfl ?_
  refine w_lc (v := 1) d84_16 rfl ?_
  refine w_putf (a := 13) (x := 1) d84_17 f84_14 rfl (by decide +kernel) rfl (Or.inl (by decide +kernel)) ?_
  exact w_vret d84_20 r84 ⟨rfl, rfl⟩

def vM_Me_init (M : vM) : vM := vm_up (vm_new M 29 (.inr (0, 10))) 28 0 29
theorem I_Me_init {X : vX} {d : Nat} {M : vM} : wc X (d + 1) 44 [vR 28] (vT 29, M) (fun q hp1 => q = none ∧ hp1 = (vT 30, vM_Me_init M)) := by
  refine wc_in (d := d + 0) (Nat.le_of_ble_eq_true rfl) (Nat.le_of_ble_eq_true rfl) ?_
  show wp X (d + 0) 44 0 [vR 28] [] (vT 29, M) _
  refine w_aload_n d44_0 rfl ?_
  refine w_oinit d44_1 c44_1 ⟨by decide, Nat.le_of_ble_eq_true rfl⟩ ?_
  refine w_aload_n d44_4 rfl ?_
  refine w_bi (v := 10) d44_5 rfl ?_
  refine w_newaE (n := 29) (r := 29) (N := 10) d44_7 (Or.inl ⟨rfl, rfl⟩) rfl (by decide) rfl rfl (by decide +kernel) ?_
  refine w_putf (a := 28) (x := 29) d44_9 f44_9 rfl (by decide +kernel) (vm_fitr (by decide)) (Or.inr ⟨by decide +kernel, by decide +kernel⟩) ?_
  exact w_vret d44_12 r44 ⟨rfl, rfl⟩

def vM_Pr_init (M : vM) : vM := vm_up (vm_up (vm_newm (vm_up (vm_newm (vm_up (vm_up (vm_up (vm_new (vm_up (vm_up (vm_up (vm_new M 31 (.inr (0, 2))) 31 0 0) 31 1 3) 30 0 31) 32 (.inr (0, 2))) 32 0 3) 32 1 9) 30 1 32) 33 7) 30 2 33) 41 7) 30 3 41) 30 4 10
theorem I_Pr_init {X : vX} {d : Nat} {M : vM} : wc X (d + 1) 53 [vR 30] (vT 31, M) (fun q hp1 => q = none ∧ hp1 = (vT 49, vM_Pr_init M)) := by
  refine wc_in (d := d + 0) (Nat.le_of_ble_eq_true rfl) (Nat.le_of_ble_eq_true rfl) ?_
  show wp X (d + 0) 53 0 [vR 30] [] (vT 31, M) _
  refine w_aload_n d53_0 rfl ?_
  refine w_oinit d53_1 c53_5 ⟨by decide, Nat.le_of_ble_eq_true rfl⟩ ?_
  refine w_aload_n d53_4 rfl ?_
  refine w_ic (v := 2) d53_5 rfl ?_
  refine w_newaE (n := 31) (r := 31) (N := 2) d53_6 (Or.inl ⟨rfl, rfl⟩) rfl (by decide) rfl rfl (by decide +kernel) ?_
  refine w_dup d53_8 rfl ?_
  refine w_ic (v := 0) d53_9 rfl ?_
  refine w_ic (v := 0) d53_10 rfl ?_
  refine w_iast (a := 31) d53_11 rfl (n := 2) (by decide +kernel) ⟨by decide, by decide⟩ ?_
  refine w_dup d53_12 rfl ?_
  refine w_ic (v := 1) d53_13 rfl ?_
  refine w_ic (v := 3) d53_14 rfl ?_
  refine w_iast (a := 31) d53_15 rfl (n := 2) (by decide +kernel) ⟨by decide, by decide⟩ ?_
  refine w_putf (a := 30) (x := 31) d53_16 f53_11 rfl (by decide +kernel) (vm_fitr (by decide)) (Or.inr ⟨by decide +kernel, by decide +kernel⟩) ?_
  refine w_aload_n d53_19 rfl ?_
  refine w_ic (v := 2) d53_20 rfl ?_
  refine w_newaE (n := 32) (r := 32) (N := 2) d53_21 (Or.inl ⟨rfl, rfl⟩) rfl (by decide) rfl rfl (by decide +kernel) ?_
  refine w_dup d53_23 rfl ?_
  refine w_ic (v := 0) d53_24 rfl ?_
  refine w_ic (v := 3) d53_25 rfl ?_
  refine w_iast (a := 32) d53_26 rfl (n := 2) (by decide +kernel) ⟨by decide, by decide⟩ ?_
  refine w_dup d53_27 rfl ?_
  refine w_ic (v := 1) d53_28 rfl ?_
  refine w_bi (v := 9) d53_29 rfl ?_
  refine w_iast (a := 32) d53_31 rfl (n := 2) (by decide +kernel) ⟨by decide, by decide⟩ ?_
  refine w_putf (a := 30) (x := 32) d53_32 f53_15 rfl (by decide +kernel) (vm_fitr (by decide)) (Or.inr ⟨by decide +kernel, by decide +kernel⟩) ?_
  refine w_aload_n d53_35 rfl ?_
  refine w_bi (v := 7) d53_36 rfl ?_
  refine w_bi (v := 13) d53_38 rfl ?_
  refine w_newnE (n := 33) (r := 33) (N := 7) (K := 13) d53_40 m53_18 rfl rfl (by decide) rfl rfl (by decide +kernel) ?_
  refine w_putf (a := 30) (x := 33) d53_44 f53_20 rfl (by decide +kernel) (vm_fitr (by decide)) (Or.inr ⟨by decide +kernel, by decide +kernel⟩) ?_
  refine w_aload_n d53_47 rfl ?_
  refine w_bi (v := 7) d53_48 rfl ?_
  refine w_bi (v := 52) d53_50 rfl ?_
  refine w_newnE (n := 41) (r := 41) (N := 7) (K := 52) d53_52 m53_23 rfl rfl (by decide) rfl rfl (by decide +kernel) ?_
  refine w_putf (a := 30) (x := 41) d53_56 f53_25 rfl (by decide +kernel) (vm_fitr (by decide)) (Or.inr ⟨by decide +kernel, by decide +kernel⟩) ?_
  refine w_aload_n d53_59 rfl ?_
  refine w_bi (v := 10) d53_60 rfl ?_
  refine w_putf (a := 30) (x := 10) d53_62 f53_28 rfl (by decide +kernel) rfl (Or.inl (by decide +kernel)) ?_
  exact w_vret d53_65 r53 ⟨rfl, rfl⟩

def vM_Te_init (M : vM) : vM := vm_up (vm_up (vm_new (vm_up (vm_new (vm_up (vm_new M 50 (.inr (0, 4))) 49 0 50) 51 (.inr (0, 4))) 49 1 51) 52 (.inr (0, 5))) 49 2 52) 49 3 2
theorem I_Te_init {X : vX} {d : Nat} {M : vM} : wc X (d + 1) 98 [vR 49] (vT 50, M) (fun q hp1 => q = none ∧ hp1 = (vT 53, vM_Te_init M)) := by
  refine wc_in (d := d + 0) (Nat.le_of_ble_eq_true rfl) (Nat.le_of_ble_eq_true rfl) ?_
  show wp X (d + 0) 98 0 [vR 49] [] (vT 50, M) _
  refine w_aload_n d98_0 rfl ?_
  refine w_oinit d98_1 c98_3 ⟨by decide, Nat.le_of_ble_eq_true rfl⟩ ?_
  refine w_aload_n d98_4 rfl ?_
  refine w_ic (v := 4) d98_5 rfl ?_
  refine w_newaE (n := 50) (r := 50) (N := 4) d98_6 (Or.inl ⟨rfl, rfl⟩) rfl (by decide) rfl rfl (by decide +kernel) ?_
  refine w_putf (a := 49) (x := 50) d98_8 f98_11 rfl (by decide +kernel) (vm_fitr (by decide)) (Or.inr ⟨by decide +kernel, by decide +kernel⟩) ?_
  refine w_aload_n d98_11 rfl ?_
  refine w_ic (v := 4) d98_12 rfl ?_
  refine w_newaE (n := 51) (r := 51) (N := 4) d98_13 (Or.inl ⟨rfl, rfl⟩) rfl (by decide) rfl rfl (by decide +kernel) ?_
  refine w_putf (a := 49) (x := 51) d98_15 f98_15 rfl (by decide +kernel) (vm_fitr (by decide)) (Or.inr ⟨by decide +kernel, by decide +kernel⟩) ?_
  refine w_aload_n d98_18 rfl ?_
  refine w_ic (v := 5) d98_19 rfl ?_
  refine w_newaE (n := 52) (r := 52) (N := 5) d98_20 (Or.inl ⟨rfl, rfl⟩) rfl (by decide) rfl rfl (by decide +kernel) ?_
  refine w_putf (a := 49) (x := 52) d98_22 f98_18 rfl (by decide +kernel) (vm_fitr (by decide)) (Or.inr ⟨by decide +kernel, by decide +kernel⟩) ?_
  refine w_aload_n d98_25 rfl ?_
  refine w_ic (v := 2) d98_26 rfl ?_
  refine w_putf (a := 49) (x := 2) d98_27 f98_21 rfl (by decide +kernel) rfl (Or.inl (by decide +kernel)) ?_
  exact w_vret d98_30 r98 ⟨rfl, rfl⟩

def vM_Ct_init (M : vM) : vM := vm_up (vm_new (vm_up (vm_up (vm_up (vm_new M 54 (.inr (0, 2))) 54 0 1) 54 1 1) 53 0 54) 55 (.inr (0, 2))) 53 1 55
theorem I_Ct_init {X : vX} {d : Nat} {M : vM} : wc X (d + 1) 27 [vR 53] (vT 54, M) (fun q hp1 => q = none ∧ hp1 = (vT 56, vM_Ct_init M)) := by
  refine wc_in (d := d + 0) (Nat.le_of_ble_eq_true rfl) (Nat.le_of_ble_eq_true rfl) ?_
  show wp X (d + 0) 27 0 [vR 53] [] (vT 54, M) _
  refine w_aload_n d27_0 rfl ?_
  refine w_oinit d27_1 c27_3 ⟨by decide, Nat.le_of_ble_eq_true rfl⟩ ?_
  refine w_aload_n d27_4 rfl ?_
  refine w_ic (v := 2) d27_5 rfl ?_
  refine w_newaE (n := 54) (r := 54) (N := 2) d27_6 (Or.inl ⟨rfl, rfl⟩) rfl (by decide) rfl rfl (by decide +kernel) ?_
  refine w_dup d27_8 rfl ?_
  refine w_ic (v := 0) d27_9 rfl ?_
  refine w_ic (v := 1) d27_10 rfl ?_
  refine w_iast (a := 54) d27_11 rfl (n := 2) (by decide +kernel) ⟨by decide, by decide⟩ ?_
  refine w_dup d27_12 rfl ?_
  refine w_ic (v := 1) d27_13 rfl ?_
  refine w_ic (v := 1) d27_14 rfl ?_
  refine w_iast (a := 54) d27_15 rfl (n := 2) (by decide +kernel) ⟨by decide, by decide⟩ ?_
  refine w_putf (a := 53) (x := 54) d27_16 f27_9 rfl (by decide +kernel) (vm_fitr (by decide)) (Or.inr ⟨by decide +kernel, by decide +kernel⟩) ?_
  refine w_aload_n d27_19 rfl ?_
  refine w_ic (v := 2) d27_20 rfl ?_
  refine w_newaE (n := 55) (r := 55) (N := 2) d27_21 (Or.inl ⟨rfl, rfl⟩) rfl (by decide) rfl rfl (by decide +kernel) ?_
  refine w_putf (a := 53) (x := 55) d27_23 f27_15 rfl (by decide +kernel) (vm_fitr (by decide)) (Or.inr ⟨by decide +kernel, by decide +kernel⟩) ?_
  exact w_vret d27_26 r27 ⟨rfl, rfl⟩

def vM_Re_init (M : vM) : vM := vm_up (vm_new M 69 (.inr (2, 0))) 68 0 69
theorem I_Re_init {X : vX} {d : Nat} {M : vM} : wc X (d + 1) 68 [vR 68] (vT 69, M) (fun q hp1 => q = none ∧ hp1 = (vT 70, vM_Re_init M)) := by
  refine wc_in (d := d + 0) (Nat.le_of_ble_eq_true rfl) (Nat.le_of_ble_eq_true rfl) ?_
  show wp X (d + 0) 68 0 [vR 68] [] (vT 69, M) _
  refine w_aload_n d68_0 rfl ?_
  refine w_oinit d68_1 c68_1 ⟨by decide, Nat.le_of_ble_eq_true rfl⟩ ?_
  refine w_aload_n d68_4 rfl ?_
  refine w_ic (v := 0) d68_5 rfl ?_
  refine w_newaE (n := 69) (r := 69) (N := 0) d68_6 (Or.inr (Or.inr ⟨rfl, rfl⟩)) rfl (by decide) rfl rfl (by decide +kernel) ?_
  refine w_putf (a := 68) (x := 69) d68_8 f68_7 rfl (by decide +kernel) (vm_fitr (by decide)) (Or.inl (by decide +kernel)) ?_
  exact w_vret d68_11 r68 ⟨rfl, rfl⟩

def vM_Co_init (M : vM) : vM := vm_up (vM_Re_init (vm_new (vm_up (vm_new (vm_up (vm_newm (vm_up (vm_new M 57 (.inr (2, 120))) 56 0 57) 58 8) 56 1 58) 67 (.inr (0, 8))) 56 2 67) 68 (.inl 5)) ) 56 3 68
theorem I_Co_init {X : vX} {d : Nat} {M : vM} : wc X (d + 2) 35 [vR 56] (vT 57, M) (fun q hp1 => q = none ∧ hp1 = (vT 70, vM_Co_init M)) := by
  refine wc_in (d := d + 1) (Nat.le_of_ble_eq_true rfl) (Nat.le_of_ble_eq_true rfl) ?_
  show wp X (d + 1) 35 0 [vR 56] [] (vT 57, M) _
  refine w_aload_n d35_0 rfl ?_
  refine w_oinit d35_1 c35_3 ⟨by decide, Nat.le_of_ble_eq_true rfl⟩ ?_
  refine w_aload_n d35_4 rfl ?_
  refine w_bi (v := 120) d35_5 rfl ?_
  refine w_newaE (n := 57) (r := 57) (N := 120) d35_7 (Or.inr (Or.inr ⟨rfl, rfl⟩)) rfl (by decide) rfl rfl (by decide +kernel) ?_
  refine w_putf (a := 56) (x := 57) d35_9 f35_11 rfl (by decide +kernel) (vm_fitr (by decide)) (Or.inr ⟨by decide +kernel, by decide +kernel⟩) ?_
  refine w_aload_n d35_12 rfl ?_
  refine w_bi (v := 8) d35_13 rfl ?_
  refine w_bi (v := 120) d35_15 rfl ?_
  refine w_newnE (n := 58) (r := 58) (N := 8) (K := 120) d35_17 m35_15 rfl rfl (by decide) rfl rfl (by decide +kernel) ?_
  refine w_putf (a := 56) (x := 58) d35_21 f35_17 rfl (by decide +kernel) (vm_fitr (by decide)) (Or.inr ⟨by decide +kernel, by decide +kernel⟩) ?_
  refine w_aload_n d35_24 rfl ?_
  refine w_bi (v := 8) d35_25 rfl ?_
  refine w_newaE (n := 67) (r := 67) (N := 8) d35_27 (Or.inl ⟨rfl, rfl⟩) rfl (by decide) rfl rfl (by decide +kernel) ?_
  refine w_putf (a := 56) (x := 67) d35_29 f35_20 rfl (by decide +kernel) (vm_fitr (by decide)) (Or.inr ⟨by decide +kernel, by decide +kernel⟩) ?_
  refine w_aload_n d35_32 rfl ?_
  refine w_newE (n := 68) (r := 68) d35_33 n35_24 rfl rfl (by decide +kernel) ?_
  refine w_dup d35_36 rfl ?_
  refine w_inv2E (n1 := 70) d35_37 c35_26 (by decide) rfl ⟨Nat.le_of_ble_eq_true rfl, by decide⟩ ⟨by decide +kernel, by decide +kernel⟩ (I_Re_init ) ?_
  refine w_putf (a := 56) (x := 68) d35_40 f35_27 rfl (by decide +kernel) (vm_fitr (by decide)) (Or.inr ⟨by decide +kernel, by decide +kernel⟩) ?_
  exact w_vret d35_43 r35 ⟨rfl, rfl⟩

def vM_Ye_init (M : vM) : vM := vm_up (vm_new (vm_up (vm_new (vm_up (vm_new (vm_up (vm_new (vm_up (vm_new (vm_up (vm_new M 71 (.inr (0, 60))) 70 0 71) 72 (.inr (0, 60))) 70 1 72) 73 (.inr (0, 60))) 70 2 73) 74 (.inr (0, 60))) 70 3 74) 75 (.inr (0, 60))) 70 4 75) 76 (.inr (0, 60))) 70 5 76
theorem I_Ye_init {X : vX} {d : Nat} {M : vM} : wc X (d + 1) 116 [vR 70] (vT 71, M) (fun q hp1 => q = none ∧ hp1 = (vT 77, vM_Ye_init M)) := by
  refine wc_in (d := d + 0) (Nat.le_of_ble_eq_true rfl) (Nat.le_of_ble_eq_true rfl) ?_
  show wp X (d + 0) 116 0 [vR 70] [] (vT 71, M) _
  refine w_aload_n d116_0 rfl ?_
  refine w_oinit d116_1 c116_3 ⟨by decide, Nat.le_of_ble_eq_true rfl⟩ ?_
  refine w_aload_n d116_4 rfl ?_
  refine w_bi (v := 60) d116_5 rfl ?_
  refine w_newaE (n := 71) (r := 71) (N := 60) d116_7 (Or.inl ⟨rfl, rfl⟩) rfl (by decide) rfl rfl (by decide +kernel) ?_
  refine w_putf (a := 70) (x := 71) d116_9 f116_11 rfl (by decide +kernel) (vm_fitr (by decide)) (Or.inr ⟨by decide +kernel, by decide +kernel⟩) ?_
  refine w_aload_n d116_12 rfl ?_
  refine w_bi (v := 60) d116_13 rfl ?_
  refine w_newaE (n := 72) (r := 72) (N := 60) d116_15 (Or.inl ⟨rfl, rfl⟩) rfl (by decide) rfl rfl (by decide +kernel) ?_
  refine w_putf (a := 70) (x := 72) d116_17 f116_15 rfl (by decide +kernel) (vm_fitr (by decide)) (Or.inr ⟨by decide +kernel, by decide +kernel⟩) ?_
  refine w_aload_n d116_20 rfl ?_
  refine w_bi (v := 60) d116_21 rfl ?_
  refine w_newaE (n := 73) (r := 73) (N := 60) d116_23 (Or.inl ⟨rfl, rfl⟩) rfl (by decide) rfl rfl (by decide +kernel) ?_
  refine w_putf (a := 70) (x := 73) d116_25 f116_18 rfl (by decide +kernel) (vm_fitr (by decide)) (Or.inr ⟨by decide +kernel, by decide +kernel⟩) ?_
  refine w_aload_n d116_28 rfl ?_
  refine w_bi (v := 60) d116_29 rfl ?_
  refine w_newaE (n := 74) (r := 74) (N := 60) d116_31 (Or.inl ⟨rfl, rfl⟩) rfl (by decide) rfl rfl (by decide +kernel) ?_
  refine w_putf (a := 70) (x := 74) d116_33 f116_21 rfl (by decide +kernel) (vm_fitr (by decide)) (Or.inr ⟨by decide +kernel, by decide +kernel⟩) ?_
  refine w_aload_n d116_36 rfl ?_
  refine w_bi (v := 60) d116_37 rfl ?_
  refine w_newaE (n := 75) (r := 75) (N := 60) d116_39 (Or.inl ⟨rfl, rfl⟩) rfl (by decide) rfl rfl (by decide +kernel) ?_
  refine w_putf (a := 70) (x := 75) d116_41 f116_24 rfl (by decide +kernel) (vm_fitr (by decide)) (Or.inr ⟨by decide +kernel, by decide +kernel⟩) ?_
  refine w_aload_n d116_44 rfl ?_
  refine w_bi (v := 60) d116_45 rfl ?_
  refine w_newaE (n := 76) (r := 76) (N := 60) d116_47 (Or.inl ⟨rfl, rfl⟩) rfl (by decide) rfl rfl (by decide +kernel) ?_
  refine w_putf (a := 70) (x := 76) d116_49 f116_27 rfl (by decide +kernel) (vm_fitr (by decide)) (Or.inr ⟨by decide +kernel, by decide +kernel⟩) ?_
  exact w_vret d116_52 r116 ⟨rfl, rfl⟩

def vM_Tw_init (M : vM) : vM := M
theorem I_Tw_init {X : vX} {d : Nat} {M : vM} : wc X (d + 1) 110 [vR 77] (vT 78, M) (fun q hp1 => q = none ∧ hp1 = (vT 78, vM_Tw_init M)) := by
  refine wc_in (d := d + 0) (Nat.le_of_ble_eq_true rfl) (Nat.le_of_ble_eq_true rfl) ?_
  show wp X (d + 0) 110 0 [vR 77] [] (vT 78, M) _
  refine w_aload_n d110_0 rfl ?_
  refine w_oinit d110_1 c110_1 ⟨by decide, Nat.le_of_ble_eq_true rfl⟩ ?_
  exact w_vret d110_4 r110 ⟨rfl, rfl⟩

def vM_X_init (M : vM) (l1 : Int) : vM := vm_up (vm_new (vm_up (vm_new (vm_up (vm_new (vm_up (vM_Tw_init (vm_new (vm_up (vM_Ye_init (vm_new (vm_up (vM_Co_init (vm_new (vm_up (vM_Ct_init (vm_new (vm_up (vM_Te_init (vm_new (vm_up (vM_Pr_init (vm_new (vm_up (vM_Me_init (vm_new (vm_up (vM_So_init (vm_new (vm_up (vM_Ac_init (vm_new M 1 (.inl 0)) (w32 (2 + (l1 % 3)))) 0 0 1) 13 (.inl 6)) ) 0 1 13) 28 (.inl 3)) ) 0 2 28) 30 (.inl 4)) ) 0 3 30) 49 (.inl 7)) ) 0 4 49) 53 (.inl 1)) ) 0 5 53) 56 (.inl 2)) ) 0 6 56) 70 (.inl 9)) ) 0 7 70) 77 (.inl 8)) ) 0 8 77) 78 (.inr (0, 4))) 0 9 78) 79 (.inr (0, 4))) 0 10 79) 80 (.inr (0, 4))) 0 11 80
theorem I_X_init {X : vX} {d : Nat} {M : vM} {l1 : Int} (hx : -2147483648 ≤ l1 ∧ l1 < 2147483648) : wc X (d + 3) 127 [vR 0, vI l1] (vT 1, M) (fun q hp1 => q = none ∧ hp1 = (vT 81, vM_X_init M l1)) := by
  refine wc_in (d := d + 2) (Nat.le_of_ble_eq_true rfl) (Nat.le_of_ble_eq_true rfl) ?_
  show wp X (d + 2) 127 0 [vR 0, vI l1] [] (vT 1, M) _
  refine w_aload_n d127_0 rfl ?_
  refine w_oinit d127_1 c127_3 ⟨by decide, Nat.le_of_ble_eq_true rfl⟩ ?_
  refine w_aload_n d127_4 rfl ?_
  refine w_newE (n := 1) (r := 1) d127_5 n127_9 rfl rfl (by decide +kernel) ?_
  refine w_dup d127_8 rfl ?_
  refine w_ic (v := 2) d127_9 rfl ?_
  refine w_iload_n d127_10 rfl ?_
  refine w_ic (v := 3) d127_11 rfl ?_
  refine w_inv1E (v := vI (l1 % 3)) d127_12 c127_13 (by decide) rfl (Nat.le_of_ble_eq_true rfl) (I_floorMod hx) ?_
  refine w_iadd d127_15 ?_
  refine w_inv2E (n1 := 13) d127_16 c127_19 (by decide) rfl ⟨Nat.le_of_ble_eq_true rfl, by decide⟩ ⟨by decide +kernel, by decide +kernel⟩ (I_Ac_init ) ?_
  refine w_putf (a := 0) (x := 1) d127_19 f127_22 rfl (by decide +kernel) (vm_fitr (by decide)) (Or.inr ⟨by decide +kernel, by decide +kernel⟩) ?_
  refine w_aload_n d127_22 rfl ?_
  refine w_newE (n := 13) (r := 13) d127_23 n127_26 rfl rfl (by decide +kernel) ?_
  refine w_dup d127_26 rfl ?_
  refine w_inv2E (n1 := 28) d127_27 c127_28 (by decide) rfl ⟨Nat.le_of_ble_eq_true rfl, by decide⟩ ⟨by decide +kernel, by decide +kernel⟩ (I_So_init ) ?_
  refine w_putf (a := 0) (x := 13) d127_30 f127_29 rfl (by decide +kernel) (vm_fitr (by decide)) (Or.inr ⟨by decide +kernel, by decide +kernel⟩) ?_
  refine w_aload_n d127_33 rfl ?_
  refine w_newE (n := 28) (r := 28) d127_34 n127_33 rfl rfl (by decide +kernel) ?_
  refine w_dup d127_37 rfl ?_
  refine w_inv2E (n1 := 30) d127_38 c127_35 (by decide) rfl ⟨Nat.le_of_ble_eq_true rfl, by decide⟩ ⟨by decide +kernel, by decide +kernel⟩ (I_Me_init ) ?_
  refine w_putf (a := 0) (x := 28) d127_41 f127_36 rfl (by decide +kernel) (vm_fitr (by decide)) (Or.inr ⟨by decide +kernel, by decide +kernel⟩) ?_
  refine w_aload_n d127_44 rfl ?_
  refine w_newE (n := 30) (r := 30) d127_45 n127_40 rfl rfl (by decide +kernel) ?_
  refine w_dup d127_48 rfl ?_
  refine w_inv2E (n1 := 49) d127_49 c127_42 (by decide) rfl ⟨Nat.le_of_ble_eq_true rfl, by decide⟩ ⟨by decide +kernel, by decide +kernel⟩ (I_Pr_init ) ?_
  refine w_putf (a := 0) (x := 30) d127_52 f127_43 rfl (by decide +kernel) (vm_fitr (by decide)) (Or.inr ⟨by decide +kernel, by decide +kernel⟩) ?_
  refine w_aload_n d127_55 rfl ?_
  refine w_newE (n := 49) (r := 49) d127_56 n127_47 rfl rfl (by decide +kernel) ?_
  refine w_dup d127_59 rfl ?_
  refine w_inv2E (n1 := 53) d127_60 c127_49 (by decide) rfl ⟨Nat.le_of_ble_eq_true rfl, by decide⟩ ⟨by decide +kernel, by decide +kernel⟩ (I_Te_init ) ?_
  refine w_putf (a := 0) (x := 49) d127_63 f127_50 rfl (by decide +kernel) (vm_fitr (by decide)) (Or.inr ⟨by decide +kernel, by decide +kernel⟩) ?_
  refine w_aload_n d127_66 rfl ?_
  refine w_newE (n := 53) (r := 53) d127_67 n127_54 rfl rfl (by decide +kernel) ?_
  refine w_dup d127_70 rfl ?_
  refine w_inv2E (n1 := 56) d127_71 c127_56 (by decide) rfl ⟨Nat.le_of_ble_eq_true rfl, by decide⟩ ⟨by decide +kernel, by decide +kernel⟩ (I_Ct_init ) ?_
  refine w_putf (a := 0) (x := 53) d127_74 f127_57 rfl (by decide +kernel) (vm_fitr (by decide)) (Or.inr ⟨by decide +kernel, by decide +kernel⟩) ?_
  refine w_aload_n d127_77 rfl ?_
  refine w_newE (n := 56) (r := 56) d127_78 n127_61 rfl rfl (by decide +kernel) ?_
  refine w_dup d127_81 rfl ?_
  refine w_inv2E (n1 := 70) d127_82 c127_63 (by decide) rfl ⟨Nat.le_of_ble_eq_true rfl, by decide⟩ ⟨by decide +kernel, by decide +kernel⟩ (I_Co_init ) ?_
  refine w_putf (a := 0) (x := 56) d127_85 f127_64 rfl (by decide +kernel) (vm_fitr (by decide)) (Or.inr ⟨by decide +kernel, by decide +kernel⟩) ?_
  refine w_aload_n d127_88 rfl ?_
  refine w_newE (n := 70) (r := 70) d127_89 n127_68 rfl rfl (by decide +kernel) ?_
  refine w_dup d127_92 rfl ?_
  refine w_inv2E (n1 := 77) d127_93 c127_70 (by decide) rfl ⟨Nat.le_of_ble_eq_true rfl, by decide⟩ ⟨by decide +kernel, by decide +kernel⟩ (I_Ye_init ) ?_
  refine w_putf (a := 0) (x := 70) d127_96 f127_71 rfl (by decide +kernel) (vm_fitr (by decide)) (Or.inr ⟨by decide +kernel, by decide +kernel⟩) ?_
  refine w_aload_n d127_99 rfl ?_
  refine w_newE (n := 77) (r := 77) d127_100 n127_75 rfl rfl (by decide +kernel) ?_
  refine w_dup d127_103 rfl ?_
  refine w_inv2E (n1 := 78) d127_104 c127_77 (by decide) rfl ⟨Nat.le_of_ble_eq_true rfl, by decide⟩ ⟨by decide +kernel, by decide +kernel⟩ (I_Tw_init ) ?_
  refine w_putf (a := 0) (x := 77) d127_107 f127_78 rfl (by decide +kernel) (vm_fitr (by decide)) (Or.inr ⟨by decide +kernel, by decide +kernel⟩) ?_
  refine w_aload_n d127_110 rfl ?_
  refine w_ic (v := 4) d127_111 rfl ?_
  refine w_newaE (n := 78) (r := 78) (N := 4) d127_112 (Or.inl ⟨rfl, rfl⟩) rfl (by decide) rfl rfl (by decide +kernel) ?_
  refine w_putf (a := 0) (x := 78) d127_114 f127_82 rfl (by decide +kernel) (vm_fitr (by decide)) (Or.inr ⟨by decide +kernel, by decide +kernel⟩) ?_
  refine w_aload_n d127_117 rfl ?_
  refine w_ic (v := 4) d127_118 rfl ?_
  refine w_newaE (n := 79) (r := 79) (N := 4) d127_119 (Or.inl ⟨rfl, rfl⟩) rfl (by decide) rfl rfl (by decide +kernel) ?_
  refine w_putf (a := 0) (x := 79) d127_121 f127_86 rfl (by decide +kernel) (vm_fitr (by decide)) (Or.inr ⟨by decide +kernel, by decide +kernel⟩) ?_
  refine w_aload_n d127_124 rfl ?_
  refine w_ic (v := 4) d127_125 rfl ?_
  refine w_newaE (n := 80) (r := 80) (N := 4) d127_126 (Or.inl ⟨rfl, rfl⟩) rfl (by decide) rfl rfl (by decide +kernel) ?_
  refine w_putf (a := 0) (x := 80) d127_128 f127_89 rfl (by decide +kernel) (vm_fitr (by decide)) (Or.inr ⟨by decide +kernel, by decide +kernel⟩) ?_
  exact w_vret d127_131 r127 ⟨rfl, rfl⟩

def vM_R_init (M : vM) (l1 : Int) : vM := vm_up (vm_up (vm_new (vm_up (vm_new (vm_up (vm_new (vm_up (vm_new (vm_up (vm_new (vm_up (vm_new (vm_up (vm_new (vm_up (vm_new (vm_up (vm_new (vm_up (vm_new (vm_up (vm_new (vm_up (vm_new (vm_up (vm_up (vm_up (vm_new (vm_up (vm_new (vm_up (vm_new (vm_up (vm_new (vm_up (vm_up (vm_new (vm_up (vm_new (vm_up (vm_up (vm_up (vm_up (vm_new (vm_up (vm_up (vm_up (vm_new (vm_up (vm_new (vm_up (vm_new (vm_up (vm_new (vm_up (vm_new (vm_up (vm_new (vm_up (vm_new (vm_up (vm_new (vm_up (vm_new (vm_up (vm_new (vm_up (vm_new (vm_up (vm_new (vm_up (vm_new (vm_up (vm_new (vm_up (vm_new (vm_up (vm_new (vm_up (vm_new M 82 (.inr (0, 4))) 81 2 82) 83 (.inr (0, 48))) 81 3 83) 84 (.inr (0, 4))) 81 4 84) 85 (.inr (0, 4))) 81 5 85) 86 (.inr (0, 4))) 81 7 86) 87 (.inr (1, 60))) 81 8 87) 88 (.inr (0, 4))) 81 10 88) 89 (.inr (1, 16))) 81 11 89) 90 (.inr (1, 5))) 81 12 90) 91 (.inr (1, 5))) 81 13 91) 92 (.inr (1, 5))) 81 16 92) 93 (.inr (1, 5))) 81 17 93) 94 (.inr (0, 3))) 81 20 94) 95 (.inr (0, 3))) 81 21 95) 96 (.inr (0, 10))) 81 24 96) 97 (.inr (0, 6))) 81 25 97) 98 (.inr (0, 2))) 98 0 0) 98 1 3) 81 26 98) 99 (.inr (0, 2))) 99 0 3) 99 1 9) 81 27 99) 81 28 10) 100 (.inr (1, 91))) 81 29 100) 101 (.inr (0, 364))) 81 30 101) 81 31 2) 102 (.inr (0, 4))) 81 32 102) 103 (.inr (0, 4))) 81 33 103) 104 (.inr (0, 5))) 81 34 104) 105 (.inr (0, 2))) 105 0 1) 105 1 1) 81 36 105) 106 (.inr (0, 2))) 81 37 106) 107 (.inr (0, 8))) 81 39 107) 108 (.inr (0, 960))) 81 40 108) 109 (.inr (0, 120))) 81 41 109) 110 (.inr (0, 130))) 81 43 110) 111 (.inr (1, 130))) 81 47 111) 112 (.inr (0, 60))) 81 50 112) 113 (.inr (0, 60))) 81 51 113) 114 (.inr (0, 60))) 81 52 114) 115 (.inr (0, 60))) 81 53 115) 116 (.inr (0, 60))) 81 54 116) 117 (.inr (0, 60))) 81 55 117) 81 0 (w32 (2 + (j_irem (w32 ((j_irem l1 3) + 3)) 3)))
theorem I_R_init {X : vX} {d : Nat} {M : vM} {l1 : Int} : wc X (d + 1) 184 [vR 81, vI l1] (vT 82, M) (fun q hp1 => q = none ∧ hp1 = (vT 118, vM_R_init M l1)) := by
  refine wc_in (d := d + 0) (Nat.le_of_ble_eq_true rfl) (Nat.le_of_ble_eq_true rfl) ?_
  show wp X (d + 0) 184 0 [vR 81, vI l1] [] (vT 82, M) _
  refine w_aload_n d184_0 rfl ?_
  refine w_oinit d184_1 c184_1 ⟨by decide, Nat.le_of_ble_eq_true rfl⟩ ?_
  refine w_aload_n d184_4 rfl ?_
  refine w_ic (v := 4) d184_5 rfl ?_
  refine w_newaE (n := 82) (r := 82) (N := 4) d184_6 (Or.inl ⟨rfl, rfl⟩) rfl (by decide) rfl rfl (by decide +kernel) ?_
  refine w_putf (a := 81) (x := 82) d184_8 f184_7 rfl (by decide +kernel) (vm_fitr (by decide)) (Or.inr ⟨by decide +kernel, by decide +kernel⟩) ?_
  refine w_aload_n d184_11 rfl ?_
  refine w_bi (v := 48) d184_12 rfl ?_
  refine w_newaE (n := 83) (r := 83) (N := 48) d184_14 (Or.inl ⟨rfl, rfl⟩) rfl (by decide) rfl rfl (by decide +kernel) ?_
  refine w_putf (a := 81) (x := 83) d184_16 f184_13 rfl (by decide +kernel) (vm_fitr (by decide)) (Or.inr ⟨by decide +kernel, by decide +kernel⟩) ?_
  refine w_aload_n d184_19 rfl ?_
  refine w_ic (v := 4) d184_20 rfl ?_
  refine w_newaE (n := 84) (r := 84) (N := 4) d184_21 (Or.inl ⟨rfl, rfl⟩) rfl (by decide) rfl rfl (by decide +kernel) ?_
  refine w_putf (a := 81) (x := 84) d184_23 f184_16 rfl (by decide +kernel) (vm_fitr (by decide)) (Or.inr ⟨by decide +kernel, by decide +kernel⟩) ?_
  refine w_aload_n d184_26 rfl ?_
  refine w_ic (v := 4) d184_27 rfl ?_
  refine w_newaE (n := 85) (r := 85) (N := 4) d184_28 (Or.inl ⟨rfl, rfl⟩) rfl (by decide) rfl rfl (by decide +kernel) ?_
  refine w_putf (a := 81) (x := 85) d184_30 f184_19 rfl (by decide +kernel) (vm_fitr (by decide)) (Or.inr ⟨by decide +kernel, by decide +kernel⟩) ?_
  refine w_aload_n d184_33 rfl ?_
  refine w_ic (v := 4) d184_34 rfl ?_
  refine w_newaE (n := 86) (r := 86) (N := 4) d184_35 (Or.inl ⟨rfl, rfl⟩) rfl (by decide) rfl rfl (by decide +kernel) ?_
  refine w_putf (a := 81) (x := 86) d184_37 f184_22 rfl (by decide +kernel) (vm_fitr (by decide)) (Or.inr ⟨by decide +kernel, by decide +kernel⟩) ?_
  refine w_aload_n d184_40 rfl ?_
  refine w_bi (v := 60) d184_41 rfl ?_
  refine w_newaE (n := 87) (r := 87) (N := 60) d184_43 (Or.inr (Or.inl ⟨rfl, rfl⟩)) rfl (by decide) rfl rfl (by decide +kernel) ?_
  refine w_putf (a := 81) (x := 87) d184_45 f184_25 rfl (by decide +kernel) (vm_fitr (by decide)) (Or.inr ⟨by decide +kernel, by decide +kernel⟩) ?_
  refine w_aload_n d184_48 rfl ?_
  refine w_ic (v := 4) d184_49 rfl ?_
  refine w_newaE (n := 88) (r := 88) (N := 4) d184_50 (Or.inl ⟨rfl, rfl⟩) rfl (by decide) rfl rfl (by decide +kernel) ?_
  refine w_putf (a := 81) (x := 88) d184_52 f184_29 rfl (by decide +kernel) (vm_fitr (by decide)) (Or.inr ⟨by decide +kernel, by decide +kernel⟩) ?_
  refine w_aload_n d184_55 rfl ?_
  refine w_bi (v := 16) d184_56 rfl ?_
  refine w_newaE (n := 89) (r := 89) (N := 16) d184_58 (Or.inr (Or.inl ⟨rfl, rfl⟩)) rfl (by decide) rfl rfl (by decide +kernel) ?_
  refine w_putf (a := 81) (x := 89) d184_60 f184_32 rfl (by decide +kernel) (vm_fitr (by decide)) (Or.inr ⟨by decide +kernel, by decide +kernel⟩) ?_
  refine w_aload_n d184_63 rfl ?_
  refine w_ic (v := 5) d184_64 rfl ?_
  refine w_newaE (n := 90) (r := 90) (N := 5) d184_65 (Or.inr (Or.inl ⟨rfl, rfl⟩)) rfl (by decide) rfl rfl (by decide +kernel) ?_
  refine w_putf (a := 81) (x := 90) d184_67 f184_35 rfl (by decide +kernel) (vm_fitr (by decide)) (Or.inr ⟨by decide +kernel, by decide +kernel⟩) ?_
  refine w_aload_n d184_70 rfl ?_
  refine w_ic (v := 5) d184_71 rfl ?_
  refine w_newaE (n := 91) (r := 91) (N := 5) d184_72 (Or.inr (Or.inl ⟨rfl, rfl⟩)) rfl (by decide) rfl rfl (by decide +kernel) ?_
  refine w_putf (a := 81) (x := 91) d184_74 f184_38 rfl (by decide +kernel) (vm_fitr (by decide)) (Or.inr ⟨by decide +kernel, by decide +kernel⟩) ?_
  refine w_aload_n d184_77 rfl ?_
  refine w_ic (v := 5) d184_78 rfl ?_
  refine w_newaE (n := 92) (r := 92) (N := 5) d184_79 (Or.inr (Or.inl ⟨rfl, rfl⟩)) rfl (by decide) rfl rfl (by decide +kernel) ?_
  refine w_putf (a := 81) (x := 92) d184_81 f184_41 rfl (by decide +kernel) (vm_fitr (by decide)) (Or.inr ⟨by decide +kernel, by decide +kernel⟩) ?_
  refine w_aload_n d184_84 rfl ?_
  refine w_ic (v := 5) d184_85 rfl ?_
  refine w_newaE (n := 93) (r := 93) (N := 5) d184_86 (Or.inr (Or.inl ⟨rfl, rfl⟩)) rfl (by decide) rfl rfl (by decide +kernel) ?_
  refine w_putf (a := 81) (x := 93) d184_88 f184_44 rfl (by decide +kernel) (vm_fitr (by decide)) (Or.inr ⟨by decide +kernel, by decide +kernel⟩) ?_
  refine w_aload_n d184_91 rfl ?_
  refine w_ic (v := 3) d184_92 rfl ?_
  refine w_newaE (n := 94) (r := 94) (N := 3) d184_93 (Or.inl ⟨rfl, rfl⟩) rfl (by decide) rfl rfl (by decide +kernel) ?_
  refine w_putf (a := 81) (x := 94) d184_95 f184_47 rfl (by decide +kernel) (vm_fitr (by decide)) (Or.inr ⟨by decide +kernel, by decide +kernel⟩) ?_
  refine w_aload_n d184_98 rfl ?_
  refine w_ic (v := 3) d184_99 rfl ?_
  refine w_newaE (n := 95) (r := 95) (N := 3) d184_100 (Or.inl ⟨rfl, rfl⟩) rfl (by decide) rfl rfl (by decide +kernel) ?_
  refine w_putf (a := 81) (x := 95) d184_102 f184_50 rfl (by decide +kernel) (vm_fitr (by decide)) (Or.inr ⟨by decide +kernel, by decide +kernel⟩) ?_
  refine w_aload_n d184_105 rfl ?_
  refine w_bi (v := 10) d184_106 rfl ?_
  refine w_newaE (n := 96) (r := 96) (N := 10) d184_108 (Or.inl ⟨rfl, rfl⟩) rfl (by decide) rfl rfl (by decide +kernel) ?_
  refine w_putf (a := 81) (x := 96) d184_110 f184_53 rfl (by decide +kernel) (vm_fitr (by decide)) (Or.inr ⟨by decide +kernel, by decide +kernel⟩) ?_
  refine w_aload_n d184_113 rfl ?_
  refine w_bi (v := 6) d184_114 rfl ?_
  refine w_newaE (n := 97) (r := 97) (N := 6) d184_116 (Or.inl ⟨rfl, rfl⟩) rfl (by decide) rfl rfl (by decide +kernel) ?_
  refine w_putf (a := 81) (x := 97) d184_118 f184_56 rfl (by decide +kernel) (vm_fitr (by decide)) (Or.inr ⟨by decide +kernel, by decide +kernel⟩) ?_
  refine w_aload_n d184_121 rfl ?_
  refine w_ic (v := 2) d184_122 rfl ?_
  refine w_newaE (n := 98) (r := 98) (N := 2) d184_123 (Or.inl ⟨rfl, rfl⟩) rfl (by decide) rfl rfl (by decide +kernel) ?_
  refine w_dup d184_125 rfl ?_
  refine w_ic (v := 0) d184_126 rfl ?_
  refine w_ic (v := 0) d184_127 rfl ?_
  refine w_iast (a := 98) d184_128 rfl (n := 2) (by decide +kernel) ⟨by decide, by decide⟩ ?_
  refine w_dup d184_129 rfl ?_
  refine w_ic (v := 1) d184_130 rfl ?_
  refine w_ic (v := 3) d184_131 rfl ?_
  refine w_iast (a := 98) d184_132 rfl (n := 2) (by decide +kernel) ⟨by decide, by decide⟩ ?_
  refine w_putf (a := 81) (x := 98) d184_133 f184_59 rfl (by decide +kernel) (vm_fitr (by decide)) (Or.inr ⟨by decide +kernel, by decide +kernel⟩) ?_
  refine w_aload_n d184_136 rfl ?_
  refine w_ic (v := 2) d184_137 rfl ?_
  refine w_newaE (n := 99) (r := 99) (N := 2) d184_138 (Or.inl ⟨rfl, rfl⟩) rfl (by decide) rfl rfl (by decide +kernel) ?_
  refine w_dup d184_140 rfl ?_
  refine w_ic (v := 0) d184_141 rfl ?_
  refine w_ic (v := 3) d184_142 rfl ?_
  refine w_iast (a := 99) d184_143 rfl (n := 2) (by decide +kernel) ⟨by decide, by decide⟩ ?_
  refine w_dup d184_144 rfl ?_
  refine w_ic (v := 1) d184_145 rfl ?_
  refine w_bi (v := 9) d184_146 rfl ?_
  refine w_iast (a := 99) d184_148 rfl (n := 2) (by decide +kernel) ⟨by decide, by decide⟩ ?_
  refine w_putf (a := 81) (x := 99) d184_149 f184_62 rfl (by decide +kernel) (vm_fitr (by decide)) (Or.inr ⟨by decide +kernel, by decide +kernel⟩) ?_
  refine w_aload_n d184_152 rfl ?_
  refine w_bi (v := 10) d184_153 rfl ?_
  refine w_putf (a := 81) (x := 10) d184_155 f184_65 rfl (by decide +kernel) rfl (Or.inl (by decide +kernel)) ?_
  refine w_aload_n d184_158 rfl ?_
  refine w_bi (v := 91) d184_159 rfl ?_
  refine w_newaE (n := 100) (r := 100) (N := 91) d184_161 (Or.inr (Or.inl ⟨rfl, rfl⟩)) rfl (by decide) rfl rfl (by decide +kernel) ?_
  refine w_putf (a := 81) (x := 100) d184_163 f184_69 rfl (by decide +kernel) (vm_fitr (by decide)) (Or.inr ⟨by decide +kernel, by decide +kernel⟩) ?_
  refine w_aload_n d184_166 rfl ?_
  refine w_si (v := 364) d184_167 rfl ?_
  refine w_newaE (n := 101) (r := 101) (N := 364) d184_170 (Or.inl ⟨rfl, rfl⟩) rfl (by decide) rfl rfl (by decide +kernel) ?_
  refine w_putf (a := 81) (x := 101) d184_172 f184_72 rfl (by decide +kernel) (vm_fitr (by decide)) (Or.inr ⟨by decide +kernel, by decide +kernel⟩) ?_
  refine w_aload_n d184_175 rfl ?_
  refine w_ic (v := 2) d184_176 rfl ?_
  refine w_putf (a := 81) (x := 2) d184_177 f184_75 rfl (by decide +kernel) rfl (Or.inl (by decide +kernel)) ?_
  refine w_aload_n d184_180 rfl ?_
  refine w_ic (v := 4) d184_181 rfl ?_
  refine w_newaE (n := 102) (r := 102) (N := 4) d184_182 (Or.inl ⟨rfl, rfl⟩) rfl (by decide) rfl rfl (by decide +kernel) ?_
  refine w_putf (a := 81) (x := 102) d184_184 f184_78 rfl (by decide +kernel) (vm_fitr (by decide)) (Or.inr ⟨by decide +kernel, by decide +kernel⟩) ?_
  refine w_aload_n d184_187 rfl ?_
  refine w_ic (v := 4) d184_188 rfl ?_
  refine w_newaE (n := 103) (r := 103) (N := 4) d184_189 (Or.inl ⟨rfl, rfl⟩) rfl (by decide) rfl rfl (by decide +kernel) ?_
  refine w_putf (a := 81) (x := 103) d184_191 f184_81 rfl (by decide +kernel) (vm_fitr (by decide)) (Or.inr ⟨by decide +kernel, by decide +kernel⟩) ?_
  refine w_aload_n d184_194 rfl ?_
  refine w_ic (v := 5) d184_195 rfl ?_
  refine w_newaE (n := 104) (r := 104) (N := 5) d184_196 (Or.inl ⟨rfl, rfl⟩) rfl (by decide) rfl rfl (by decide +kernel) ?_
  refine w_putf (a := 81) (x := 104) d184_198 f184_84 rfl (by decide +kernel) (vm_fitr (by decide)) (Or.inr ⟨by decide +kernel, by decide +kernel⟩) ?_
  refine w_aload_n d184_201 rfl ?_
  refine w_ic (v := 2) d184_202 rfl ?_
  refine w_newaE (n := 105) (r := 105) (N := 2) d184_203 (Or.inl ⟨rfl, rfl⟩) rfl (by decide) rfl rfl (by decide +kernel) ?_
  refine w_dup d184_205 rfl ?_
  refine w_ic (v := 0) d184_206 rfl ?_
  refine w_ic (v := 1) d184_207 rfl ?_
  refine w_iast (a := 105) d184_208 rfl (n := 2) (by decide +kernel) ⟨by decide, by decide⟩ ?_
  refine w_dup d184_209 rfl ?_
  refine w_ic (v := 1) d184_210 rfl ?_
  refine w_ic (v := 1) d184_211 rfl ?_
  refine w_iast (a := 105) d184_212 rfl (n := 2) (by decide +kernel) ⟨by decide, by decide⟩ ?_
  refine w_putf (a := 81) (x := 105) d184_213 f184_87 rfl (by decide +kernel) (vm_fitr (by decide)) (Or.inr ⟨by decide +kernel, by decide +kernel⟩) ?_
  refine w_aload_n d184_216 rfl ?_
  refine w_ic (v := 2) d184_217 rfl ?_
  refine w_newaE (n := 106) (r := 106) (N := 2) d184_218 (Or.inl ⟨rfl, rfl⟩) rfl (by decide) rfl rfl (by decide +kernel) ?_
  refine w_putf (a := 81) (x := 106) d184_220 f184_90 rfl (by decide +kernel) (vm_fitr (by decide)) (Or.inr ⟨by decide +kernel, by decide +kernel⟩) ?_
  refine w_aload_n d184_223 rfl ?_
  refine w_bi (v := 8) d184_224 rfl ?_
  refine w_newaE (n := 107) (r := 107) (N := 8) d184_226 (Or.inl ⟨rfl, rfl⟩) rfl (by decide) rfl rfl (by decide +kernel) ?_
  refine w_putf (a := 81) (x := 107) d184_228 f184_93 rfl (by decide +kernel) (vm_fitr (by decide)) (Or.inr ⟨by decide +kernel, by decide +kernel⟩) ?_
  refine w_aload_n d184_231 rfl ?_
  refine w_si (v := 960) d184_232 rfl ?_
  refine w_newaE (n := 108) (r := 108) (N := 960) d184_235 (Or.inl ⟨rfl, rfl⟩) rfl (by decide) rfl rfl (by decide +kernel) ?_
  refine w_putf (a := 81) (x := 108) d184_237 f184_96 rfl (by decide +kernel) (vm_fitr (by decide)) (Or.inr ⟨by decide +kernel, by decide +kernel⟩) ?_
  refine w_aload_n d184_240 rfl ?_
  refine w_bi (v := 120) d184_241 rfl ?_
  refine w_newaE (n := 109) (r := 109) (N := 120) d184_243 (Or.inl ⟨rfl, rfl⟩) rfl (by decide) rfl rfl (by decide +kernel) ?_
  refine w_putf (a := 81) (x := 109) d184_245 f184_99 rfl (by decide +kernel) (vm_fitr (by decide)) (Or.inr ⟨by decide +kernel, by decide +kernel⟩) ?_
  refine w_aload_n d184_248 rfl ?_
  refine w_si (v := 130) d184_249 rfl ?_
  refine w_newaE (n := 110) (r := 110) (N := 130) d184_252 (Or.inl ⟨rfl, rfl⟩) rfl (by decide) rfl rfl (by decide +kernel) ?_
  refine w_putf (a := 81) (x := 110) d184_254 f184_102 rfl (by decide +kernel) (vm_fitr (by decide)) (Or.inr ⟨by decide +kernel, by decide +kernel⟩) ?_
  refine w_aload_n d184_257 rfl ?_
  refine w_si (v := 130) d184_258 rfl ?_
  refine w_newaE (n := 111) (r := 111) (N := 130) d184_261 (Or.inr (Or.inl ⟨rfl, rfl⟩)) rfl (by decide) rfl rfl (by decide +kernel) ?_
  refine w_putf (a := 81) (x := 111) d184_263 f184_105 rfl (by decide +kernel) (vm_fitr (by decide)) (Or.inr ⟨by decide +kernel, by decide +kernel⟩) ?_
  refine w_aload_n d184_266 rfl ?_
  refine w_bi (v := 60) d184_267 rfl ?_
  refine w_newaE (n := 112) (r := 112) (N := 60) d184_269 (Or.inl ⟨rfl, rfl⟩) rfl (by decide) rfl rfl (by decide +kernel) ?_
  refine w_putf (a := 81) (x := 112) d184_271 f184_108 rfl (by decide +kernel) (vm_fitr (by decide)) (Or.inr ⟨by decide +kernel, by decide +kernel⟩) ?_
  refine w_aload_n d184_274 rfl ?_
  refine w_bi (v := 60) d184_275 rfl ?_
  refine w_newaE (n := 113) (r := 113) (N := 60) d184_277 (Or.inl ⟨rfl, rfl⟩) rfl (by decide) rfl rfl (by decide +kernel) ?_
  refine w_putf (a := 81) (x := 113) d184_279 f184_111 rfl (by decide +kernel) (vm_fitr (by decide)) (Or.inr ⟨by decide +kernel, by decide +kernel⟩) ?_
  refine w_aload_n d184_282 rfl ?_
  refine w_bi (v := 60) d184_283 rfl ?_
  refine w_newaE (n := 114) (r := 114) (N := 60) d184_285 (Or.inl ⟨rfl, rfl⟩) rfl (by decide) rfl rfl (by decide +kernel) ?_
  refine w_putf (a := 81) (x := 114) d184_287 f184_114 rfl (by decide +kernel) (vm_fitr (by decide)) (Or.inr ⟨by decide +kernel, by decide +kernel⟩) ?_
  refine w_aload_n d184_290 rfl ?_
  refine w_bi (v := 60) d184_291 rfl ?_
  refine w_newaE (n := 115) (r := 115) (N := 60) d184_293 (Or.inl ⟨rfl, rfl⟩) rfl (by decide) rfl rfl (by decide +kernel) ?_
  refine w_putf (a := 81) (x := 115) d184_295 f184_117 rfl (by decide +kernel) (vm_fitr (by decide)) (Or.inr ⟨by decide +kernel, by decide +kernel⟩) ?_
  refine w_aload_n d184_298 rfl ?_
  refine w_bi (v := 60) d184_299 rfl ?_
  refine w_newaE (n := 116) (r := 116) (N := 60) d184_301 (Or.inl ⟨rfl, rfl⟩) rfl (by decide) rfl rfl (by decide +kernel) ?_
  refine w_putf (a := 81) (x := 116) d184_303 f184_120 rfl (by decide +kernel) (vm_fitr (by decide)) (Or.inr ⟨by decide +kernel, by decide +kernel⟩) ?_
  refine w_aload_n d184_306 rfl ?_
  refine w_bi (v := 60) d184_307 rfl ?_
  refine w_newaE (n := 117) (r := 117) (N := 60) d184_309 (Or.inl ⟨rfl, rfl⟩) rfl (by decide) rfl rfl (by decide +kernel) ?_
  refine w_putf (a := 81) (x := 117) d184_311 f184_123 rfl (by decide +kernel) (vm_fitr (by decide)) (Or.inr ⟨by decide +kernel, by decide +kernel⟩) ?_
  refine w_aload_n d184_314 rfl ?_
  refine w_ic (v := 2) d184_315 rfl ?_
  refine w_iload_n d184_316 rfl ?_
  refine w_ic (v := 3) d184_317 rfl ?_
  refine w_irem d184_318 (by decide) ?_
  refine w_ic (v := 3) d184_319 rfl ?_
  refine w_iadd d184_320 ?_
  refine w_ic (v := 3) d184_321 rfl ?_
  refine w_irem d184_322 (by decide) ?_
  refine w_iadd d184_323 ?_
  refine w_putf (a := 81) (x := w32 (2 + (j_irem (w32 ((j_irem l1 3) + 3)) 3))) d184_324 f184_126 rfl (by decide +kernel) rfl (Or.inr ⟨by decide +kernel, by decide +kernel⟩) ?_
  exact w_vret d184_327 r184 ⟨rfl, rfl⟩
