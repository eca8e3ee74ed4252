/-! BLOCK LEMMAS, written by gen4.py out of the decode rows: what each stretch of a method does -/
theorem cd36 : vm_cd 36 = cX2_howMany := rfl
theorem d36_0 : decode (vm_cd 36) 0 = .ok (.aload_n 0, 1) := (congrArg (fun b => decode b 0) cd36).trans (by decide +kernel)
theorem d36_1 : decode (vm_cd 36) 1 = .ok (.getfield 31, 3) := (congrArg (fun b => decode b 1) cd36).trans (by decide +kernel)
theorem d36_4 : decode (vm_cd 36) 4 = .ok (.ireturn, 1) := (congrArg (fun b => decode b 4) cd36).trans (by decide +kernel)
theorem f36_31 : vm_fl.lookup (vm_own 36, 31) = some (2, 5, 189) := by decide +kernel
theorem r36 : vm_rt 36 = (some .int) := by decide +kernel
theorem B_Co_howMany_0 {X : vX} {d : Nat} {M : vM} {Q : Option vV → vM → Prop}  (k : Q (some (vI (M 56 5))) M) : vw X d 36 0 [vR 56] [] M Q := by
  refine w_aload_n d36_0 rfl ?_
  refine w_getf (a := 56) (v := vI (M 56 5)) d36_1 f36_31 rfl rfl rfl ?_
  exact w_iret d36_4 r36 ⟨_, rfl, k⟩
theorem E_Co_howMany {X : vX} {d : Nat} {M : vM} {Q : Option vV → vM → Prop} (k : vw X d 36 0 [vR 56] [] M Q) : cq X (d + 1) 36 [vR 56] M Q := wc_in (Nat.le_of_ble_eq_true rfl) (Nat.le_of_ble_eq_true rfl) k
theorem cd37 : vm_cd 37 = cX2_tapeLength := rfl
theorem d37_0 : decode (vm_cd 37) 0 = .ok (.aload_n 0, 1) := (congrArg (fun b => decode b 0) cd37).trans (by decide +kernel)
theorem d37_1 : decode (vm_cd 37) 1 = .ok (.getfield 35, 3) := (congrArg (fun b => decode b 1) cd37).trans (by decide +kernel)
theorem d37_4 : decode (vm_cd 37) 4 = .ok (.ireturn, 1) := (congrArg (fun b => decode b 4) cd37).trans (by decide +kernel)
theorem f37_35 : vm_fl.lookup (vm_own 37, 35) = some (2, 4, 188) := by decide +kernel
theorem r37 : vm_rt 37 = (some .int) := by decide +kernel
theorem B_Co_tapeLength_0 {X : vX} {d : Nat} {M : vM} {Q : Option vV → vM → Prop}  (k : Q (some (vI (M 56 4))) M) : vw X d 37 0 [vR 56] [] M Q := by
  refine w_aload_n d37_0 rfl ?_
  refine w_getf (a := 56) (v := vI (M 56 4)) d37_1 f37_35 rfl rfl rfl ?_
  exact w_iret d37_4 r37 ⟨_, rfl, k⟩
theorem E_Co_tapeLength {X : vX} {d : Nat} {M : vM} {Q : Option vV → vM → Prop} (k : vw X d 37 0 [vR 56] [] M Q) : cq X (d + 1) 37 [vR 56] M Q := wc_in (Nat.le_of_ble_eq_true rfl) (Nat.le_of_ble_eq_true rfl) k
theorem cd38 : vm_cd 38 = cX2_isFull := rfl
theorem d38_0 : decode (vm_cd 38) 0 = .ok (.aload_n 0, 1) := (congrArg (fun b => decode b 0) cd38).trans (by decide +kernel)
theorem d38_1 : decode (vm_cd 38) 1 = .ok (.getfield 31, 3) := (congrArg (fun b => decode b 1) cd38).trans (by decide +kernel)
theorem d38_4 : decode (vm_cd 38) 4 = .ok (.bipush 8, 2) := (congrArg (fun b => decode b 4) cd38).trans (by decide +kernel)
theorem d38_6 : decode (vm_cd 38) 6 = .ok (.if_icmp .lt 7, 3) := (congrArg (fun b => decode b 6) cd38).trans (by decide +kernel)
theorem d38_9 : decode (vm_cd 38) 9 = .ok (.iconst 1, 1) := (congrArg (fun b => decode b 9) cd38).trans (by decide +kernel)
theorem d38_10 : decode (vm_cd 38) 10 = .ok (.goto 4, 3) := (congrArg (fun b => decode b 10) cd38).trans (by decide +kernel)
theorem d38_13 : decode (vm_cd 38) 13 = .ok (.iconst 0, 1) := (congrArg (fun b => decode b 13) cd38).trans (by decide +kernel)
theorem d38_14 : decode (vm_cd 38) 14 = .ok (.ireturn, 1) := (congrArg (fun b => decode b 14) cd38).trans (by decide +kernel)
theorem f38_31 : vm_fl.lookup (vm_own 38, 31) = some (2, 5, 189) := by decide +kernel
theorem r38 : vm_rt 38 = (some .boolean) := by decide +kernel
theorem B_Co_isFull_0 {X : vX} {d : Nat} {M : vM} {Q : Option vV → vM → Prop}  (k1 : (M 56 5) < 8 → vw X d 38 13 [vR 56] [] M Q) (k2 : 8 ≤ (M 56 5) → vw X d 38 9 [vR 56] [] M Q) : vw X d 38 0 [vR 56] [] M Q := by
  refine w_aload_n d38_0 rfl ?_
  refine w_getf (a := 56) (v := vI (M 56 5)) d38_1 f38_31 rfl rfl rfl ?_
  refine w_bi (v := 8) d38_4 rfl ?_
  exact w_icmp_lt d38_6 rfl (fun h => k1 h) (fun h => k2 h)
theorem B_Co_isFull_9 {X : vX} {d : Nat} {M : vM} {Q : Option vV → vM → Prop}  (k : Q (some (vI 1)) M) : vw X d 38 9 [vR 56] [] M Q := by
  refine w_ic (v := 1) d38_9 rfl ?_
  refine w_goto (tgt := 14) d38_10 rfl ?_
  exact w_zret d38_14 r38 (by decide) ⟨_, rfl, k⟩
theorem B_Co_isFull_13 {X : vX} {d : Nat} {M : vM} {Q : Option vV → vM → Prop}  (k : Q (some (vI 0)) M) : vw X d 38 13 [vR 56] [] M Q := by
  refine w_ic (v := 0) d38_13 rfl ?_
  exact w_zret d38_14 r38 (by decide) ⟨_, rfl, k⟩
theorem E_Co_isFull {X : vX} {d : Nat} {M : vM} {Q : Option vV → vM → Prop} (k : vw X d 38 0 [vR 56] [] M Q) : cq X (d + 1) 38 [vR 56] M Q := wc_in (Nat.le_of_ble_eq_true rfl) (Nat.le_of_ble_eq_true rfl) k
theorem cd39 : vm_cd 39 = cX2_isContract := rfl
theorem d39_0 : decode (vm_cd 39) 0 = .ok (.iload_n 1, 1) := (congrArg (fun b => decode b 0) cd39).trans (by decide +kernel)
theorem d39_1 : decode (vm_cd 39) 1 = .ok (.ifCond .lt 15, 3) := (congrArg (fun b => decode b 1) cd39).trans (by decide +kernel)
theorem d39_4 : decode (vm_cd 39) 4 = .ok (.iload_n 1, 1) := (congrArg (fun b => decode b 4) cd39).trans (by decide +kernel)
theorem d39_5 : decode (vm_cd 39) 5 = .ok (.aload_n 0, 1) := (congrArg (fun b => decode b 5) cd39).trans (by decide +kernel)
theorem d39_6 : decode (vm_cd 39) 6 = .ok (.getfield 31, 3) := (congrArg (fun b => decode b 6) cd39).trans (by decide +kernel)
theorem d39_9 : decode (vm_cd 39) 9 = .ok (.if_icmp .ge 7, 3) := (congrArg (fun b => decode b 9) cd39).trans (by decide +kernel)
theorem d39_12 : decode (vm_cd 39) 12 = .ok (.iconst 1, 1) := (congrArg (fun b => decode b 12) cd39).trans (by decide +kernel)
theorem d39_13 : decode (vm_cd 39) 13 = .ok (.goto 4, 3) := (congrArg (fun b => decode b 13) cd39).trans (by decide +kernel)
theorem d39_16 : decode (vm_cd 39) 16 = .ok (.iconst 0, 1) := (congrArg (fun b => decode b 16) cd39).trans (by decide +kernel)
theorem d39_17 : decode (vm_cd 39) 17 = .ok (.ireturn, 1) := (congrArg (fun b => decode b 17) cd39).trans (by decide +kernel)
theorem f39_31 : vm_fl.lookup (vm_own 39, 31) = some (2, 5, 189) := by decide +kernel
theorem r39 : vm_rt 39 = (some .boolean) := by decide +kernel
theorem B_Co_isContract_0 {X : vX} {d : Nat} {M : vM} {Q : Option vV → vM → Prop} {l1 : Int}  (k1 : l1 < 0 → vw X d 39 16 [vR 56, vI l1] [] M Q) (k2 : 0 ≤ l1 → vw X d 39 4 [vR 56, vI l1] [] M Q) : vw X d 39 0 [vR 56, vI l1] [] M Q := by
  refine w_iload_n d39_0 rfl ?_
  exact w_if_lt d39_1 rfl (fun h => k1 h) (fun h => k2 h)
theorem B_Co_isContract_4 {X : vX} {d : Nat} {M : vM} {Q : Option vV → vM → Prop} {l1 : Int}  (k1 : (M 56 5) ≤ l1 → vw X d 39 16 [vR 56, vI l1] [] M Q) (k2 : l1 < (M 56 5) → vw X d 39 12 [vR 56, vI l1] [] M Q) : vw X d 39 4 [vR 56, vI l1] [] M Q := by
  refine w_iload_n d39_4 rfl ?_
  refine w_aload_n d39_5 rfl ?_
  refine w_getf (a := 56) (v := vI (M 56 5)) d39_6 f39_31 rfl rfl rfl ?_
  exact w_icmp_ge d39_9 rfl (fun h => k1 h) (fun h => k2 h)
theorem B_Co_isContract_12 {X : vX} {d : Nat} {M : vM} {Q : Option vV → vM → Prop} {l1 : Int}  (k : Q (some (vI 1)) M) : vw X d 39 12 [vR 56, vI l1] [] M Q := by
  refine w_ic (v := 1) d39_12 rfl ?_
  refine w_goto (tgt := 17) d39_13 rfl ?_
  exact w_zret d39_17 r39 (by decide) ⟨_, rfl, k⟩
theorem B_Co_isContract_16 {X : vX} {d : Nat} {M : vM} {Q : Option vV → vM → Prop} {l1 : Int}  (k : Q (some (vI 0)) M) : vw X d 39 16 [vR 56, vI l1] [] M Q := by
  refine w_ic (v := 0) d39_16 rfl ?_
  exact w_zret d39_17 r39 (by decide) ⟨_, rfl, k⟩
theorem E_Co_isContract {X : vX} {d : Nat} {M : vM} {Q : Option vV → vM → Prop} {l1 : Int} (k : vw X d 39 0 [vR 56, vI l1] [] M Q) : cq X (d + 1) 39 [vR 56, vI l1] M Q := wc_in (Nat.le_of_ble_eq_true rfl) (Nat.le_of_ble_eq_true rfl) k
theorem cd40 : vm_cd 40 = cX2_hasRoom := rfl
theorem d40_0 : decode (vm_cd 40) 0 = .ok (.aload_n 0, 1) := (congrArg (fun b => decode b 0) cd40).trans (by decide +kernel)
theorem d40_1 : decode (vm_cd 40) 1 = .ok (.getfield 35, 3) := (congrArg (fun b => decode b 1) cd40).trans (by decide +kernel)
theorem d40_4 : decode (vm_cd 40) 4 = .ok (.iload_n 1, 1) := (congrArg (fun b => decode b 4) cd40).trans (by decide +kernel)
theorem d40_5 : decode (vm_cd 40) 5 = .ok (.iadd, 1) := (congrArg (fun b => decode b 5) cd40).trans (by decide +kernel)
theorem d40_6 : decode (vm_cd 40) 6 = .ok (.bipush 120, 2) := (congrArg (fun b => decode b 6) cd40).trans (by decide +kernel)
theorem d40_8 : decode (vm_cd 40) 8 = .ok (.if_icmp .gt 7, 3) := (congrArg (fun b => decode b 8) cd40).trans (by decide +kernel)
theorem d40_11 : decode (vm_cd 40) 11 = .ok (.iconst 1, 1) := (congrArg (fun b => decode b 11) cd40).trans (by decide +kernel)
theorem d40_12 : decode (vm_cd 40) 12 = .ok (.goto 4, 3) := (congrArg (fun b => decode b 12) cd40).trans (by decide +kernel)
theorem d40_15 : decode (vm_cd 40) 15 = .ok (.iconst 0, 1) := (congrArg (fun b => decode b 15) cd40).trans (by decide +kernel)
theorem d40_16 : decode (vm_cd 40) 16 = .ok (.ireturn, 1) := (congrArg (fun b => decode b 16) cd40).trans (by decide +kernel)
theorem f40_35 : vm_fl.lookup (vm_own 40, 35) = some (2, 4, 188) := by decide +kernel
theorem r40 : vm_rt 40 = (some .boolean) := by decide +kernel
theorem B_Co_hasRoom_0 {X : vX} {d : Nat} {M : vM} {Q : Option vV → vM → Prop} {l1 : Int}  (k1 : 120 < (w32 ((M 56 4) + l1)) → vw X d 40 15 [vR 56, vI l1] [] M Q) (k2 : (w32 ((M 56 4) + l1)) ≤ 120 → vw X d 40 11 [vR 56, vI l1] [] M Q) : vw X d 40 0 [vR 56, vI l1] [] M Q := by
  refine w_aload_n d40_0 rfl ?_
  refine w_getf (a := 56) (v := vI (M 56 4)) d40_1 f40_35 rfl rfl rfl ?_
  refine w_iload_n d40_4 rfl ?_
  refine w_iadd d40_5 ?_
  refine w_bi (v := 120) d40_6 rfl ?_
  exact w_icmp_gt d40_8 rfl (fun h => k1 h) (fun h => k2 h)
theorem B_Co_hasRoom_11 {X : vX} {d : Nat} {M : vM} {Q : Option vV → vM → Prop} {l1 : Int}  (k : Q (some (vI 1)) M) : vw X d 40 11 [vR 56, vI l1] [] M Q := by
  refine w_ic (v := 1) d40_11 rfl ?_
  refine w_goto (tgt := 16) d40_12 rfl ?_
  exact w_zret d40_16 r40 (by decide) ⟨_, rfl, k⟩
theorem B_Co_hasRoom_15 {X : vX} {d : Nat} {M : vM} {Q : Option vV → vM → Prop} {l1 : Int}  (k : Q (some (vI 0)) M) : vw X d 40 15 [vR 56, vI l1] [] M Q := by
  refine w_ic (v := 0) d40_15 rfl ?_
  exact w_zret d40_16 r40 (by decide) ⟨_, rfl, k⟩
theorem E_Co_hasRoom {X : vX} {d : Nat} {M : vM} {Q : Option vV → vM → Prop} {l1 : Int} (k : vw X d 40 0 [vR 56, vI l1] [] M Q) : cq X (d + 1) 40 [vR 56, vI l1] M Q := wc_in (Nat.le_of_ble_eq_true rfl) (Nat.le_of_ble_eq_true rfl) k
theorem cd41 : vm_cd 41 = cX2_append := rfl
theorem d41_0 : decode (vm_cd 41) 0 = .ok (.iload_n 3, 1) := (congrArg (fun b => decode b 0) cd41).trans (by decide +kernel)
theorem d41_1 : decode (vm_cd 41) 1 = .ok (.iconst 1, 1) := (congrArg (fun b => decode b 1) cd41).trans (by decide +kernel)
theorem d41_2 : decode (vm_cd 41) 2 = .ok (.isub, 1) := (congrArg (fun b => decode b 2) cd41).trans (by decide +kernel)
theorem d41_3 : decode (vm_cd 41) 3 = .ok (.istore 4, 2) := (congrArg (fun b => decode b 3) cd41).trans (by decide +kernel)
theorem d41_5 : decode (vm_cd 41) 5 = .ok (.iload 4, 2) := (congrArg (fun b => decode b 5) cd41).trans (by decide +kernel)
theorem d41_7 : decode (vm_cd 41) 7 = .ok (.ifCond .lt 37, 3) := (congrArg (fun b => decode b 7) cd41).trans (by decide +kernel)
theorem d41_10 : decode (vm_cd 41) 10 = .ok (.aload_n 0, 1) := (congrArg (fun b => decode b 10) cd41).trans (by decide +kernel)
theorem d41_11 : decode (vm_cd 41) 11 = .ok (.getfield 11, 3) := (congrArg (fun b => decode b 11) cd41).trans (by decide +kernel)
theorem d41_14 : decode (vm_cd 41) 14 = .ok (.aload_n 0, 1) := (congrArg (fun b => decode b 14) cd41).trans (by decide +kernel)
theorem d41_15 : decode (vm_cd 41) 15 = .ok (.getfield 35, 3) := (congrArg (fun b => decode b 15) cd41).trans (by decide +kernel)
theorem d41_18 : decode (vm_cd 41) 18 = .ok (.lload_n 1, 1) := (congrArg (fun b => decode b 18) cd41).trans (by decide +kernel)
theorem d41_19 : decode (vm_cd 41) 19 = .ok (.bipush 8, 2) := (congrArg (fun b => decode b 19) cd41).trans (by decide +kernel)
theorem d41_21 : decode (vm_cd 41) 21 = .ok (.iload 4, 2) := (congrArg (fun b => decode b 21) cd41).trans (by decide +kernel)
theorem d41_23 : decode (vm_cd 41) 23 = .ok (.imul, 1) := (congrArg (fun b => decode b 23) cd41).trans (by decide +kernel)
theorem d41_24 : decode (vm_cd 41) 24 = .ok (.lushr, 1) := (congrArg (fun b => decode b 24) cd41).trans (by decide +kernel)
theorem d41_25 : decode (vm_cd 41) 25 = .ok (.l2i, 1) := (congrArg (fun b => decode b 25) cd41).trans (by decide +kernel)
theorem d41_26 : decode (vm_cd 41) 26 = .ok (.i2b, 1) := (congrArg (fun b => decode b 26) cd41).trans (by decide +kernel)
theorem d41_27 : decode (vm_cd 41) 27 = .ok (.bastore, 1) := (congrArg (fun b => decode b 27) cd41).trans (by decide +kernel)
theorem d41_28 : decode (vm_cd 41) 28 = .ok (.aload_n 0, 1) := (congrArg (fun b => decode b 28) cd41).trans (by decide +kernel)
theorem d41_29 : decode (vm_cd 41) 29 = .ok (.dup, 1) := (congrArg (fun b => decode b 29) cd41).trans (by decide +kernel)
theorem d41_30 : decode (vm_cd 41) 30 = .ok (.getfield 35, 3) := (congrArg (fun b => decode b 30) cd41).trans (by decide +kernel)
theorem d41_33 : decode (vm_cd 41) 33 = .ok (.iconst 1, 1) := (congrArg (fun b => decode b 33) cd41).trans (by decide +kernel)
theorem d41_34 : decode (vm_cd 41) 34 = .ok (.iadd, 1) := (congrArg (fun b => decode b 34) cd41).trans (by decide +kernel)
theorem d41_35 : decode (vm_cd 41) 35 = .ok (.putfield 35, 3) := (congrArg (fun b => decode b 35) cd41).trans (by decide +kernel)
theorem d41_38 : decode (vm_cd 41) 38 = .ok (.iinc 4 (-1), 3) := (congrArg (fun b => decode b 38) cd41).trans (by decide +kernel)
theorem d41_41 : decode (vm_cd 41) 41 = .ok (.goto (-36), 3) := (congrArg (fun b => decode b 41) cd41).trans (by decide +kernel)
theorem d41_44 : decode (vm_cd 41) 44 = .ok (.aload_n 0, 1) := (congrArg (fun b => decode b 44) cd41).trans (by decide +kernel)
theorem d41_45 : decode (vm_cd 41) 45 = .ok (.getfield 35, 3) := (congrArg (fun b => decode b 45) cd41).trans (by decide +kernel)
theorem d41_48 : decode (vm_cd 41) 48 = .ok (.ireturn, 1) := (congrArg (fun b => decode b 48) cd41).trans (by decide +kernel)
theorem f41_11 : vm_fl.lookup (vm_own 41, 11) = some (2, 0, 184) := by decide +kernel
theorem f41_35 : vm_fl.lookup (vm_own 41, 35) = some (2, 4, 188) := by decide +kernel
theorem r41 : vm_rt 41 = (some .int) := by decide +kernel
theorem B_Co_append_0 {X : vX} {d : Nat} {M : vM} {Q : Option vV → vM → Prop} {l1 l3 : Int}  (k : vw X d 41 5 [vR 56, vL l1, vN, vI l3, vI (w32 (l3 - 1))] [] M Q) : vw X d 41 0 [vR 56, vL l1, vN, vI l3, vN] [] M Q := by
  refine w_iload_n d41_0 rfl ?_
  refine w_ic (v := 1) d41_1 rfl ?_
  refine w_isub d41_2 ?_
  refine w_istoreE (ls' := [vR 56, vL l1, vN, vI l3, vI (w32 (l3 - 1))]) d41_3 (Nat.le_of_ble_eq_true rfl) rfl ?_
  exact k
theorem B_Co_append_5 {X : vX} {d : Nat} {M : vM} {Q : Option vV → vM → Prop} {l1 l3 l4 : Int}  (k1 : l4 < 0 → vw X d 41 44 [vR 56, vL l1, vN, vI l3, vI l4] [] M Q) (k2 : 0 ≤ l4 → vw X d 41 10 [vR 56, vL l1, vN, vI l3, vI l4] [] M Q) : vw X d 41 5 [vR 56, vL l1, vN, vI l3, vI l4] [] M Q := by
  refine w_iload d41_5 rfl ?_
  exact w_if_lt d41_7 rfl (fun h => k1 h) (fun h => k2 h)
theorem B_Co_append_10 {X : vX} {d : Nat} {M : vM} {Q : Option vV → vM → Prop} {l1 l3 l4 : Int} (hR : vRefs M) (h1 : 0 ≤ (M 56 4) ∧ (M 56 4) < (120 : Nat)) (k : vRefs (vm_up (vm_up M 57 (M 56 4).toNat (j_i2b (j_i2b (j_l2i (j_lushr l1 (w32 (8 * l4))))))) 56 4 (w32 (((vm_up M 57 (M 56 4).toNat (j_i2b (j_i2b (j_l2i (j_lushr l1 (w32 (8 * l4))))))) 56 4) + 1))) → vw X d 41 5 [vR 56, vL l1, vN, vI l3, vI (w32 (l4 + (-1)))] [] (vm_up (vm_up M 57 (M 56 4).toNat (j_i2b (j_i2b (j_l2i (j_lushr l1 (w32 (8 * l4))))))) 56 4 (w32 (((vm_up M 57 (M 56 4).toNat (j_i2b (j_i2b (j_l2i (j_lushr l1 (w32 (8 * l4))))))) 56 4) + 1))) Q) : vw X d 41 10 [vR 56, vL l1, vN, vI l3, vI l4] [] M Q := by
  refine w_aload_n d41_10 rfl ?_
  refine w_getf (a := 56) (v := vR 57) d41_11 f41_11 rfl rfl (congrArg vR (rf_56_0 hR)) ?_
  refine w_aload_n d41_14 rfl ?_
  refine w_getf (a := 56) (v := vI (M 56 4)) d41_15 f41_35 rfl rfl rfl ?_
  refine w_lload_n d41_18 rfl ?_
  refine w_bi (v := 8) d41_19 rfl ?_
  refine w_iload d41_21 rfl ?_
  refine w_imul d41_23 ?_
  refine w_lushr d41_24 ?_
  refine w_l2i d41_25 ?_
  refine w_i2b d41_26 ?_
  refine w_bast (a := 57) d41_27 rfl rfl h1 ?_
  refine w_aload_n d41_28 rfl ?_
  refine w_dup d41_29 rfl ?_
  refine w_getf (a := 56) (v := vI ((vm_up M 57 (M 56 4).toNat (j_i2b (j_i2b (j_l2i (j_lushr l1 (w32 (8 * l4))))))) 56 4)) d41_30 f41_35 rfl rfl rfl ?_
  refine w_ic (v := 1) d41_33 rfl ?_
  refine w_iadd d41_34 ?_
  refine w_putf (a := 56) (x := w32 (((vm_up M 57 (M 56 4).toNat (j_i2b (j_i2b (j_l2i (j_lushr l1 (w32 (8 * l4))))))) 56 4) + 1)) d41_35 f41_35 rfl rfl rfl (Or.inl rfl) ?_
  refine w_iincE (ls' := [vR 56, vL l1, vN, vI l3, vI (w32 (l4 + (-1)))]) d41_38 rfl rfl ?_
  refine w_goto (tgt := 5) d41_41 rfl ?_
  exact k (vRefs_up (vRefs_free hR ⟨by decide, by decide⟩) ⟨by decide, by decide⟩)
theorem B_Co_append_44 {X : vX} {d : Nat} {M : vM} {Q : Option vV → vM → Prop} {l1 l3 l4 : Int}  (k : Q (some (vI (M 56 4))) M) : vw X d 41 44 [vR 56, vL l1, vN, vI l3, vI l4] [] M Q := by
  refine w_aload_n d41_44 rfl ?_
  refine w_getf (a := 56) (v := vI (M 56 4)) d41_45 f41_35 rfl rfl rfl ?_
  exact w_iret d41_48 r41 ⟨_, rfl, k⟩
theorem E_Co_append {X : vX} {d : Nat} {M : vM} {Q : Option vV → vM → Prop} {l1 l3 : Int} (k : vw X d 41 0 [vR 56, vL l1, vN, vI l3, vN] [] M Q) : cq X (d + 1) 41 [vR 56, vL l1, vI l3] M Q := wc_in (Nat.le_of_ble_eq_true rfl) (Nat.le_of_ble_eq_true rfl) k
theorem cd42 : vm_cd 42 = cX2_readTape := rfl
theorem d42_0 : decode (vm_cd 42) 0 = .ok (.aload_n 0, 1) := (congrArg (fun b => decode b 0) cd42).trans (by decide +kernel)
theorem d42_1 : decode (vm_cd 42) 1 = .ok (.getfield 35, 3) := (congrArg (fun b => decode b 1) cd42).trans (by decide +kernel)
theorem d42_4 : decode (vm_cd 42) 4 = .ok (.istore_n 1, 1) := (congrArg (fun b => decode b 4) cd42).trans (by decide +kernel)
theorem d42_5 : decode (vm_cd 42) 5 = .ok (.aload_n 0, 1) := (congrArg (fun b => decode b 5) cd42).trans (by decide +kernel)
theorem d42_6 : decode (vm_cd 42) 6 = .ok (.iconst 0, 1) := (congrArg (fun b => decode b 6) cd42).trans (by decide +kernel)
theorem d42_7 : decode (vm_cd 42) 7 = .ok (.putfield 35, 3) := (congrArg (fun b => decode b 7) cd42).trans (by decide +kernel)
theorem d42_10 : decode (vm_cd 42) 10 = .ok (.aload_n 0, 1) := (congrArg (fun b => decode b 10) cd42).trans (by decide +kernel)
theorem d42_11 : decode (vm_cd 42) 11 = .ok (.getfield 27, 3) := (congrArg (fun b => decode b 11) cd42).trans (by decide +kernel)
theorem d42_14 : decode (vm_cd 42) 14 = .ok (.aload_n 0, 1) := (congrArg (fun b => decode b 14) cd42).trans (by decide +kernel)
theorem d42_15 : decode (vm_cd 42) 15 = .ok (.getfield 11, 3) := (congrArg (fun b => decode b 15) cd42).trans (by decide +kernel)
theorem d42_18 : decode (vm_cd 42) 18 = .ok (.iload_n 1, 1) := (congrArg (fun b => decode b 18) cd42).trans (by decide +kernel)
theorem d42_19 : decode (vm_cd 42) 19 = .ok (.iconst 0, 1) := (congrArg (fun b => decode b 19) cd42).trans (by decide +kernel)
theorem d42_20 : decode (vm_cd 42) 20 = .ok (.iconst 0, 1) := (congrArg (fun b => decode b 20) cd42).trans (by decide +kernel)
theorem d42_21 : decode (vm_cd 42) 21 = .ok (.invokevirtual 38, 3) := (congrArg (fun b => decode b 21) cd42).trans (by decide +kernel)
theorem d42_24 : decode (vm_cd 42) 24 = .ok (.pop2, 1) := (congrArg (fun b => decode b 24) cd42).trans (by decide +kernel)
theorem d42_25 : decode (vm_cd 42) 25 = .ok (.aload_n 0, 1) := (congrArg (fun b => decode b 25) cd42).trans (by decide +kernel)
theorem d42_26 : decode (vm_cd 42) 26 = .ok (.getfield 27, 3) := (congrArg (fun b => decode b 26) cd42).trans (by decide +kernel)
theorem d42_29 : decode (vm_cd 42) 29 = .ok (.invokevirtual 42, 3) := (congrArg (fun b => decode b 29) cd42).trans (by decide +kernel)
theorem d42_32 : decode (vm_cd 42) 32 = .ok (.ifCond .lt 14, 3) := (congrArg (fun b => decode b 32) cd42).trans (by decide +kernel)
theorem d42_35 : decode (vm_cd 42) 35 = .ok (.bipush (-10), 2) := (congrArg (fun b => decode b 35) cd42).trans (by decide +kernel)
theorem d42_37 : decode (vm_cd 42) 37 = .ok (.aload_n 0, 1) := (congrArg (fun b => decode b 37) cd42).trans (by decide +kernel)
theorem d42_38 : decode (vm_cd 42) 38 = .ok (.getfield 27, 3) := (congrArg (fun b => decode b 38) cd42).trans (by decide +kernel)
theorem d42_41 : decode (vm_cd 42) 41 = .ok (.invokevirtual 42, 3) := (congrArg (fun b => decode b 41) cd42).trans (by decide +kernel)
theorem d42_44 : decode (vm_cd 42) 44 = .ok (.isub, 1) := (congrArg (fun b => decode b 44) cd42).trans (by decide +kernel)
theorem d42_45 : decode (vm_cd 42) 45 = .ok (.ireturn, 1) := (congrArg (fun b => decode b 45) cd42).trans (by decide +kernel)
theorem d42_46 : decode (vm_cd 42) 46 = .ok (.aload_n 0, 1) := (congrArg (fun b => decode b 46) cd42).trans (by decide +kernel)
theorem d42_47 : decode (vm_cd 42) 47 = .ok (.getfield 11, 3) := (congrArg (fun b => decode b 47) cd42).trans (by decide +kernel)
theorem d42_50 : decode (vm_cd 42) 50 = .ok (.iconst 0, 1) := (congrArg (fun b => decode b 50) cd42).trans (by decide +kernel)
theorem d42_51 : decode (vm_cd 42) 51 = .ok (.aload_n 0, 1) := (congrArg (fun b => decode b 51) cd42).trans (by decide +kernel)
theorem d42_52 : decode (vm_cd 42) 52 = .ok (.getfield 17, 3) := (congrArg (fun b => decode b 52) cd42).trans (by decide +kernel)
theorem d42_55 : decode (vm_cd 42) 55 = .ok (.aload_n 0, 1) := (congrArg (fun b => decode b 55) cd42).trans (by decide +kernel)
theorem d42_56 : decode (vm_cd 42) 56 = .ok (.getfield 31, 3) := (congrArg (fun b => decode b 56) cd42).trans (by decide +kernel)
theorem d42_59 : decode (vm_cd 42) 59 = .ok (.aaload, 1) := (congrArg (fun b => decode b 59) cd42).trans (by decide +kernel)
theorem d42_60 : decode (vm_cd 42) 60 = .ok (.iconst 0, 1) := (congrArg (fun b => decode b 60) cd42).trans (by decide +kernel)
theorem d42_61 : decode (vm_cd 42) 61 = .ok (.iload_n 1, 1) := (congrArg (fun b => decode b 61) cd42).trans (by decide +kernel)
theorem d42_62 : decode (vm_cd 42) 62 = .ok (.invokestatic 46, 3) := (congrArg (fun b => decode b 62) cd42).trans (by decide +kernel)
theorem d42_65 : decode (vm_cd 42) 65 = .ok (.aload_n 0, 1) := (congrArg (fun b => decode b 65) cd42).trans (by decide +kernel)
theorem d42_66 : decode (vm_cd 42) 66 = .ok (.getfield 20, 3) := (congrArg (fun b => decode b 66) cd42).trans (by decide +kernel)
theorem d42_69 : decode (vm_cd 42) 69 = .ok (.aload_n 0, 1) := (congrArg (fun b => decode b 69) cd42).trans (by decide +kernel)
theorem d42_70 : decode (vm_cd 42) 70 = .ok (.getfield 31, 3) := (congrArg (fun b => decode b 70) cd42).trans (by decide +kernel)
theorem d42_73 : decode (vm_cd 42) 73 = .ok (.iload_n 1, 1) := (congrArg (fun b => decode b 73) cd42).trans (by decide +kernel)
theorem d42_74 : decode (vm_cd 42) 74 = .ok (.iastore, 1) := (congrArg (fun b => decode b 74) cd42).trans (by decide +kernel)
theorem d42_75 : decode (vm_cd 42) 75 = .ok (.aload_n 0, 1) := (congrArg (fun b => decode b 75) cd42).trans (by decide +kernel)
theorem d42_76 : decode (vm_cd 42) 76 = .ok (.dup, 1) := (congrArg (fun b => decode b 76) cd42).trans (by decide +kernel)
theorem d42_77 : decode (vm_cd 42) 77 = .ok (.getfield 31, 3) := (congrArg (fun b => decode b 77) cd42).trans (by decide +kernel)
theorem d42_80 : decode (vm_cd 42) 80 = .ok (.iconst 1, 1) := (congrArg (fun b => decode b 80) cd42).trans (by decide +kernel)
theorem d42_81 : decode (vm_cd 42) 81 = .ok (.iadd, 1) := (congrArg (fun b => decode b 81) cd42).trans (by decide +kernel)
theorem d42_82 : decode (vm_cd 42) 82 = .ok (.putfield 31, 3) := (congrArg (fun b => decode b 82) cd42).trans (by decide +kernel)
theorem d42_85 : decode (vm_cd 42) 85 = .ok (.aload_n 0, 1) := (congrArg (fun b => decode b 85) cd42).trans (by decide +kernel)
theorem d42_86 : decode (vm_cd 42) 86 = .ok (.getfield 31, 3) := (congrArg (fun b => decode b 86) cd42).trans (by decide +kernel)
theorem d42_89 : decode (vm_cd 42) 89 = .ok (.iconst 1, 1) := (congrArg (fun b => decode b 89) cd42).trans (by decide +kernel)
theorem d42_90 : decode (vm_cd 42) 90 = .ok (.isub, 1) := (congrArg (fun b => decode b 90) cd42).trans (by decide +kernel)
theorem d42_91 : decode (vm_cd 42) 91 = .ok (.ireturn, 1) := (congrArg (fun b => decode b 91) cd42).trans (by decide +kernel)
theorem f42_11 : vm_fl.lookup (vm_own 42, 11) = some (2, 0, 184) := by decide +kernel
theorem f42_17 : vm_fl.lookup (vm_own 42, 17) = some (2, 1, 185) := by decide +kernel
theorem f42_20 : vm_fl.lookup (vm_own 42, 20) = some (2, 2, 186) := by decide +kernel
theorem f42_27 : vm_fl.lookup (vm_own 42, 27) = some (2, 3, 187) := by decide +kernel
theorem f42_31 : vm_fl.lookup (vm_own 42, 31) = some (2, 5, 189) := by decide +kernel
theorem f42_35 : vm_fl.lookup (vm_own 42, 35) = some (2, 4, 188) := by decide +kernel
theorem c42_38 : vm_ml.lookup (vm_own 42, 38) = some (0, 70, 4, 769, 770, 844, 10) := vm_lk (by decide +kernel)
theorem c42_42 : vm_ml.lookup (vm_own 42, 42) = some (0, 69, 0, 835, 836, 910, 10) := vm_lk (by decide +kernel)
theorem c42_46 : vm_ml.lookup (vm_own 42, 46) = some (6, 0, 5, 839, 841, 840, 15) := vm_lk (by decide +kernel)
theorem r42 : vm_rt 42 = (some .int) := by decide +kernel
theorem B_Co_readTape_0 {X : vX} {d : Nat} {M : vM} {Q : Option vV → vM → Prop} (hR : vRefs M)  (k : vRefs (vm_up M 56 4 0) → cq X d 70 [vR 68, vR 57, vI (M 56 4), vI 0, vI 0] (vm_up M 56 4 0) (fun r M1 => wp X d 42 24 [vR 56, vI (M 56 4)] (r.toList ++ []) (vS0, M1) (vP Q))) : vw X d 42 0 [vR 56, vN] [] M Q := by
  refine w_aload_n d42_0 rfl ?_
  refine w_getf (a := 56) (v := vI (M 56 4)) d42_1 f42_35 rfl rfl rfl ?_
  refine w_istore_nE (ls' := [vR 56, vI (M 56 4)]) d42_4 (Nat.le_of_ble_eq_true rfl) rfl ?_
  refine w_aload_n d42_5 rfl ?_
  refine w_ic (v := 0) d42_6 rfl ?_
  refine w_putf (a := 56) (x := 0) d42_7 f42_35 rfl rfl rfl (Or.inl rfl) ?_
  refine w_aload_n d42_10 rfl ?_
  refine w_getf (a := 56) (v := vR 68) d42_11 f42_27 rfl rfl (congrArg vR (rf_56_3 (vRefs_up hR ⟨by decide, by decide⟩))) ?_
  refine w_aload_n d42_14 rfl ?_
  refine w_getf (a := 56) (v := vR 57) d42_15 f42_11 rfl rfl (congrArg vR (rf_56_0 (vRefs_up hR ⟨by decide, by decide⟩))) ?_
  refine w_iload_n d42_18 rfl ?_
  refine w_ic (v := 0) d42_19 rfl ?_
  refine w_ic (v := 0) d42_20 rfl ?_
  exact w_inv0 (a := 68) (c := 5) d42_21 c42_38 rfl rfl rfl v70 (Nat.le_of_ble_eq_true rfl) (cq.cl (k (vRefs_up hR ⟨by decide, by decide⟩)))
theorem B_Co_readTape_24 {X : vX} {d : Nat} {M : vM} {Q : Option vV → vM → Prop} {l1 s0 : Int} (hR : vRefs M)  (k : cq X d 69 [vR 68] M (fun r M1 => wp X d 42 32 [vR 56, vI l1] (r.toList ++ []) (vS0, M1) (vP Q))) : vw X d 42 24 [vR 56, vI l1] [vL s0] M Q := by
  refine w_pop2 d42_24 rfl ?_
  refine w_aload_n d42_25 rfl ?_
  refine w_getf (a := 56) (v := vR 68) d42_26 f42_27 rfl rfl (congrArg vR (rf_56_3 hR)) ?_
  exact w_inv0 (a := 68) (c := 5) d42_29 c42_42 rfl rfl rfl v69 (Nat.le_of_ble_eq_true rfl) (cq.cl (k))
theorem B_Co_readTape_32 {X : vX} {d : Nat} {M : vM} {Q : Option vV → vM → Prop} {l1 s0 : Int}  (k1 : s0 < 0 → vw X d 42 46 [vR 56, vI l1] [] M Q) (k2 : 0 ≤ s0 → vw X d 42 35 [vR 56, vI l1] [] M Q) : vw X d 42 32 [vR 56, vI l1] [vI s0] M Q := by
  exact w_if_lt d42_32 rfl (fun h => k1 h) (fun h => k2 h)
theorem B_Co_readTape_35 {X : vX} {d : Nat} {M : vM} {Q : Option vV → vM → Prop} {l1 : Int} (hR : vRefs M)  (k : cq X d 69 [vR 68] M (fun r M1 => wp X d 42 44 [vR 56, vI l1] (r.toList ++ [vI ((-10))]) (vS0, M1) (vP Q))) : vw X d 42 35 [vR 56, vI l1] [] M Q := by
  refine w_bi (v := (-10)) d42_35 rfl ?_
  refine w_aload_n d42_37 rfl ?_
  refine w_getf (a := 56) (v := vR 68) d42_38 f42_27 rfl rfl (congrArg vR (rf_56_3 hR)) ?_
  exact w_inv0 (a := 68) (c := 5) d42_41 c42_42 rfl rfl rfl v69 (Nat.le_of_ble_eq_true rfl) (cq.cl (k))
theorem B_Co_readTape_44 {X : vX} {d : Nat} {M : vM} {Q : Option vV → vM → Prop} {l1 s0 s1 : Int}  (k : Q (some (vI (w32 (s0 - s1)))) M) : vw X d 42 44 [vR 56, vI l1] [vI s1, vI s0] M Q := by
  refine w_isub d42_44 ?_
  exact w_iret d42_45 r42 ⟨_, rfl, k⟩
theorem B_Co_readTape_46 {X : vX} {d : Nat} {M : vM} {Q : Option vV → vM → Prop} {l1 : Int} (hR : vRefs M) (h1 : 0 ≤ (M 56 5) ∧ (M 56 5) < (8 : Nat)) (h2 : 0 ≤ (l1 : Int) ∧ 0 ≤ (0 : Int) ∧ 0 ≤ (0 : Int) ∧ (0 : Int) + (l1 : Int) ≤ (120 : Nat) ∧ (0 : Int) + (l1 : Int) ≤ (120 : Nat) ∧ vm_cats [] ≤ 8) (h3 : 0 ≤ ((vm_cpy M 57 ((59 + (M 56 5).toNat)) 0 0 l1.toNat) 56 5) ∧ ((vm_cpy M 57 ((59 + (M 56 5).toNat)) 0 0 l1.toNat) 56 5) < (8 : Nat)) (k : vRefs (vm_up (vm_up (vm_cpy M 57 ((59 + (M 56 5).toNat)) 0 0 l1.toNat) 67 ((vm_cpy M 57 ((59 + (M 56 5).toNat)) 0 0 l1.toNat) 56 5).toNat l1) 56 5 (w32 (((vm_up (vm_cpy M 57 ((59 + (M 56 5).toNat)) 0 0 l1.toNat) 67 ((vm_cpy M 57 ((59 + (M 56 5).toNat)) 0 0 l1.toNat) 56 5).toNat l1) 56 5) + 1))) → Q (some (vI (w32 (((vm_up (vm_up (vm_cpy M 57 ((59 + (M 56 5).toNat)) 0 0 l1.toNat) 67 ((vm_cpy M 57 ((59 + (M 56 5).toNat)) 0 0 l1.toNat) 56 5).toNat l1) 56 5 (w32 (((vm_up (vm_cpy M 57 ((59 + (M 56 5).toNat)) 0 0 l1.toNat) 67 ((vm_cpy M 57 ((59 + (M 56 5).toNat)) 0 0 l1.toNat) 56 5).toNat l1) 56 5) + 1))) 56 5) - 1)))) (vm_up (vm_up (vm_cpy M 57 ((59 + (M 56 5).toNat)) 0 0 l1.toNat) 67 ((vm_cpy M 57 ((59 + (M 56 5).toNat)) 0 0 l1.toNat) 56 5).toNat l1) 56 5 (w32 (((vm_up (vm_cpy M 57 ((59 + (M 56 5).toNat)) 0 0 l1.toNat) 67 ((vm_cpy M 57 ((59 + (M 56 5).toNat)) 0 0 l1.toNat) 56 5).toNat l1) 56 5) + 1)))) : vw X d 42 46 [vR 56, vI l1] [] M Q := by
  refine w_aload_n d42_46 rfl ?_
  refine w_getf (a := 56) (v := vR 57) d42_47 f42_11 rfl rfl (congrArg vR (rf_56_0 hR)) ?_
  refine w_ic (v := 0) d42_50 rfl ?_
  refine w_aload_n d42_51 rfl ?_
  refine w_getf (a := 56) (v := vR 58) d42_52 f42_17 rfl rfl (congrArg vR (rf_56_1 hR)) ?_
  refine w_aload_n d42_55 rfl ?_
  refine w_getf (a := 56) (v := vI (M 56 5)) d42_56 f42_31 rfl rfl rfl ?_
  refine w_aaldE (a := 58) (b := (59 + (M 56 5).toNat)) d42_59 rfl rfl (by decide) h1 (vrow_58 (i := (M 56 5)) hR h1) ?_
  refine w_ic (v := 0) d42_60 rfl ?_
  refine w_iload_n d42_61 rfl ?_
  refine w_copy (a0 := 57) (a1 := (59 + (M 56 5).toNat)) d42_62 c42_46 rfl rfl rfl (vrs_58 (i := (M 56 5)) h1) h2 ?_
  refine w_aload_n d42_65 rfl ?_
  refine w_getf (a := 56) (v := vR 67) d42_66 f42_20 rfl rfl (congrArg vR (rf_56_2 (vRefs_cpy hR (vfr_58 (i := (M 56 5)) h1)))) ?_
  refine w_aload_n d42_69 rfl ?_
  refine w_getf (a := 56) (v := vI ((vm_cpy M 57 ((59 + (M 56 5).toNat)) 0 0 l1.toNat) 56 5)) d42_70 f42_31 rfl rfl rfl ?_
  refine w_iload_n d42_73 rfl ?_
  refine w_iast (a := 67) d42_74 rfl rfl h3 ?_
  refine w_aload_n d42_75 rfl ?_
  refine w_dup d42_76 rfl ?_
  refine w_getf (a := 56) (v := vI ((vm_up (vm_cpy M 57 ((59 + (M 56 5).toNat)) 0 0 l1.toNat) 67 ((vm_cpy M 57 ((59 + (M 56 5).toNat)) 0 0 l1.toNat) 56 5).toNat l1) 56 5)) d42_77 f42_31 rfl rfl rfl ?_
  refine w_ic (v := 1) d42_80 rfl ?_
  refine w_iadd d42_81 ?_
  refine w_putf (a := 56) (x := w32 (((vm_up (vm_cpy M 57 ((59 + (M 56 5).toNat)) 0 0 l1.toNat) 67 ((vm_cpy M 57 ((59 + (M 56 5).toNat)) 0 0 l1.toNat) 56 5).toNat l1) 56 5) + 1)) d42_82 f42_31 rfl rfl rfl (Or.inl rfl) ?_
  refine w_aload_n d42_85 rfl ?_
  refine w_getf (a := 56) (v := vI ((vm_up (vm_up (vm_cpy M 57 ((59 + (M 56 5).toNat)) 0 0 l1.toNat) 67 ((vm_cpy M 57 ((59 + (M 56 5).toNat)) 0 0 l1.toNat) 56 5).toNat l1) 56 5 (w32 (((vm_up (vm_cpy M 57 ((59 + (M 56 5).toNat)) 0 0 l1.toNat) 67 ((vm_cpy M 57 ((59 + (M 56 5).toNat)) 0 0 l1.toNat) 56 5).toNat l1) 56 5) + 1))) 56 5)) d42_86 f42_31 rfl rfl rfl ?_
  refine w_ic (v := 1) d42_89 rfl ?_
  refine w_isub d42_90 ?_
  exact w_iret d42_91 r42 ⟨_, rfl, k (vRefs_up (vRefs_free (vRefs_cpy hR (vfr_58 (i := (M 56 5)) h1)) ⟨by decide, by decide⟩) ⟨by decide, by decide⟩)⟩
theorem E_Co_readTape {X : vX} {d : Nat} {M : vM} {Q : Option vV → vM → Prop} (k : vw X d 42 0 [vR 56, vN] [] M Q) : cq X (d + 1) 42 [vR 56] M Q := wc_in (Nat.le_of_ble_eq_true rfl) (Nat.le_of_ble_eq_true rfl) k
theorem cd43 : vm_cd 43 = cX2_paid := rfl
theorem d43_0 : decode (vm_cd 43) 0 = .ok (.aload_n 0, 1) := (congrArg (fun b => decode b 0) cd43).trans (by decide +kernel)
theorem d43_1 : decode (vm_cd 43) 1 = .ok (.getfield 27, 3) := (congrArg (fun b => decode b 1) cd43).trans (by decide +kernel)
theorem d43_4 : decode (vm_cd 43) 4 = .ok (.aload_n 0, 1) := (congrArg (fun b => decode b 4) cd43).trans (by decide +kernel)
theorem d43_5 : decode (vm_cd 43) 5 = .ok (.getfield 17, 3) := (congrArg (fun b => decode b 5) cd43).trans (by decide +kernel)
theorem d43_8 : decode (vm_cd 43) 8 = .ok (.iload_n 1, 1) := (congrArg (fun b => decode b 8) cd43).trans (by decide +kernel)
theorem d43_9 : decode (vm_cd 43) 9 = .ok (.aaload, 1) := (congrArg (fun b => decode b 9) cd43).trans (by decide +kernel)
theorem d43_10 : decode (vm_cd 43) 10 = .ok (.aload_n 0, 1) := (congrArg (fun b => decode b 10) cd43).trans (by decide +kernel)
theorem d43_11 : decode (vm_cd 43) 11 = .ok (.getfield 20, 3) := (congrArg (fun b => decode b 11) cd43).trans (by decide +kernel)
theorem d43_14 : decode (vm_cd 43) 14 = .ok (.iload_n 1, 1) := (congrArg (fun b => decode b 14) cd43).trans (by decide +kernel)
theorem d43_15 : decode (vm_cd 43) 15 = .ok (.iaload, 1) := (congrArg (fun b => decode b 15) cd43).trans (by decide +kernel)
theorem d43_16 : decode (vm_cd 43) 16 = .ok (.iload_n 2, 1) := (congrArg (fun b => decode b 16) cd43).trans (by decide +kernel)
theorem d43_17 : decode (vm_cd 43) 17 = .ok (.iload_n 3, 1) := (congrArg (fun b => decode b 17) cd43).trans (by decide +kernel)
theorem d43_18 : decode (vm_cd 43) 18 = .ok (.invokevirtual 38, 3) := (congrArg (fun b => decode b 18) cd43).trans (by decide +kernel)
theorem d43_21 : decode (vm_cd 43) 21 = .ok (.lstore 4, 2) := (congrArg (fun b => decode b 21) cd43).trans (by decide +kernel)
theorem d43_23 : decode (vm_cd 43) 23 = .ok (.lconst 0, 1) := (congrArg (fun b => decode b 23) cd43).trans (by decide +kernel)
theorem d43_24 : decode (vm_cd 43) 24 = .ok (.lload 4, 2) := (congrArg (fun b => decode b 24) cd43).trans (by decide +kernel)
theorem d43_26 : decode (vm_cd 43) 26 = .ok (.ldc2_w 52, 3) := (congrArg (fun b => decode b 26) cd43).trans (by decide +kernel)
theorem d43_29 : decode (vm_cd 43) 29 = .ok (.invokestatic 54, 3) := (congrArg (fun b => decode b 29) cd43).trans (by decide +kernel)
theorem d43_32 : decode (vm_cd 43) 32 = .ok (.invokestatic 60, 3) := (congrArg (fun b => decode b 32) cd43).trans (by decide +kernel)
theorem d43_35 : decode (vm_cd 43) 35 = .ok (.l2i, 1) := (congrArg (fun b => decode b 35) cd43).trans (by decide +kernel)
theorem d43_36 : decode (vm_cd 43) 36 = .ok (.ireturn, 1) := (congrArg (fun b => decode b 36) cd43).trans (by decide +kernel)
theorem f43_17 : vm_fl.lookup (vm_own 43, 17) = some (2, 1, 185) := by decide +kernel
theorem f43_20 : vm_fl.lookup (vm_own 43, 20) = some (2, 2, 186) := by decide +kernel
theorem f43_27 : vm_fl.lookup (vm_own 43, 27) = some (2, 3, 187) := by decide +kernel
theorem c43_38 : vm_ml.lookup (vm_own 43, 38) = some (0, 70, 4, 769, 770, 844, 10) := vm_lk (by decide +kernel)
theorem c43_54 : vm_ml.lookup (vm_own 43, 54) = some (1, 287, 2, 859, 815, 0, 3) := vm_lk (by decide +kernel)
theorem c43_60 : vm_ml.lookup (vm_own 43, 60) = some (1, 285, 2, 860, 818, 0, 3) := vm_lk (by decide +kernel)
theorem g43_52 : vm_cn.lookup (vm_own 43, 52) = some ((1), (999), (858)) := by decide +kernel
theorem r43 : vm_rt 43 = (some .int) := by decide +kernel
theorem B_Co_paid_0 {X : vX} {d : Nat} {M : vM} {Q : Option vV → vM → Prop} {l1 l2 l3 : Int} (hR : vRefs M) (h1 : 0 ≤ l1 ∧ l1 < (8 : Nat)) (h2 : 0 ≤ l1 ∧ l1 < (8 : Nat)) (k : cq X d 70 [vR 68, vR ((59 + l1.toNat : Nat) : Int), vI (M 67 l1.toNat), vI l2, vI l3] M (fun r M1 => wp X d 43 21 [vR 56, vI l1, vI l2, vI l3, vN, vN] (r.toList ++ []) (vS0, M1) (vP Q))) : vw X d 43 0 [vR 56, vI l1, vI l2, vI l3, vN, vN] [] M Q := by
  refine w_aload_n d43_0 rfl ?_
  refine w_getf (a := 56) (v := vR 68) d43_1 f43_27 rfl rfl (congrArg vR (rf_56_3 hR)) ?_
  refine w_aload_n d43_4 rfl ?_
  refine w_getf (a := 56) (v := vR 58) d43_5 f43_17 rfl rfl (congrArg vR (rf_56_1 hR)) ?_
  refine w_iload_n d43_8 rfl ?_
  refine w_aaldE (a := 58) (b := (59 + l1.toNat)) d43_9 rfl rfl (by decide) h1 (vrow_58 (i := l1) hR h1) ?_
  refine w_aload_n d43_10 rfl ?_
  refine w_getf (a := 56) (v := vR 67) d43_11 f43_20 rfl rfl (congrArg vR (rf_56_2 hR)) ?_
  refine w_iload_n d43_14 rfl ?_
  refine w_iaload (a := 67) d43_15 rfl rfl h2 ?_
  refine w_iload_n d43_16 rfl ?_
  refine w_iload_n d43_17 rfl ?_
  exact w_inv0 (a := 68) (c := 5) d43_18 c43_38 rfl rfl rfl v70 (Nat.le_of_ble_eq_true rfl) (cq.cl (k))
theorem B_Co_paid_21 {X : vX} {d : Nat} {M : vM} {Q : Option vV → vM → Prop} {l1 l2 l3 s0 : Int}  (k : cq X d 287 [vL s0, vL 999] M (fun r M1 => wp X d 43 32 [vR 56, vI l1, vI l2, vI l3, vL s0, vN] (r.toList ++ [vL 0]) (vS0, M1) (vP Q))) : vw X d 43 21 [vR 56, vI l1, vI l2, vI l3, vN, vN] [vL s0] M Q := by
  refine w_lstoreE (ls' := [vR 56, vI l1, vI l2, vI l3, vL s0, vN]) d43_21 (Nat.le_of_ble_eq_true rfl) rfl ?_
  refine w_lc (v := 0) d43_23 rfl ?_
  refine w_lload d43_24 rfl ?_
  refine w_ldc2_w (v := 999) d43_26 g43_52 rfl ?_
  exact w_inv1 d43_29 c43_54 (by decide) rfl (Nat.le_of_ble_eq_true rfl) (cq.cl (k))
theorem B_Co_paid_32 {X : vX} {d : Nat} {M : vM} {Q : Option vV → vM → Prop} {l1 l2 l3 l4 s0 s1 : Int}  (k : cq X d 285 [vL s0, vL s1] M (fun r M1 => wp X d 43 35 [vR 56, vI l1, vI l2, vI l3, vL l4, vN] (r.toList ++ []) (vS0, M1) (vP Q))) : vw X d 43 32 [vR 56, vI l1, vI l2, vI l3, vL l4, vN] [vL s1, vL s0] M Q := by
  exact w_inv1 d43_32 c43_60 (by decide) rfl (Nat.le_of_ble_eq_true rfl) (cq.cl (k))
theorem B_Co_paid_35 {X : vX} {d : Nat} {M : vM} {Q : Option vV → vM → Prop} {l1 l2 l3 l4 s0 : Int}  (k : Q (some (vI (j_l2i s0))) M) : vw X d 43 35 [vR 56, vI l1, vI l2, vI l3, vL l4, vN] [vL s0] M Q := by
  refine w_l2i d43_35 ?_
  exact w_iret d43_36 r43 ⟨_, rfl, k⟩
theorem E_Co_paid {X : vX} {d : Nat} {M : vM} {Q : Option vV → vM → Prop} {l1 l2 l3 : Int} (k : vw X d 43 0 [vR 56, vI l1, vI l2, vI l3, vN, vN] [] M Q) : cq X (d + 1) 43 [vR 56, vI l1, vI l2, vI l3] M Q := wc_in (Nat.le_of_ble_eq_true rfl) (Nat.le_of_ble_eq_true rfl) k
theorem cd54 : vm_cd 54 = cX4_isCostOrChance := rfl
theorem d54_0 : decode (vm_cd 54) 0 = .ok (.iload_n 0, 1) := (congrArg (fun b => decode b 0) cd54).trans (by decide +kernel)
theorem d54_1 : decode (vm_cd 54) 1 = .ok (.iconst 0, 1) := (congrArg (fun b => decode b 1) cd54).trans (by decide +kernel)
theorem d54_2 : decode (vm_cd 54) 2 = .ok (.bipush 12, 2) := (congrArg (fun b => decode b 2) cd54).trans (by decide +kernel)
theorem d54_4 : decode (vm_cd 54) 4 = .ok (.invokestatic 32, 3) := (congrArg (fun b => decode b 4) cd54).trans (by decide +kernel)
theorem d54_7 : decode (vm_cd 54) 7 = .ok (.ireturn, 1) := (congrArg (fun b => decode b 7) cd54).trans (by decide +kernel)
theorem c54_32 : vm_ml.lookup (vm_own 54, 32) = some (3, 179, 3, 572, 292, 0, 1) := vm_lk (by decide +kernel)
theorem r54 : vm_rt 54 = (some .boolean) := by decide +kernel
theorem B_Pr_isCostOrChance_0 {X : vX} {d : Nat} {M : vM} {Q : Option vV → vM → Prop} {l0 : Int}  (k : cq X d 179 [vI l0, vI 0, vI 12] M (fun r M1 => wp X d 54 7 [vI l0] (r.toList ++ []) (vS0, M1) (vP Q))) : vw X d 54 0 [vI l0] [] M Q := by
  refine w_iload_n d54_0 rfl ?_
  refine w_ic (v := 0) d54_1 rfl ?_
  refine w_bi (v := 12) d54_2 rfl ?_
  exact w_inv1 d54_4 c54_32 (by decide) rfl (Nat.le_of_ble_eq_true rfl) (cq.cl (k))
theorem B_Pr_isCostOrChance_7 {X : vX} {d : Nat} {M : vM} {Q : Option vV → vM → Prop} {l0 s0 : Int} (h1 : s0 = 0 ∨ s0 = 1) (k : Q (some (vI s0)) M) : vw X d 54 7 [vI l0] [vI s0] M Q := by
  exact w_zret d54_7 r54 h1 ⟨_, rfl, k⟩
theorem E_Pr_isCostOrChance {X : vX} {d : Nat} {M : vM} {Q : Option vV → vM → Prop} {l0 : Int} (k : vw X d 54 0 [vI l0] [] M Q) : cq X (d + 1) 54 [vI l0] M Q := wc_in (Nat.le_of_ble_eq_true rfl) (Nat.le_of_ble_eq_true rfl) k
theorem cd55 : vm_cd 55 = cX4_isTerm := rfl
theorem d55_0 : decode (vm_cd 55) 0 = .ok (.iload_n 0, 1) := (congrArg (fun b => decode b 0) cd55).trans (by decide +kernel)
theorem d55_1 : decode (vm_cd 55) 1 = .ok (.iconst 1, 1) := (congrArg (fun b => decode b 1) cd55).trans (by decide +kernel)
theorem d55_2 : decode (vm_cd 55) 2 = .ok (.bipush 6, 2) := (congrArg (fun b => decode b 2) cd55).trans (by decide +kernel)
theorem d55_4 : decode (vm_cd 55) 4 = .ok (.invokestatic 32, 3) := (congrArg (fun b => decode b 4) cd55).trans (by decide +kernel)
theorem d55_7 : decode (vm_cd 55) 7 = .ok (.ireturn, 1) := (congrArg (fun b => decode b 7) cd55).trans (by decide +kernel)
theorem c55_32 : vm_ml.lookup (vm_own 55, 32) = some (3, 179, 3, 572, 292, 0, 1) := vm_lk (by decide +kernel)
theorem r55 : vm_rt 55 = (some .boolean) := by decide +kernel
theorem B_Pr_isTerm_0 {X : vX} {d : Nat} {M : vM} {Q : Option vV → vM → Prop} {l0 : Int}  (k : cq X d 179 [vI l0, vI 1, vI 6] M (fun r M1 => wp X d 55 7 [vI l0] (r.toList ++ []) (vS0, M1) (vP Q))) : vw X d 55 0 [vI l0] [] M Q := by
  refine w_iload_n d55_0 rfl ?_
  refine w_ic (v := 1) d55_1 rfl ?_
  refine w_bi (v := 6) d55_2 rfl ?_
  exact w_inv1 d55_4 c55_32 (by decide) rfl (Nat.le_of_ble_eq_true rfl) (cq.cl (k))
theorem B_Pr_isTerm_7 {X : vX} {d : Nat} {M : vM} {Q : Option vV → vM → Prop} {l0 s0 : Int} (h1 : s0 = 0 ∨ s0 = 1) (k : Q (some (vI s0)) M) : vw X d 55 7 [vI l0] [vI s0] M Q := by
  exact w_zret d55_7 r55 h1 ⟨_, rfl, k⟩
theorem E_Pr_isTerm {X : vX} {d : Nat} {M : vM} {Q : Option vV → vM → Prop} {l0 : Int} (k : vw X d 55 0 [vI l0] [] M Q) : cq X (d + 1) 55 [vI l0] M Q := wc_in (Nat.le_of_ble_eq_true rfl) (Nat.le_of_ble_eq_true rfl) k
theorem cd56 : vm_cd 56 = cX4_isPromise := rfl
theorem d56_0 : decode (vm_cd 56) 0 = .ok (.iload_n 0, 1) := (congrArg (fun b => decode b 0) cd56).trans (by decide +kernel)
theorem d56_1 : decode (vm_cd 56) 1 = .ok (.iconst 0, 1) := (congrArg (fun b => decode b 1) cd56).trans (by decide +kernel)
theorem d56_2 : decode (vm_cd 56) 2 = .ok (.bipush 12, 2) := (congrArg (fun b => decode b 2) cd56).trans (by decide +kernel)
theorem d56_4 : decode (vm_cd 56) 4 = .ok (.invokestatic 32, 3) := (congrArg (fun b => decode b 4) cd56).trans (by decide +kernel)
theorem d56_7 : decode (vm_cd 56) 7 = .ok (.ireturn, 1) := (congrArg (fun b => decode b 7) cd56).trans (by decide +kernel)
theorem c56_32 : vm_ml.lookup (vm_own 56, 32) = some (3, 179, 3, 572, 292, 0, 1) := vm_lk (by decide +kernel)
theorem r56 : vm_rt 56 = (some .boolean) := by decide +kernel
theorem B_Pr_isPromise_0 {X : vX} {d : Nat} {M : vM} {Q : Option vV → vM → Prop} {l0 : Int}  (k : cq X d 179 [vI l0, vI 0, vI 12] M (fun r M1 => wp X d 56 7 [vI l0] (r.toList ++ []) (vS0, M1) (vP Q))) : vw X d 56 0 [vI l0] [] M Q := by
  refine w_iload_n d56_0 rfl ?_
  refine w_ic (v := 0) d56_1 rfl ?_
  refine w_bi (v := 12) d56_2 rfl ?_
  exact w_inv1 d56_4 c56_32 (by decide) rfl (Nat.le_of_ble_eq_true rfl) (cq.cl (k))
theorem B_Pr_isPromise_7 {X : vX} {d : Nat} {M : vM} {Q : Option vV → vM → Prop} {l0 s0 : Int} (h1 : s0 = 0 ∨ s0 = 1) (k : Q (some (vI s0)) M) : vw X d 56 7 [vI l0] [vI s0] M Q := by
  exact w_zret d56_7 r56 h1 ⟨_, rfl, k⟩
theorem E_Pr_isPromise {X : vX} {d : Nat} {M : vM} {Q : Option vV → vM → Prop} {l0 : Int} (k : vw X d 56 0 [vI l0] [] M Q) : cq X (d + 1) 56 [vI l0] M Q := wc_in (Nat.le_of_ble_eq_true rfl) (Nat.le_of_ble_eq_true rfl) k
theorem cd57 : vm_cd 57 = cX4_set := rfl
theorem d57_0 : decode (vm_cd 57) 0 = .ok (.aload_n 0, 1) := (congrArg (fun b => decode b 0) cd57).trans (by decide +kernel)
theorem d57_1 : decode (vm_cd 57) 1 = .ok (.getfield 11, 3) := (congrArg (fun b => decode b 1) cd57).trans (by decide +kernel)
theorem d57_4 : decode (vm_cd 57) 4 = .ok (.iconst 0, 1) := (congrArg (fun b => decode b 4) cd57).trans (by decide +kernel)
theorem d57_5 : decode (vm_cd 57) 5 = .ok (.iload_n 1, 1) := (congrArg (fun b => decode b 5) cd57).trans (by decide +kernel)
theorem d57_6 : decode (vm_cd 57) 6 = .ok (.iastore, 1) := (congrArg (fun b => decode b 6) cd57).trans (by decide +kernel)
theorem d57_7 : decode (vm_cd 57) 7 = .ok (.aload_n 0, 1) := (congrArg (fun b => decode b 7) cd57).trans (by decide +kernel)
theorem d57_8 : decode (vm_cd 57) 8 = .ok (.getfield 11, 3) := (congrArg (fun b => decode b 8) cd57).trans (by decide +kernel)
theorem d57_11 : decode (vm_cd 57) 11 = .ok (.iconst 1, 1) := (congrArg (fun b => decode b 11) cd57).trans (by decide +kernel)
theorem d57_12 : decode (vm_cd 57) 12 = .ok (.iload_n 2, 1) := (congrArg (fun b => decode b 12) cd57).trans (by decide +kernel)
theorem d57_13 : decode (vm_cd 57) 13 = .ok (.iastore, 1) := (congrArg (fun b => decode b 13) cd57).trans (by decide +kernel)
theorem d57_14 : decode (vm_cd 57) 14 = .ok (.aload_n 0, 1) := (congrArg (fun b => decode b 14) cd57).trans (by decide +kernel)
theorem d57_15 : decode (vm_cd 57) 15 = .ok (.getfield 15, 3) := (congrArg (fun b => decode b 15) cd57).trans (by decide +kernel)
theorem d57_18 : decode (vm_cd 57) 18 = .ok (.iconst 0, 1) := (congrArg (fun b => decode b 18) cd57).trans (by decide +kernel)
theorem d57_19 : decode (vm_cd 57) 19 = .ok (.iload_n 3, 1) := (congrArg (fun b => decode b 19) cd57).trans (by decide +kernel)
theorem d57_20 : decode (vm_cd 57) 20 = .ok (.iastore, 1) := (congrArg (fun b => decode b 20) cd57).trans (by decide +kernel)
theorem d57_21 : decode (vm_cd 57) 21 = .ok (.aload_n 0, 1) := (congrArg (fun b => decode b 21) cd57).trans (by decide +kernel)
theorem d57_22 : decode (vm_cd 57) 22 = .ok (.getfield 15, 3) := (congrArg (fun b => decode b 22) cd57).trans (by decide +kernel)
theorem d57_25 : decode (vm_cd 57) 25 = .ok (.iconst 1, 1) := (congrArg (fun b => decode b 25) cd57).trans (by decide +kernel)
theorem d57_26 : decode (vm_cd 57) 26 = .ok (.iload 4, 2) := (congrArg (fun b => decode b 26) cd57).trans (by decide +kernel)
theorem d57_28 : decode (vm_cd 57) 28 = .ok (.iastore, 1) := (congrArg (fun b => decode b 28) cd57).trans (by decide +kernel)
theorem d57_29 : decode (vm_cd 57) 29 = .ok (.aload_n 0, 1) := (congrArg (fun b => decode b 29) cd57).trans (by decide +kernel)
theorem d57_30 : decode (vm_cd 57) 30 = .ok (.iload 5, 2) := (congrArg (fun b => decode b 30) cd57).trans (by decide +kernel)
theorem d57_32 : decode (vm_cd 57) 32 = .ok (.putfield 28, 3) := (congrArg (fun b => decode b 32) cd57).trans (by decide +kernel)
theorem d57_35 : decode (vm_cd 57) 35 = .ok (.aload_n 0, 1) := (congrArg (fun b => decode b 35) cd57).trans (by decide +kernel)
theorem d57_36 : decode (vm_cd 57) 36 = .ok (.iconst 0, 1) := (congrArg (fun b => decode b 36) cd57).trans (by decide +kernel)
theorem d57_37 : decode (vm_cd 57) 37 = .ok (.putfield 36, 3) := (congrArg (fun b => decode b 37) cd57).trans (by decide +kernel)
theorem d57_40 : decode (vm_cd 57) 40 = .ok (.return_, 1) := (congrArg (fun b => decode b 40) cd57).trans (by decide +kernel)
theorem f57_11 : vm_fl.lookup (vm_own 57, 11) = some (4, 0, 96) := by decide +kernel
theorem f57_15 : vm_fl.lookup (vm_own 57, 15) = some (4, 1, 97) := by decide +kernel
theorem f57_28 : vm_fl.lookup (vm_own 57, 28) = some (4, 4, 100) := by decide +kernel
theorem f57_36 : vm_fl.lookup (vm_own 57, 36) = some (4, 5, 101) := by decide +kernel
theorem r57 : vm_rt 57 = none := by decide +kernel
theorem B_Pr_set_0 {X : vX} {d : Nat} {M : vM} {Q : Option vV → vM → Prop} {l1 l2 l3 l4 l5 : Int} (hR : vRefs M)  (k : vRefs (vm_up (vm_up (vm_up (vm_up (vm_up (vm_up M 31 0 l1) 31 1 l2) 32 0 l3) 32 1 l4) 30 4 l5) 30 5 0) → Q none (vm_up (vm_up (vm_up (vm_up (vm_up (vm_up M 31 0 l1) 31 1 l2) 32 0 l3) 32 1 l4) 30 4 l5) 30 5 0)) : vw X d 57 0 [vR 30, vI l1, vI l2, vI l3, vI l4, vI l5] [] M Q := by
  refine w_aload_n d57_0 rfl ?_
  refine w_getf (a := 30) (v := vR 31) d57_1 f57_11 rfl rfl (congrArg vR (rf_30_0 hR)) ?_
  refine w_ic (v := 0) d57_4 rfl ?_
  refine w_iload_n d57_5 rfl ?_
  refine w_iast (a := 31) d57_6 rfl rfl ⟨by decide, by decide⟩ ?_
  refine w_aload_n d57_7 rfl ?_
  refine w_getf (a := 30) (v := vR 31) d57_8 f57_11 rfl rfl (congrArg vR (rf_30_0 (vRefs_free hR ⟨by decide, by decide⟩))) ?_
  refine w_ic (v := 1) d57_11 rfl ?_
  refine w_iload_n d57_12 rfl ?_
  refine w_iast (a := 31) d57_13 rfl rfl ⟨by decide, by decide⟩ ?_
  refine w_aload_n d57_14 rfl ?_
  refine w_getf (a := 30) (v := vR 32) d57_15 f57_15 rfl rfl (congrArg vR (rf_30_1 (vRefs_free (vRefs_free hR ⟨by decide, by decide⟩) ⟨by decide, by decide⟩))) ?_
  refine w_ic (v := 0) d57_18 rfl ?_
  refine w_iload_n d57_19 rfl ?_
  refine w_iast (a := 32) d57_20 rfl rfl ⟨by decide, by decide⟩ ?_
  refine w_aload_n d57_21 rfl ?_
  refine w_getf (a := 30) (v := vR 32) d57_22 f57_15 rfl rfl (congrArg vR (rf_30_1 (vRefs_free (vRefs_free (vRefs_free hR ⟨by decide, by decide⟩) ⟨by decide, by decide⟩) ⟨by decide, by decide⟩))) ?_
  refine w_ic (v := 1) d57_25 rfl ?_
  refine w_iload d57_26 rfl ?_
  refine w_iast (a := 32) d57_28 rfl rfl ⟨by decide, by decide⟩ ?_
  refine w_aload_n d57_29 rfl ?_
  refine w_iload d57_30 rfl ?_
  refine w_putf (a := 30) (x := l5) d57_32 f57_28 rfl rfl rfl (Or.inl rfl) ?_
  refine w_aload_n d57_35 rfl ?_
  refine w_ic (v := 0) d57_36 rfl ?_
  refine w_putf (a := 30) (x := 0) d57_37 f57_36 rfl rfl rfl (Or.inl rfl) ?_
  exact w_vret d57_40 r57 ⟨_, rfl, k (vRefs_up (vRefs_up (vRefs_free (vRefs_free (vRefs_free (vRefs_free hR ⟨by decide, by decide⟩) ⟨by decide, by decide⟩) ⟨by decide, by decide⟩) ⟨by decide, by decide⟩) ⟨by decide, by decide⟩) ⟨by decide, by decide⟩)⟩
theorem E_Pr_set {X : vX} {d : Nat} {M : vM} {Q : Option vV → vM → Prop} {l1 l2 l3 l4 l5 : Int} (k : vw X d 57 0 [vR 30, vI l1, vI l2, vI l3, vI l4, vI l5] [] M Q) : cq X (d + 1) 57 [vR 30, vI l1, vI l2, vI l3, vI l4, vI l5] M Q := wc_in (Nat.le_of_ble_eq_true rfl) (Nat.le_of_ble_eq_true rfl) k
theorem cd58 : vm_cd 58 = cX4_sum := rfl
theorem d58_0 : decode (vm_cd 58) 0 = .ok (.aload_n 0, 1) := (congrArg (fun b => decode b 0) cd58).trans (by decide +kernel)
theorem d58_1 : decode (vm_cd 58) 1 = .ok (.invokevirtual 40, 3) := (congrArg (fun b => decode b 1) cd58).trans (by decide +kernel)
theorem d58_4 : decode (vm_cd 58) 4 = .ok (.aload_n 0, 1) := (congrArg (fun b => decode b 4) cd58).trans (by decide +kernel)
theorem d58_5 : decode (vm_cd 58) 5 = .ok (.getfield 20, 3) := (congrArg (fun b => decode b 5) cd58).trans (by decide +kernel)
theorem d58_8 : decode (vm_cd 58) 8 = .ok (.iload_n 1, 1) := (congrArg (fun b => decode b 8) cd58).trans (by decide +kernel)
theorem d58_9 : decode (vm_cd 58) 9 = .ok (.aaload, 1) := (congrArg (fun b => decode b 9) cd58).trans (by decide +kernel)
theorem d58_10 : decode (vm_cd 58) 10 = .ok (.iload_n 2, 1) := (congrArg (fun b => decode b 10) cd58).trans (by decide +kernel)
theorem d58_11 : decode (vm_cd 58) 11 = .ok (.laload, 1) := (congrArg (fun b => decode b 11) cd58).trans (by decide +kernel)
theorem d58_12 : decode (vm_cd 58) 12 = .ok (.lreturn, 1) := (congrArg (fun b => decode b 12) cd58).trans (by decide +kernel)
theorem f58_20 : vm_fl.lookup (vm_own 58, 20) = some (4, 2, 98) := by decide +kernel
theorem c58_40 : vm_ml.lookup (vm_own 58, 40) = some (0, 61, 0, 591, 593, 11, 6) := vm_lk (by decide +kernel)
theorem r58 : vm_rt 58 = (some .long) := by decide +kernel
theorem B_Pr_sum_0 {X : vX} {d : Nat} {M : vM} {Q : Option vV → vM → Prop} {l1 l2 : Int}  (k : cq X d 61 [vR 30] M (fun r M1 => wp X d 58 4 [vR 30, vI l1, vI l2] (r.toList ++ []) (vS0, M1) (vP Q))) : vw X d 58 0 [vR 30, vI l1, vI l2] [] M Q := by
  refine w_aload_n d58_0 rfl ?_
  exact w_inv0 (a := 30) (c := 4) d58_1 c58_40 rfl rfl rfl v61 (Nat.le_of_ble_eq_true rfl) (cq.cl (k))
theorem B_Pr_sum_4 {X : vX} {d : Nat} {M : vM} {Q : Option vV → vM → Prop} {l1 l2 : Int} (hR : vRefs M) (h1 : 0 ≤ l1 ∧ l1 < (7 : Nat)) (h2 : 0 ≤ l2 ∧ l2 < (13 : Nat)) (k : Q (some (vL (M ((34 + l1.toNat)) l2.toNat))) M) : vw X d 58 4 [vR 30, vI l1, vI l2] [] M Q := by
  refine w_aload_n d58_4 rfl ?_
  refine w_getf (a := 30) (v := vR 33) d58_5 f58_20 rfl rfl (congrArg vR (rf_30_2 hR)) ?_
  refine w_iload_n d58_8 rfl ?_
  refine w_aaldE (a := 33) (b := (34 + l1.toNat)) d58_9 rfl rfl (by decide) h1 (vrow_33 (i := l1) hR h1) ?_
  refine w_iload_n d58_10 rfl ?_
  refine w_laload (a := (34 + l1.toNat)) d58_11 rfl (vrs_33 (i := l1) h1) h2 ?_
  exact w_lret d58_12 r58 ⟨_, rfl, k⟩
theorem E_Pr_sum {X : vX} {d : Nat} {M : vM} {Q : Option vV → vM → Prop} {l1 l2 : Int} (k : vw X d 58 0 [vR 30, vI l1, vI l2] [] M Q) : cq X (d + 1) 58 [vR 30, vI l1, vI l2] M Q := wc_in (Nat.le_of_ble_eq_true rfl) (Nat.le_of_ble_eq_true rfl) k
theorem cd59 : vm_cd 59 = cX4_plan := rfl
theorem d59_0 : decode (vm_cd 59) 0 = .ok (.aload_n 0, 1) := (congrArg (fun b => decode b 0) cd59).trans (by decide +kernel)
theorem d59_1 : decode (vm_cd 59) 1 = .ok (.invokevirtual 40, 3) := (congrArg (fun b => decode b 1) cd59).trans (by decide +kernel)
theorem d59_4 : decode (vm_cd 59) 4 = .ok (.aload_n 0, 1) := (congrArg (fun b => decode b 4) cd59).trans (by decide +kernel)
theorem d59_5 : decode (vm_cd 59) 5 = .ok (.getfield 25, 3) := (congrArg (fun b => decode b 5) cd59).trans (by decide +kernel)
theorem d59_8 : decode (vm_cd 59) 8 = .ok (.iload_n 1, 1) := (congrArg (fun b => decode b 8) cd59).trans (by decide +kernel)
theorem d59_9 : decode (vm_cd 59) 9 = .ok (.aaload, 1) := (congrArg (fun b => decode b 9) cd59).trans (by decide +kernel)
theorem d59_10 : decode (vm_cd 59) 10 = .ok (.iload_n 2, 1) := (congrArg (fun b => decode b 10) cd59).trans (by decide +kernel)
theorem d59_11 : decode (vm_cd 59) 11 = .ok (.iconst 4, 1) := (congrArg (fun b => decode b 11) cd59).trans (by decide +kernel)
theorem d59_12 : decode (vm_cd 59) 12 = .ok (.imul, 1) := (congrArg (fun b => decode b 12) cd59).trans (by decide +kernel)
theorem d59_13 : decode (vm_cd 59) 13 = .ok (.iload_n 3, 1) := (congrArg (fun b => decode b 13) cd59).trans (by decide +kernel)
theorem d59_14 : decode (vm_cd 59) 14 = .ok (.iadd, 1) := (congrArg (fun b => decode b 14) cd59).trans (by decide +kernel)
theorem d59_15 : decode (vm_cd 59) 15 = .ok (.iaload, 1) := (congrArg (fun b => decode b 15) cd59).trans (by decide +kernel)
theorem d59_16 : decode (vm_cd 59) 16 = .ok (.ireturn, 1) := (congrArg (fun b => decode b 16) cd59).trans (by decide +kernel)
theorem f59_25 : vm_fl.lookup (vm_own 59, 25) = some (4, 3, 99) := by decide +kernel
theorem c59_40 : vm_ml.lookup (vm_own 59, 40) = some (0, 61, 0, 591, 593, 11, 6) := vm_lk (by decide +kernel)
theorem r59 : vm_rt 59 = (some .int) := by decide +kernel
theorem B_Pr_plan_0 {X : vX} {d : Nat} {M : vM} {Q : Option vV → vM → Prop} {l1 l2 l3 : Int}  (k : cq X d 61 [vR 30] M (fun r M1 => wp X d 59 4 [vR 30, vI l1, vI l2, vI l3] (r.toList ++ []) (vS0, M1) (vP Q))) : vw X d 59 0 [vR 30, vI l1, vI l2, vI l3] [] M Q := by
  refine w_aload_n d59_0 rfl ?_
  exact w_inv0 (a := 30) (c := 4) d59_1 c59_40 rfl rfl rfl v61 (Nat.le_of_ble_eq_true rfl) (cq.cl (k))
theorem B_Pr_plan_4 {X : vX} {d : Nat} {M : vM} {Q : Option vV → vM → Prop} {l1 l2 l3 : Int} (hR : vRefs M) (h1 : 0 ≤ l1 ∧ l1 < (7 : Nat)) (h2 : 0 ≤ (w32 ((w32 (l2 * 4)) + l3)) ∧ (w32 ((w32 (l2 * 4)) + l3)) < (52 : Nat)) (k : Q (some (vI (M ((42 + l1.toNat)) (w32 ((w32 (l2 * 4)) + l3)).toNat))) M) : vw X d 59 4 [vR 30, vI l1, vI l2, vI l3] [] M Q := by
  refine w_aload_n d59_4 rfl ?_
  refine w_getf (a := 30) (v := vR 41) d59_5 f59_25 rfl rfl (congrArg vR (rf_30_3 hR)) ?_
  refine w_iload_n d59_8 rfl ?_
  refine w_aaldE (a := 41) (b := (42 + l1.toNat)) d59_9 rfl rfl (by decide) h1 (vrow_41 (i := l1) hR h1) ?_
  refine w_iload_n d59_10 rfl ?_
  refine w_ic (v := 4) d59_11 rfl ?_
  refine w_imul d59_12 ?_
  refine w_iload_n d59_13 rfl ?_
  refine w_iadd d59_14 ?_
  refine w_iaload (a := (42 + l1.toNat)) d59_15 rfl (vrs_41 (i := l1) h1) h2 ?_
  exact w_iret d59_16 r59 ⟨_, rfl, k⟩
theorem E_Pr_plan {X : vX} {d : Nat} {M : vM} {Q : Option vV → vM → Prop} {l1 l2 l3 : Int} (k : vw X d 59 0 [vR 30, vI l1, vI l2, vI l3] [] M Q) : cq X (d + 1) 59 [vR 30, vI l1, vI l2, vI l3] M Q := wc_in (Nat.le_of_ble_eq_true rfl) (Nat.le_of_ble_eq_true rfl) k
theorem cd60 : vm_cd 60 = cX4_bestPromise := rfl
theorem d60_0 : decode (vm_cd 60) 0 = .ok (.aload_n 0, 1) := (congrArg (fun b => decode b 0) cd60).trans (by decide +kernel)
theorem d60_1 : decode (vm_cd 60) 1 = .ok (.invokevirtual 40, 3) := (congrArg (fun b => decode b 1) cd60).trans (by decide +kernel)
theorem d60_4 : decode (vm_cd 60) 4 = .ok (.iconst (-1), 1) := (congrArg (fun b => decode b 4) cd60).trans (by decide +kernel)
theorem d60_5 : decode (vm_cd 60) 5 = .ok (.istore_n 2, 1) := (congrArg (fun b => decode b 5) cd60).trans (by decide +kernel)
theorem d60_6 : decode (vm_cd 60) 6 = .ok (.ldc2_w 43, 3) := (congrArg (fun b => decode b 6) cd60).trans (by decide +kernel)
theorem d60_9 : decode (vm_cd 60) 9 = .ok (.lstore_n 3, 1) := (congrArg (fun b => decode b 9) cd60).trans (by decide +kernel)
theorem d60_10 : decode (vm_cd 60) 10 = .ok (.iconst 0, 1) := (congrArg (fun b => decode b 10) cd60).trans (by decide +kernel)
theorem d60_11 : decode (vm_cd 60) 11 = .ok (.istore 5, 2) := (congrArg (fun b => decode b 11) cd60).trans (by decide +kernel)
theorem d60_13 : decode (vm_cd 60) 13 = .ok (.iload 5, 2) := (congrArg (fun b => decode b 13) cd60).trans (by decide +kernel)
theorem d60_15 : decode (vm_cd 60) 15 = .ok (.bipush 12, 2) := (congrArg (fun b => decode b 15) cd60).trans (by decide +kernel)
theorem d60_17 : decode (vm_cd 60) 17 = .ok (.if_icmp .gt 36, 3) := (congrArg (fun b => decode b 17) cd60).trans (by decide +kernel)
theorem d60_20 : decode (vm_cd 60) 20 = .ok (.aload_n 0, 1) := (congrArg (fun b => decode b 20) cd60).trans (by decide +kernel)
theorem d60_21 : decode (vm_cd 60) 21 = .ok (.getfield 20, 3) := (congrArg (fun b => decode b 21) cd60).trans (by decide +kernel)
theorem d60_24 : decode (vm_cd 60) 24 = .ok (.iload_n 1, 1) := (congrArg (fun b => decode b 24) cd60).trans (by decide +kernel)
theorem d60_25 : decode (vm_cd 60) 25 = .ok (.aaload, 1) := (congrArg (fun b => decode b 25) cd60).trans (by decide +kernel)
theorem d60_26 : decode (vm_cd 60) 26 = .ok (.iload 5, 2) := (congrArg (fun b => decode b 26) cd60).trans (by decide +kernel)
theorem d60_28 : decode (vm_cd 60) 28 = .ok (.laload, 1) := (congrArg (fun b => decode b 28) cd60).trans (by decide +kernel)
theorem d60_29 : decode (vm_cd 60) 29 = .ok (.lload_n 3, 1) := (congrArg (fun b => decode b 29) cd60).trans (by decide +kernel)
theorem d60_30 : decode (vm_cd 60) 30 = .ok (.lcmp, 1) := (congrArg (fun b => decode b 30) cd60).trans (by decide +kernel)
theorem d60_31 : decode (vm_cd 60) 31 = .ok (.ifCond .le 16, 3) := (congrArg (fun b => decode b 31) cd60).trans (by decide +kernel)
theorem d60_34 : decode (vm_cd 60) 34 = .ok (.iload 5, 2) := (congrArg (fun b => decode b 34) cd60).trans (by decide +kernel)
theorem d60_36 : decode (vm_cd 60) 36 = .ok (.istore_n 2, 1) := (congrArg (fun b => decode b 36) cd60).trans (by decide +kernel)
theorem d60_37 : decode (vm_cd 60) 37 = .ok (.aload_n 0, 1) := (congrArg (fun b => decode b 37) cd60).trans (by decide +kernel)
theorem d60_38 : decode (vm_cd 60) 38 = .ok (.getfield 20, 3) := (congrArg (fun b => decode b 38) cd60).trans (by decide +kernel)
theorem d60_41 : decode (vm_cd 60) 41 = .ok (.iload_n 1, 1) := (congrArg (fun b => decode b 41) cd60).trans (by decide +kernel)
theorem d60_42 : decode (vm_cd 60) 42 = .ok (.aaload, 1) := (congrArg (fun b => decode b 42) cd60).trans (by decide +kernel)
theorem d60_43 : decode (vm_cd 60) 43 = .ok (.iload 5, 2) := (congrArg (fun b => decode b 43) cd60).trans (by decide +kernel)
theorem d60_45 : decode (vm_cd 60) 45 = .ok (.laload, 1) := (congrArg (fun b => decode b 45) cd60).trans (by decide +kernel)
theorem d60_46 : decode (vm_cd 60) 46 = .ok (.lstore_n 3, 1) := (congrArg (fun b => decode b 46) cd60).trans (by decide +kernel)
theorem d60_47 : decode (vm_cd 60) 47 = .ok (.iinc 5 1, 3) := (congrArg (fun b => decode b 47) cd60).trans (by decide +kernel)
theorem d60_50 : decode (vm_cd 60) 50 = .ok (.goto (-37), 3) := (congrArg (fun b => decode b 50) cd60).trans (by decide +kernel)
theorem d60_53 : decode (vm_cd 60) 53 = .ok (.iload_n 2, 1) := (congrArg (fun b => decode b 53) cd60).trans (by decide +kernel)
theorem d60_54 : decode (vm_cd 60) 54 = .ok (.ireturn, 1) := (congrArg (fun b => decode b 54) cd60).trans (by decide +kernel)
theorem f60_20 : vm_fl.lookup (vm_own 60, 20) = some (4, 2, 98) := by decide +kernel
theorem c60_40 : vm_ml.lookup (vm_own 60, 40) = some (0, 61, 0, 591, 593, 11, 6) := vm_lk (by decide +kernel)
theorem g60_43 : vm_cn.lookup (vm_own 60, 43) = some ((1), (-9223372036854775808), (595)) := by decide +kernel
theorem r60 : vm_rt 60 = (some .int) := by decide +kernel
theorem B_Pr_bestPromise_0 {X : vX} {d : Nat} {M : vM} {Q : Option vV → vM → Prop} {l1 : Int}  (k : cq X d 61 [vR 30] M (fun r M1 => wp X d 60 4 [vR 30, vI l1, vN, vN, vN, vN] (r.toList ++ []) (vS0, M1) (vP Q))) : vw X d 60 0 [vR 30, vI l1, vN, vN, vN, vN] [] M Q := by
  refine w_aload_n d60_0 rfl ?_
  exact w_inv0 (a := 30) (c := 4) d60_1 c60_40 rfl rfl rfl v61 (Nat.le_of_ble_eq_true rfl) (cq.cl (k))
theorem B_Pr_bestPromise_4 {X : vX} {d : Nat} {M : vM} {Q : Option vV → vM → Prop} {l1 : Int}  (k : vw X d 60 13 [vR 30, vI l1, vI ((-1)), vL ((-9223372036854775808)), vN, vI 0] [] M Q) : vw X d 60 4 [vR 30, vI l1, vN, vN, vN, vN] [] M Q := by
  refine w_ic (v := (-1)) d60_4 rfl ?_
  refine w_istore_nE (ls' := [vR 30, vI l1, vI ((-1)), vN, vN, vN]) d60_5 (Nat.le_of_ble_eq_true rfl) rfl ?_
  refine w_ldc2_w (v := (-9223372036854775808)) d60_6 g60_43 rfl ?_
  refine w_lstore_nE (ls' := [vR 30, vI l1, vI ((-1)), vL ((-9223372036854775808)), vN, vN]) d60_9 (Nat.le_of_ble_eq_true rfl) rfl ?_
  refine w_ic (v := 0) d60_10 rfl ?_
  refine w_istoreE (ls' := [vR 30, vI l1, vI ((-1)), vL ((-9223372036854775808)), vN, vI 0]) d60_11 (Nat.le_of_ble_eq_true rfl) rfl ?_
  exact k
theorem B_Pr_bestPromise_13 {X : vX} {d : Nat} {M : vM} {Q : Option vV → vM → Prop} {l1 l2 l3 l5 : Int}  (k1 : 12 < l5 → vw X d 60 53 [vR 30, vI l1, vI l2, vL l3, vN, vI l5] [] M Q) (k2 : l5 ≤ 12 → vw X d 60 20 [vR 30, vI l1, vI l2, vL l3, vN, vI l5] [] M Q) : vw X d 60 13 [vR 30, vI l1, vI l2, vL l3, vN, vI l5] [] M Q := by
  refine w_iload d60_13 rfl ?_
  refine w_bi (v := 12) d60_15 rfl ?_
  exact w_icmp_gt d60_17 rfl (fun h => k1 h) (fun h => k2 h)
theorem B_Pr_bestPromise_20 {X : vX} {d : Nat} {M : vM} {Q : Option vV → vM → Prop} {l1 l2 l3 l5 : Int} (hR : vRefs M) (h1 : 0 ≤ l1 ∧ l1 < (7 : Nat)) (h2 : 0 ≤ l5 ∧ l5 < (13 : Nat)) (k1 : (M ((34 + l1.toNat)) l5.toNat) ≤ l3 → vw X d 60 47 [vR 30, vI l1, vI l2, vL l3, vN, vI l5] [] M Q) (k2 : l3 < (M ((34 + l1.toNat)) l5.toNat) → vw X d 60 34 [vR 30, vI l1, vI l2, vL l3, vN, vI l5] [] M Q) : vw X d 60 20 [vR 30, vI l1, vI l2, vL l3, vN, vI l5] [] M Q := by
  refine w_aload_n d60_20 rfl ?_
  refine w_getf (a := 30) (v := vR 33) d60_21 f60_20 rfl rfl (congrArg vR (rf_30_2 hR)) ?_
  refine w_iload_n d60_24 rfl ?_
  refine w_aaldE (a := 33) (b := (34 + l1.toNat)) d60_25 rfl rfl (by decide) h1 (vrow_33 (i := l1) hR h1) ?_
  refine w_iload d60_26 rfl ?_
  refine w_laload (a := (34 + l1.toNat)) d60_28 rfl (vrs_33 (i := l1) h1) h2 ?_
  refine w_lload_n d60_29 rfl ?_
  exact w_lc_le d60_30 d60_31 rfl (fun h => k1 h) (fun h => k2 h)
theorem B_Pr_bestPromise_34 {X : vX} {d : Nat} {M : vM} {Q : Option vV → vM → Prop} {l1 l2 l3 l5 : Int} (hR : vRefs M) (h1 : 0 ≤ l1 ∧ l1 < (7 : Nat)) (h2 : 0 ≤ l5 ∧ l5 < (13 : Nat)) (k : vw X d 60 13 [vR 30, vI l1, vI l5, vL (M ((34 + l1.toNat)) l5.toNat), vN, vI (w32 (l5 + 1))] [] M Q) : vw X d 60 34 [vR 30, vI l1, vI l2, vL l3, vN, vI l5] [] M Q := by
  refine w_iload d60_34 rfl ?_
  refine w_istore_nE (ls' := [vR 30, vI l1, vI l5, vL l3, vN, vI l5]) d60_36 (Nat.le_of_ble_eq_true rfl) rfl ?_
  refine w_aload_n d60_37 rfl ?_
  refine w_getf (a := 30) (v := vR 33) d60_38 f60_20 rfl rfl (congrArg vR (rf_30_2 hR)) ?_
  refine w_iload_n d60_41 rfl ?_
  refine w_aaldE (a := 33) (b := (34 + l1.toNat)) d60_42 rfl rfl (by decide) h1 (vrow_33 (i := l1) hR h1) ?_
  refine w_iload d60_43 rfl ?_
  refine w_laload (a := (34 + l1.toNat)) d60_45 rfl (vrs_33 (i := l1) h1) h2 ?_
  refine w_lstore_nE (ls' := [vR 30, vI l1, vI l5, vL (M ((34 + l1.toNat)) l5.toNat), vN, vI l5]) d60_46 (Nat.le_of_ble_eq_true rfl) rfl ?_
  refine w_iincE (ls' := [vR 30, vI l1, vI l5, vL (M ((34 + l1.toNat)) l5.toNat), vN, vI (w32 (l5 + 1))]) d60_47 rfl rfl ?_
  refine w_goto (tgt := 13) d60_50 rfl ?_
  exact k
theorem B_Pr_bestPromise_47 {X : vX} {d : Nat} {M : vM} {Q : Option vV → vM → Prop} {l1 l2 l3 l5 : Int}  (k : vw X d 60 13 [vR 30, vI l1, vI l2, vL l3, vN, vI (w32 (l5 + 1))] [] M Q) : vw X d 60 47 [vR 30, vI l1, vI l2, vL l3, vN, vI l5] [] M Q := by
  refine w_iincE (ls' := [vR 30, vI l1, vI l2, vL l3, vN, vI (w32 (l5 + 1))]) d60_47 rfl rfl ?_
  refine w_goto (tgt := 13) d60_50 rfl ?_
  exact k
theorem B_Pr_bestPromise_53 {X : vX} {d : Nat} {M : vM} {Q : Option vV → vM → Prop} {l1 l2 l3 l5 : Int}  (k : Q (some (vI l2)) M) : vw X d 60 53 [vR 30, vI l1, vI l2, vL l3, vN, vI l5] [] M Q := by
  refine w_iload_n d60_53 rfl ?_
  exact w_iret d60_54 r60 ⟨_, rfl, k⟩
theorem E_Pr_bestPromise {X : vX} {d : Nat} {M : vM} {Q : Option vV → vM → Prop} {l1 : Int} (k : vw X d 60 0 [vR 30, vI l1, vN, vN, vN, vN] [] M Q) : cq X (d + 1) 60 [vR 30, vI l1] M Q := wc_in (Nat.le_of_ble_eq_true rfl) (Nat.le_of_ble_eq_true rfl) k
theorem cd61 : vm_cd 61 = cX4_learn := rfl
theorem d61_0 : decode (vm_cd 61) 0 = .ok (.aload_n 0, 1) := (congrArg (fun b => decode b 0) cd61).trans (by decide +kernel)
theorem d61_1 : decode (vm_cd 61) 1 = .ok (.getfield 36, 3) := (congrArg (fun b => decode b 1) cd61).trans (by decide +kernel)
theorem d61_4 : decode (vm_cd 61) 4 = .ok (.ifCond .eq 4, 3) := (congrArg (fun b => decode b 4) cd61).trans (by decide +kernel)
theorem d61_7 : decode (vm_cd 61) 7 = .ok (.return_, 1) := (congrArg (fun b => decode b 7) cd61).trans (by decide +kernel)
theorem d61_8 : decode (vm_cd 61) 8 = .ok (.iconst 0, 1) := (congrArg (fun b => decode b 8) cd61).trans (by decide +kernel)
theorem d61_9 : decode (vm_cd 61) 9 = .ok (.istore_n 1, 1) := (congrArg (fun b => decode b 9) cd61).trans (by decide +kernel)
theorem d61_10 : decode (vm_cd 61) 10 = .ok (.iload_n 1, 1) := (congrArg (fun b => decode b 10) cd61).trans (by decide +kernel)
theorem d61_11 : decode (vm_cd 61) 11 = .ok (.bipush 12, 2) := (congrArg (fun b => decode b 11) cd61).trans (by decide +kernel)
theorem d61_13 : decode (vm_cd 61) 13 = .ok (.if_icmp .gt 28, 3) := (congrArg (fun b => decode b 13) cd61).trans (by decide +kernel)
theorem d61_16 : decode (vm_cd 61) 16 = .ok (.aload_n 0, 1) := (congrArg (fun b => decode b 16) cd61).trans (by decide +kernel)
theorem d61_17 : decode (vm_cd 61) 17 = .ok (.getfield 20, 3) := (congrArg (fun b => decode b 17) cd61).trans (by decide +kernel)
theorem d61_20 : decode (vm_cd 61) 20 = .ok (.iconst 0, 1) := (congrArg (fun b => decode b 20) cd61).trans (by decide +kernel)
theorem d61_21 : decode (vm_cd 61) 21 = .ok (.aaload, 1) := (congrArg (fun b => decode b 21) cd61).trans (by decide +kernel)
theorem d61_22 : decode (vm_cd 61) 22 = .ok (.iload_n 1, 1) := (congrArg (fun b => decode b 22) cd61).trans (by decide +kernel)
theorem d61_23 : decode (vm_cd 61) 23 = .ok (.iload_n 1, 1) := (congrArg (fun b => decode b 23) cd61).trans (by decide +kernel)
theorem d61_24 : decode (vm_cd 61) 24 = .ok (.ifCond .ne 7, 3) := (congrArg (fun b => decode b 24) cd61).trans (by decide +kernel)
theorem d61_27 : decode (vm_cd 61) 27 = .ok (.lconst 0, 1) := (congrArg (fun b => decode b 27) cd61).trans (by decide +kernel)
theorem d61_28 : decode (vm_cd 61) 28 = .ok (.goto 6, 3) := (congrArg (fun b => decode b 28) cd61).trans (by decide +kernel)
theorem d61_31 : decode (vm_cd 61) 31 = .ok (.ldc2_w 43, 3) := (congrArg (fun b => decode b 31) cd61).trans (by decide +kernel)
theorem d61_34 : decode (vm_cd 61) 34 = .ok (.lastore, 1) := (congrArg (fun b => decode b 34) cd61).trans (by decide +kernel)
theorem d61_35 : decode (vm_cd 61) 35 = .ok (.iinc 1 1, 3) := (congrArg (fun b => decode b 35) cd61).trans (by decide +kernel)
theorem d61_38 : decode (vm_cd 61) 38 = .ok (.goto (-28), 3) := (congrArg (fun b => decode b 38) cd61).trans (by decide +kernel)
theorem d61_41 : decode (vm_cd 61) 41 = .ok (.lconst 1, 1) := (congrArg (fun b => decode b 41) cd61).trans (by decide +kernel)
theorem d61_42 : decode (vm_cd 61) 42 = .ok (.lstore_n 1, 1) := (congrArg (fun b => decode b 42) cd61).trans (by decide +kernel)
theorem d61_43 : decode (vm_cd 61) 43 = .ok (.iconst 1, 1) := (congrArg (fun b => decode b 43) cd61).trans (by decide +kernel)
theorem d61_44 : decode (vm_cd 61) 44 = .ok (.istore_n 3, 1) := (congrArg (fun b => decode b 44) cd61).trans (by decide +kernel)
theorem d61_45 : decode (vm_cd 61) 45 = .ok (.iload_n 3, 1) := (congrArg (fun b => decode b 45) cd61).trans (by decide +kernel)
theorem d61_46 : decode (vm_cd 61) 46 = .ok (.bipush 6, 2) := (congrArg (fun b => decode b 46) cd61).trans (by decide +kernel)
theorem d61_48 : decode (vm_cd 61) 48 = .ok (.if_icmp .gt 21, 3) := (congrArg (fun b => decode b 48) cd61).trans (by decide +kernel)
theorem d61_51 : decode (vm_cd 61) 51 = .ok (.aload_n 0, 1) := (congrArg (fun b => decode b 51) cd61).trans (by decide +kernel)
theorem d61_52 : decode (vm_cd 61) 52 = .ok (.iload_n 3, 1) := (congrArg (fun b => decode b 52) cd61).trans (by decide +kernel)
theorem d61_53 : decode (vm_cd 61) 53 = .ok (.lload_n 1, 1) := (congrArg (fun b => decode b 53) cd61).trans (by decide +kernel)
theorem d61_54 : decode (vm_cd 61) 54 = .ok (.invokevirtual 45, 3) := (congrArg (fun b => decode b 54) cd61).trans (by decide +kernel)
theorem d61_57 : decode (vm_cd 61) 57 = .ok (.lload_n 1, 1) := (congrArg (fun b => decode b 57) cd61).trans (by decide +kernel)
theorem d61_58 : decode (vm_cd 61) 58 = .ok (.ldc2_w 49, 3) := (congrArg (fun b => decode b 58) cd61).trans (by decide +kernel)
theorem d61_61 : decode (vm_cd 61) 61 = .ok (.lmul, 1) := (congrArg (fun b => decode b 61) cd61).trans (by decide +kernel)
theorem d61_62 : decode (vm_cd 61) 62 = .ok (.lstore_n 1, 1) := (congrArg (fun b => decode b 62) cd61).trans (by decide +kernel)
theorem d61_63 : decode (vm_cd 61) 63 = .ok (.iinc 3 1, 3) := (congrArg (fun b => decode b 63) cd61).trans (by decide +kernel)
theorem d61_66 : decode (vm_cd 61) 66 = .ok (.goto (-21), 3) := (congrArg (fun b => decode b 66) cd61).trans (by decide +kernel)
theorem d61_69 : decode (vm_cd 61) 69 = .ok (.aload_n 0, 1) := (congrArg (fun b => decode b 69) cd61).trans (by decide +kernel)
theorem d61_70 : decode (vm_cd 61) 70 = .ok (.iconst 1, 1) := (congrArg (fun b => decode b 70) cd61).trans (by decide +kernel)
theorem d61_71 : decode (vm_cd 61) 71 = .ok (.putfield 36, 3) := (congrArg (fun b => decode b 71) cd61).trans (by decide +kernel)
theorem d61_74 : decode (vm_cd 61) 74 = .ok (.return_, 1) := (congrArg (fun b => decode b 74) cd61).trans (by decide +kernel)
theorem f61_20 : vm_fl.lookup (vm_own 61, 20) = some (4, 2, 98) := by decide +kernel
theorem f61_36 : vm_fl.lookup (vm_own 61, 36) = some (4, 5, 101) := by decide +kernel
theorem c61_45 : vm_ml.lookup (vm_own 61, 45) = some (0, 62, 2, 596, 598, 12, 6) := vm_lk (by decide +kernel)
theorem g61_43 : vm_cn.lookup (vm_own 61, 43) = some ((1), (-9223372036854775808), (595)) := by decide +kernel
theorem g61_49 : vm_cn.lookup (vm_own 61, 49) = some ((1), (12), (613)) := by decide +kernel
theorem r61 : vm_rt 61 = none := by decide +kernel
theorem B_Pr_learn_0 {X : vX} {d : Nat} {M : vM} {Q : Option vV → vM → Prop}  (k1 : (M 30 5) = 0 → vw X d 61 8 [vR 30, vN, vN, vN] [] M Q) (k2 : ¬ (M 30 5) = 0 → vw X d 61 7 [vR 30, vN, vN, vN] [] M Q) : vw X d 61 0 [vR 30, vN, vN, vN] [] M Q := by
  refine w_aload_n d61_0 rfl ?_
  refine w_getf (a := 30) (v := vI (M 30 5)) d61_1 f61_36 rfl rfl rfl ?_
  exact w_if_eq d61_4 rfl (fun h => k1 h) (fun h => k2 h)
theorem B_Pr_learn_7 {X : vX} {d : Nat} {M : vM} {Q : Option vV → vM → Prop}  (k : Q none M) : vw X d 61 7 [vR 30, vN, vN, vN] [] M Q := by
  exact w_vret d61_7 r61 ⟨_, rfl, k⟩
theorem B_Pr_learn_8 {X : vX} {d : Nat} {M : vM} {Q : Option vV → vM → Prop}  (k : vw X d 61 10 [vR 30, vI 0, vN, vN] [] M Q) : vw X d 61 8 [vR 30, vN, vN, vN] [] M Q := by
  refine w_ic (v := 0) d61_8 rfl ?_
  refine w_istore_nE (ls' := [vR 30, vI 0, vN, vN]) d61_9 (Nat.le_of_ble_eq_true rfl) rfl ?_
  exact k
theorem B_Pr_learn_10 {X : vX} {d : Nat} {M : vM} {Q : Option vV → vM → Prop} {l1 : Int}  (k1 : 12 < l1 → vw X d 61 41 [vR 30, vI l1, vN, vN] [] M Q) (k2 : l1 ≤ 12 → vw X d 61 16 [vR 30, vI l1, vN, vN] [] M Q) : vw X d 61 10 [vR 30, vI l1, vN, vN] [] M Q := by
  refine w_iload_n d61_10 rfl ?_
  refine w_bi (v := 12) d61_11 rfl ?_
  exact w_icmp_gt d61_13 rfl (fun h => k1 h) (fun h => k2 h)
theorem B_Pr_learn_16 {X : vX} {d : Nat} {M : vM} {Q : Option vV → vM → Prop} {l1 : Int} (hR : vRefs M)  (k1 : ¬ l1 = 0 → vw X d 61 31 [vR 30, vI l1, vN, vN] [vI l1, vR ((34 + 0 : Nat) : Int)] M Q) (k2 : l1 = 0 → vw X d 61 27 [vR 30, vI l1, vN, vN] [vI l1, vR ((34 + 0 : Nat) : Int)] M Q) : vw X d 61 16 [vR 30, vI l1, vN, vN] [] M Q := by
  refine w_aload_n d61_16 rfl ?_
  refine w_getf (a := 30) (v := vR 33) d61_17 f61_20 rfl rfl (congrArg vR (rf_30_2 hR)) ?_
  refine w_ic (v := 0) d61_20 rfl ?_
  refine w_aaldE (a := 33) (b := (34 + 0)) d61_21 rfl rfl (by decide) ⟨by decide, by decide⟩ (vrow_33 (i := 0) hR ⟨by decide, by decide⟩) ?_
  refine w_iload_n d61_22 rfl ?_
  refine w_iload_n d61_23 rfl ?_
  exact w_if_ne d61_24 rfl (fun h => k1 h) (fun h => k2 h)
theorem B_Pr_learn_27 {X : vX} {d : Nat} {M : vM} {Q : Option vV → vM → Prop} {l1 s1 : Int} {qs0 : Nat} (hqs0 : vS0[qs0]? = some (.inr (1, 13))) (hfqs0 : vFree qs0) (hR : vRefs M) (h1 : 0 ≤ s1 ∧ s1 < (13 : Nat)) (k : vRefs (vm_up M qs0 s1.toNat 0) → vw X d 61 10 [vR 30, vI (w32 (l1 + 1)), vN, vN] [] (vm_up M qs0 s1.toNat 0) Q) : vw X d 61 27 [vR 30, vI l1, vN, vN] [vI s1, vR (qs0 : Int)] M Q := by
  refine w_lc (v := 0) d61_27 rfl ?_
  refine w_goto (tgt := 34) d61_28 rfl ?_
  refine w_last (a := qs0) d61_34 rfl hqs0 h1 ?_
  refine w_iincE (ls' := [vR 30, vI (w32 (l1 + 1)), vN, vN]) d61_35 rfl rfl ?_
  refine w_goto (tgt := 10) d61_38 rfl ?_
  exact k (vRefs_free hR hfqs0)
theorem B_Pr_learn_31 {X : vX} {d : Nat} {M : vM} {Q : Option vV → vM → Prop} {l1 s1 : Int} {qs0 : Nat} (hqs0 : vS0[qs0]? = some (.inr (1, 13))) (hfqs0 : vFree qs0) (hR : vRefs M) (h1 : 0 ≤ s1 ∧ s1 < (13 : Nat)) (k : vRefs (vm_up M qs0 s1.toNat ((-9223372036854775808))) → vw X d 61 10 [vR 30, vI (w32 (l1 + 1)), vN, vN] [] (vm_up M qs0 s1.toNat ((-9223372036854775808))) Q) : vw X d 61 31 [vR 30, vI l1, vN, vN] [vI s1, vR (qs0 : Int)] M Q := by
  refine w_ldc2_w (v := (-9223372036854775808)) d61_31 g61_43 rfl ?_
  refine w_last (a := qs0) d61_34 rfl hqs0 h1 ?_
  refine w_iincE (ls' := [vR 30, vI (w32 (l1 + 1)), vN, vN]) d61_35 rfl rfl ?_
  refine w_goto (tgt := 10) d61_38 rfl ?_
  exact k (vRefs_free hR hfqs0)
theorem B_Pr_learn_41 {X : vX} {d : Nat} {M : vM} {Q : Option vV → vM → Prop} {l1 : Int}  (k : vw X d 61 45 [vR 30, vL 1, vN, vI 1] [] M Q) : vw X d 61 41 [vR 30, vI l1, vN, vN] [] M Q := by
  refine w_lc (v := 1) d61_41 rfl ?_
  refine w_lstore_nE (ls' := [vR 30, vL 1, vN, vN]) d61_42 (Nat.le_of_ble_eq_true rfl) rfl ?_
  refine w_ic (v := 1) d61_43 rfl ?_
  refine w_istore_nE (ls' := [vR 30, vL 1, vN, vI 1]) d61_44 (Nat.le_of_ble_eq_true rfl) rfl ?_
  exact k
theorem B_Pr_learn_45 {X : vX} {d : Nat} {M : vM} {Q : Option vV → vM → Prop} {l1 l3 : Int}  (k1 : 6 < l3 → vw X d 61 69 [vR 30, vL l1, vN, vI l3] [] M Q) (k2 : l3 ≤ 6 → vw X d 61 51 [vR 30, vL l1, vN, vI l3] [] M Q) : vw X d 61 45 [vR 30, vL l1, vN, vI l3] [] M Q := by
  refine w_iload_n d61_45 rfl ?_
  refine w_bi (v := 6) d61_46 rfl ?_
  exact w_icmp_gt d61_48 rfl (fun h => k1 h) (fun h => k2 h)
theorem B_Pr_learn_51 {X : vX} {d : Nat} {M : vM} {Q : Option vV → vM → Prop} {l1 l3 : Int}  (k : cq X d 62 [vR 30, vI l3, vL l1] M (fun r M1 => wp X d 61 57 [vR 30, vL l1, vN, vI l3] (r.toList ++ []) (vS0, M1) (vP Q))) : vw X d 61 51 [vR 30, vL l1, vN, vI l3] [] M Q := by
  refine w_aload_n d61_51 rfl ?_
  refine w_iload_n d61_52 rfl ?_
  refine w_lload_n d61_53 rfl ?_
  exact w_inv0 (a := 30) (c := 4) d61_54 c61_45 rfl rfl rfl v62 (Nat.le_of_ble_eq_true rfl) (cq.cl (k))
theorem B_Pr_learn_57 {X : vX} {d : Nat} {M : vM} {Q : Option vV → vM → Prop} {l1 l3 : Int}  (k : vw X d 61 45 [vR 30, vL (w64 (l1 * 12)), vN, vI (w32 (l3 + 1))] [] M Q) : vw X d 61 57 [vR 30, vL l1, vN, vI l3] [] M Q := by
  refine w_lload_n d61_57 rfl ?_
  refine w_ldc2_w (v := 12) d61_58 g61_49 rfl ?_
  refine w_lmul d61_61 ?_
  refine w_lstore_nE (ls' := [vR 30, vL (w64 (l1 * 12)), vN, vI l3]) d61_62 (Nat.le_of_ble_eq_true rfl) rfl ?_
  refine w_iincE (ls' := [vR 30, vL (w64 (l1 * 12)), vN, vI (w32 (l3 + 1))]) d61_63 rfl rfl ?_
  refine w_goto (tgt := 45) d61_66 rfl ?_
  exact k
theorem B_Pr_learn_69 {X : vX} {d : Nat} {M : vM} {Q : Option vV → vM → Prop} {l1 l3 : Int} (hR : vRefs M)  (k : vRefs (vm_up M 30 5 1) → Q none (vm_up M 30 5 1)) : vw X d 61 69 [vR 30, vL l1, vN, vI l3] [] M Q := by
  refine w_aload_n d61_69 rfl ?_
  refine w_ic (v := 1) d61_70 rfl ?_
  refine w_putf (a := 30) (x := 1) d61_71 f61_36 rfl rfl rfl (Or.inl rfl) ?_
  exact w_vret d61_74 r61 ⟨_, rfl, k (vRefs_up hR ⟨by decide, by decide⟩)⟩
theorem E_Pr_learn {X : vX} {d : Nat} {M : vM} {Q : Option vV → vM → Prop} (k : vw X d 61 0 [vR 30, vN, vN, vN] [] M Q) : cq X (d + 1) 61 [vR 30] M Q := wc_in (Nat.le_of_ble_eq_true rfl) (Nat.le_of_ble_eq_true rfl) k
theorem cd62 : vm_cd 62 = cX4_learnTerm := rfl
theorem d62_0 : decode (vm_cd 62) 0 = .ok (.iconst 0, 1) := (congrArg (fun b => decode b 0) cd62).trans (by decide +kernel)
theorem d62_1 : decode (vm_cd 62) 1 = .ok (.istore 4, 2) := (congrArg (fun b => decode b 1) cd62).trans (by decide +kernel)
theorem d62_3 : decode (vm_cd 62) 3 = .ok (.iload 4, 2) := (congrArg (fun b => decode b 3) cd62).trans (by decide +kernel)
theorem d62_5 : decode (vm_cd 62) 5 = .ok (.bipush 12, 2) := (congrArg (fun b => decode b 5) cd62).trans (by decide +kernel)
theorem d62_7 : decode (vm_cd 62) 7 = .ok (.if_icmp .gt 21, 3) := (congrArg (fun b => decode b 7) cd62).trans (by decide +kernel)
theorem d62_10 : decode (vm_cd 62) 10 = .ok (.aload_n 0, 1) := (congrArg (fun b => decode b 10) cd62).trans (by decide +kernel)
theorem d62_11 : decode (vm_cd 62) 11 = .ok (.getfield 20, 3) := (congrArg (fun b => decode b 11) cd62).trans (by decide +kernel)
theorem d62_14 : decode (vm_cd 62) 14 = .ok (.iload_n 1, 1) := (congrArg (fun b => decode b 14) cd62).trans (by decide +kernel)
theorem d62_15 : decode (vm_cd 62) 15 = .ok (.aaload, 1) := (congrArg (fun b => decode b 15) cd62).trans (by decide +kernel)
theorem d62_16 : decode (vm_cd 62) 16 = .ok (.iload 4, 2) := (congrArg (fun b => decode b 16) cd62).trans (by decide +kernel)
theorem d62_18 : decode (vm_cd 62) 18 = .ok (.ldc2_w 43, 3) := (congrArg (fun b => decode b 18) cd62).trans (by decide +kernel)
theorem d62_21 : decode (vm_cd 62) 21 = .ok (.lastore, 1) := (congrArg (fun b => decode b 21) cd62).trans (by decide +kernel)
theorem d62_22 : decode (vm_cd 62) 22 = .ok (.iinc 4 1, 3) := (congrArg (fun b => decode b 22) cd62).trans (by decide +kernel)
theorem d62_25 : decode (vm_cd 62) 25 = .ok (.goto (-22), 3) := (congrArg (fun b => decode b 25) cd62).trans (by decide +kernel)
theorem d62_28 : decode (vm_cd 62) 28 = .ok (.iconst 0, 1) := (congrArg (fun b => decode b 28) cd62).trans (by decide +kernel)
theorem d62_29 : decode (vm_cd 62) 29 = .ok (.istore 4, 2) := (congrArg (fun b => decode b 29) cd62).trans (by decide +kernel)
theorem d62_31 : decode (vm_cd 62) 31 = .ok (.iload 4, 2) := (congrArg (fun b => decode b 31) cd62).trans (by decide +kernel)
theorem d62_33 : decode (vm_cd 62) 33 = .ok (.iconst 1, 1) := (congrArg (fun b => decode b 33) cd62).trans (by decide +kernel)
theorem d62_34 : decode (vm_cd 62) 34 = .ok (.if_icmp .gt 95, 3) := (congrArg (fun b => decode b 34) cd62).trans (by decide +kernel)
theorem d62_37 : decode (vm_cd 62) 37 = .ok (.iconst 0, 1) := (congrArg (fun b => decode b 37) cd62).trans (by decide +kernel)
theorem d62_38 : decode (vm_cd 62) 38 = .ok (.istore 5, 2) := (congrArg (fun b => decode b 38) cd62).trans (by decide +kernel)
theorem d62_40 : decode (vm_cd 62) 40 = .ok (.iload 5, 2) := (congrArg (fun b => decode b 40) cd62).trans (by decide +kernel)
theorem d62_42 : decode (vm_cd 62) 42 = .ok (.bipush 6, 2) := (congrArg (fun b => decode b 42) cd62).trans (by decide +kernel)
theorem d62_44 : decode (vm_cd 62) 44 = .ok (.if_icmp .gt 79, 3) := (congrArg (fun b => decode b 44) cd62).trans (by decide +kernel)
theorem d62_47 : decode (vm_cd 62) 47 = .ok (.lload_n 2, 1) := (congrArg (fun b => decode b 47) cd62).trans (by decide +kernel)
theorem d62_48 : decode (vm_cd 62) 48 = .ok (.aload_n 0, 1) := (congrArg (fun b => decode b 48) cd62).trans (by decide +kernel)
theorem d62_49 : decode (vm_cd 62) 49 = .ok (.getfield 15, 3) := (congrArg (fun b => decode b 49) cd62).trans (by decide +kernel)
theorem d62_52 : decode (vm_cd 62) 52 = .ok (.iload 4, 2) := (congrArg (fun b => decode b 52) cd62).trans (by decide +kernel)
theorem d62_54 : decode (vm_cd 62) 54 = .ok (.iaload, 1) := (congrArg (fun b => decode b 54) cd62).trans (by decide +kernel)
theorem d62_55 : decode (vm_cd 62) 55 = .ok (.aload_n 0, 1) := (congrArg (fun b => decode b 55) cd62).trans (by decide +kernel)
theorem d62_56 : decode (vm_cd 62) 56 = .ok (.getfield 28, 3) := (congrArg (fun b => decode b 56) cd62).trans (by decide +kernel)
theorem d62_59 : decode (vm_cd 62) 59 = .ok (.imul, 1) := (congrArg (fun b => decode b 59) cd62).trans (by decide +kernel)
theorem d62_60 : decode (vm_cd 62) 60 = .ok (.bipush 12, 2) := (congrArg (fun b => decode b 60) cd62).trans (by decide +kernel)
theorem d62_62 : decode (vm_cd 62) 62 = .ok (.iload 5, 2) := (congrArg (fun b => decode b 62) cd62).trans (by decide +kernel)
theorem d62_64 : decode (vm_cd 62) 64 = .ok (.imul, 1) := (congrArg (fun b => decode b 64) cd62).trans (by decide +kernel)
theorem d62_65 : decode (vm_cd 62) 65 = .ok (.isub, 1) := (congrArg (fun b => decode b 65) cd62).trans (by decide +kernel)
theorem d62_66 : decode (vm_cd 62) 66 = .ok (.i2l, 1) := (congrArg (fun b => decode b 66) cd62).trans (by decide +kernel)
theorem d62_67 : decode (vm_cd 62) 67 = .ok (.lmul, 1) := (congrArg (fun b => decode b 67) cd62).trans (by decide +kernel)
theorem d62_68 : decode (vm_cd 62) 68 = .ok (.lstore 6, 2) := (congrArg (fun b => decode b 68) cd62).trans (by decide +kernel)
theorem d62_70 : decode (vm_cd 62) 70 = .ok (.iconst 0, 1) := (congrArg (fun b => decode b 70) cd62).trans (by decide +kernel)
theorem d62_71 : decode (vm_cd 62) 71 = .ok (.istore 8, 2) := (congrArg (fun b => decode b 71) cd62).trans (by decide +kernel)
theorem d62_73 : decode (vm_cd 62) 73 = .ok (.iload 8, 2) := (congrArg (fun b => decode b 73) cd62).trans (by decide +kernel)
theorem d62_75 : decode (vm_cd 62) 75 = .ok (.bipush 12, 2) := (congrArg (fun b => decode b 75) cd62).trans (by decide +kernel)
theorem d62_77 : decode (vm_cd 62) 77 = .ok (.if_icmp .gt 40, 3) := (congrArg (fun b => decode b 77) cd62).trans (by decide +kernel)
theorem d62_80 : decode (vm_cd 62) 80 = .ok (.iconst 0, 1) := (congrArg (fun b => decode b 80) cd62).trans (by decide +kernel)
theorem d62_81 : decode (vm_cd 62) 81 = .ok (.istore 9, 2) := (congrArg (fun b => decode b 81) cd62).trans (by decide +kernel)
theorem d62_83 : decode (vm_cd 62) 83 = .ok (.iload 9, 2) := (congrArg (fun b => decode b 83) cd62).trans (by decide +kernel)
theorem d62_85 : decode (vm_cd 62) 85 = .ok (.bipush 12, 2) := (congrArg (fun b => decode b 85) cd62).trans (by decide +kernel)
theorem d62_87 : decode (vm_cd 62) 87 = .ok (.if_icmp .gt 24, 3) := (congrArg (fun b => decode b 87) cd62).trans (by decide +kernel)
theorem d62_90 : decode (vm_cd 62) 90 = .ok (.aload_n 0, 1) := (congrArg (fun b => decode b 90) cd62).trans (by decide +kernel)
theorem d62_91 : decode (vm_cd 62) 91 = .ok (.iload_n 1, 1) := (congrArg (fun b => decode b 91) cd62).trans (by decide +kernel)
theorem d62_92 : decode (vm_cd 62) 92 = .ok (.lload 6, 2) := (congrArg (fun b => decode b 92) cd62).trans (by decide +kernel)
theorem d62_94 : decode (vm_cd 62) 94 = .ok (.iload 4, 2) := (congrArg (fun b => decode b 94) cd62).trans (by decide +kernel)
theorem d62_96 : decode (vm_cd 62) 96 = .ok (.iload 5, 2) := (congrArg (fun b => decode b 96) cd62).trans (by decide +kernel)
theorem d62_98 : decode (vm_cd 62) 98 = .ok (.iload 8, 2) := (congrArg (fun b => decode b 98) cd62).trans (by decide +kernel)
theorem d62_100 : decode (vm_cd 62) 100 = .ok (.iload 9, 2) := (congrArg (fun b => decode b 100) cd62).trans (by decide +kernel)
theorem d62_102 : decode (vm_cd 62) 102 = .ok (.invokevirtual 51, 3) := (congrArg (fun b => decode b 102) cd62).trans (by decide +kernel)
theorem d62_105 : decode (vm_cd 62) 105 = .ok (.iinc 9 1, 3) := (congrArg (fun b => decode b 105) cd62).trans (by decide +kernel)
theorem d62_108 : decode (vm_cd 62) 108 = .ok (.goto (-25), 3) := (congrArg (fun b => decode b 108) cd62).trans (by decide +kernel)
theorem d62_111 : decode (vm_cd 62) 111 = .ok (.iinc 8 1, 3) := (congrArg (fun b => decode b 111) cd62).trans (by decide +kernel)
theorem d62_114 : decode (vm_cd 62) 114 = .ok (.goto (-41), 3) := (congrArg (fun b => decode b 114) cd62).trans (by decide +kernel)
theorem d62_117 : decode (vm_cd 62) 117 = .ok (.iinc 5 1, 3) := (congrArg (fun b => decode b 117) cd62).trans (by decide +kernel)
theorem d62_120 : decode (vm_cd 62) 120 = .ok (.goto (-80), 3) := (congrArg (fun b => decode b 120) cd62).trans (by decide +kernel)
theorem d62_123 : decode (vm_cd 62) 123 = .ok (.iinc 4 1, 3) := (congrArg (fun b => decode b 123) cd62).trans (by decide +kernel)
theorem d62_126 : decode (vm_cd 62) 126 = .ok (.goto (-95), 3) := (congrArg (fun b => decode b 126) cd62).trans (by decide +kernel)
theorem d62_129 : decode (vm_cd 62) 129 = .ok (.return_, 1) := (congrArg (fun b => decode b 129) cd62).trans (by decide +kernel)
theorem f62_15 : vm_fl.lookup (vm_own 62, 15) = some (4, 1, 97) := by decide +kernel
theorem f62_20 : vm_fl.lookup (vm_own 62, 20) = some (4, 2, 98) := by decide +kernel
theorem f62_28 : vm_fl.lookup (vm_own 62, 28) = some (4, 4, 100) := by decide +kernel
theorem c62_51 : vm_ml.lookup (vm_own 62, 51) = some (0, 63, 6, 600, 602, 13, 6) := vm_lk (by decide +kernel)
theorem g62_43 : vm_cn.lookup (vm_own 62, 43) = some ((1), (-9223372036854775808), (595)) := by decide +kernel
theorem r62 : vm_rt 62 = none := by decide +kernel
theorem B_Pr_learnTerm_0 {X : vX} {d : Nat} {M : vM} {Q : Option vV → vM → Prop} {l1 l2 : Int}  (k : vw X d 62 3 [vR 30, vI l1, vL l2, vN, vI 0, vN, vN, vN, vN, vN] [] M Q) : vw X d 62 0 [vR 30, vI l1, vL l2, vN, vN, vN, vN, vN, vN, vN] [] M Q := by
  refine w_ic (v := 0) d62_0 rfl ?_
  refine w_istoreE (ls' := [vR 30, vI l1, vL l2, vN, vI 0, vN, vN, vN, vN, vN]) d62_1 (Nat.le_of_ble_eq_true rfl) rfl ?_
  exact k
theorem B_Pr_learnTerm_3 {X : vX} {d : Nat} {M : vM} {Q : Option vV → vM → Prop} {l1 l2 l4 : Int}  (k1 : 12 < l4 → vw X d 62 28 [vR 30, vI l1, vL l2, vN, vI l4, vN, vN, vN, vN, vN] [] M Q) (k2 : l4 ≤ 12 → vw X d 62 10 [vR 30, vI l1, vL l2, vN, vI l4, vN, vN, vN, vN, vN] [] M Q) : vw X d 62 3 [vR 30, vI l1, vL l2, vN, vI l4, vN, vN, vN, vN, vN] [] M Q := by
  refine w_iload d62_3 rfl ?_
  refine w_bi (v := 12) d62_5 rfl ?_
  exact w_icmp_gt d62_7 rfl (fun h => k1 h) (fun h => k2 h)
theorem B_Pr_learnTerm_10 {X : vX} {d : Nat} {M : vM} {Q : Option vV → vM → Prop} {l1 l2 l4 : Int} (hR : vRefs M) (h1 : 0 ≤ l1 ∧ l1 < (7 : Nat)) (h2 : 0 ≤ l4 ∧ l4 < (13 : Nat)) (k : vRefs (vm_up M ((34 + l1.toNat)) l4.toNat ((-9223372036854775808))) → vw X d 62 3 [vR 30, vI l1, vL l2, vN, vI (w32 (l4 + 1)), vN, vN, vN, vN, vN] [] (vm_up M ((34 + l1.toNat)) l4.toNat ((-9223372036854775808))) Q) : vw X d 62 10 [vR 30, vI l1, vL l2, vN, vI l4, vN, vN, vN, vN, vN] [] M Q := by
  refine w_aload_n d62_10 rfl ?_
  refine w_getf (a := 30) (v := vR 33) d62_11 f62_20 rfl rfl (congrArg vR (rf_30_2 hR)) ?_
  refine w_iload_n d62_14 rfl ?_
  refine w_aaldE (a := 33) (b := (34 + l1.toNat)) d62_15 rfl rfl (by decide) h1 (vrow_33 (i := l1) hR h1) ?_
  refine w_iload d62_16 rfl ?_
  refine w_ldc2_w (v := (-9223372036854775808)) d62_18 g62_43 rfl ?_
  refine w_last (a := (34 + l1.toNat)) d62_21 rfl (vrs_33 (i := l1) h1) h2 ?_
  refine w_iincE (ls' := [vR 30, vI l1, vL l2, vN, vI (w32 (l4 + 1)), vN, vN, vN, vN, vN]) d62_22 rfl rfl ?_
  refine w_goto (tgt := 3) d62_25 rfl ?_
  exact k (vRefs_free hR (vfr_33 (i := l1) h1))
theorem B_Pr_learnTerm_28 {X : vX} {d : Nat} {M : vM} {Q : Option vV → vM → Prop} {l1 l2 l4 : Int}  (k : vw X d 62 31 [vR 30, vI l1, vL l2, vN, vI 0, vN, vN, vN, vN, vN] [] M Q) : vw X d 62 28 [vR 30, vI l1, vL l2, vN, vI l4, vN, vN, vN, vN, vN] [] M Q := by
  refine w_ic (v := 0) d62_28 rfl ?_
  refine w_istoreE (ls' := [vR 30, vI l1, vL l2, vN, vI 0, vN, vN, vN, vN, vN]) d62_29 (Nat.le_of_ble_eq_true rfl) rfl ?_
  exact k
theorem B_Pr_learnTerm_31 {X : vX} {d : Nat} {M : vM} {Q : Option vV → vM → Prop} {l1 l2 l4 : Int} {w5 w6 w8 w9 : vV}  (k1 : 1 < l4 → vw X d 62 129 [vR 30, vI l1, vL l2, vN, vI l4, w5, w6, vN, w8, w9] [] M Q) (k2 : l4 ≤ 1 → vw X d 62 37 [vR 30, vI l1, vL l2, vN, vI l4, w5, w6, vN, w8, w9] [] M Q) : vw X d 62 31 [vR 30, vI l1, vL l2, vN, vI l4, w5, w6, vN, w8, w9] [] M Q := by
  refine w_iload d62_31 rfl ?_
  refine w_ic (v := 1) d62_33 rfl ?_
  exact w_icmp_gt d62_34 rfl (fun h => k1 h) (fun h => k2 h)
theorem B_Pr_learnTerm_37 {X : vX} {d : Nat} {M : vM} {Q : Option vV → vM → Prop} {l1 l2 l4 : Int} {w5 w6 w8 w9 : vV}  (k : vw X d 62 40 [vR 30, vI l1, vL l2, vN, vI l4, vI 0, w6, vN, w8, w9] [] M Q) : vw X d 62 37 [vR 30, vI l1, vL l2, vN, vI l4, w5, w6, vN, w8, w9] [] M Q := by
  refine w_ic (v := 0) d62_37 rfl ?_
  refine w_istoreE (ls' := [vR 30, vI l1, vL l2, vN, vI l4, vI 0, w6, vN, w8, w9]) d62_38 (Nat.le_of_ble_eq_true rfl) rfl ?_
  exact k
theorem B_Pr_learnTerm_40 {X : vX} {d : Nat} {M : vM} {Q : Option vV → vM → Prop} {l1 l2 l4 l5 : Int} {w6 w8 w9 : vV}  (k1 : 6 < l5 → vw X d 62 123 [vR 30, vI l1, vL l2, vN, vI l4, vI l5, w6, vN, w8, w9] [] M Q) (k2 : l5 ≤ 6 → vw X d 62 47 [vR 30, vI l1, vL l2, vN, vI l4, vI l5, w6, vN, w8, w9] [] M Q) : vw X d 62 40 [vR 30, vI l1, vL l2, vN, vI l4, vI l5, w6, vN, w8, w9] [] M Q := by
  refine w_iload d62_40 rfl ?_
  refine w_bi (v := 6) d62_42 rfl ?_
  exact w_icmp_gt d62_44 rfl (fun h => k1 h) (fun h => k2 h)
theorem B_Pr_learnTerm_47 {X : vX} {d : Nat} {M : vM} {Q : Option vV → vM → Prop} {l1 l2 l4 l5 : Int} {w6 w8 w9 : vV} (hR : vRefs M) (h1 : 0 ≤ l4 ∧ l4 < (2 : Nat)) (k : vw X d 62 73 [vR 30, vI l1, vL l2, vN, vI l4, vI l5, vL (w64 (l2 * (w32 ((w32 ((M 32 l4.toNat) * (M 30 4))) - (w32 (12 * l5)))))), vN, vI 0, w9] [] M Q) : vw X d 62 47 [vR 30, vI l1, vL l2, vN, vI l4, vI l5, w6, vN, w8, w9] [] M Q := by
  refine w_lload_n d62_47 rfl ?_
  refine w_aload_n d62_48 rfl ?_
  refine w_getf (a := 30) (v := vR 32) d62_49 f62_15 rfl rfl (congrArg vR (rf_30_1 hR)) ?_
  refine w_iload d62_52 rfl ?_
  refine w_iaload (a := 32) d62_54 rfl rfl h1 ?_
  refine w_aload_n d62_55 rfl ?_
  refine w_getf (a := 30) (v := vI (M 30 4)) d62_56 f62_28 rfl rfl rfl ?_
  refine w_imul d62_59 ?_
  refine w_bi (v := 12) d62_60 rfl ?_
  refine w_iload d62_62 rfl ?_
  refine w_imul d62_64 ?_
  refine w_isub d62_65 ?_
  refine w_i2l d62_66 ?_
  refine w_lmul d62_67 ?_
  refine w_lstoreE (ls' := [vR 30, vI l1, vL l2, vN, vI l4, vI l5, vL (w64 (l2 * (w32 ((w32 ((M 32 l4.toNat) * (M 30 4))) - (w32 (12 * l5)))))), vN, w8, w9]) d62_68 (Nat.le_of_ble_eq_true rfl) rfl ?_
  refine w_ic (v := 0) d62_70 rfl ?_
  refine w_istoreE (ls' := [vR 30, vI l1, vL l2, vN, vI l4, vI l5, vL (w64 (l2 * (w32 ((w32 ((M 32 l4.toNat) * (M 30 4))) - (w32 (12 * l5)))))), vN, vI 0, w9]) d62_71 (Nat.le_of_ble_eq_true rfl) rfl ?_
  exact k
theorem B_Pr_learnTerm_73 {X : vX} {d : Nat} {M : vM} {Q : Option vV → vM → Prop} {l1 l2 l4 l5 l6 l8 : Int} {w9 : vV}  (k1 : 12 < l8 → vw X d 62 117 [vR 30, vI l1, vL l2, vN, vI l4, vI l5, vL l6, vN, vI l8, w9] [] M Q) (k2 : l8 ≤ 12 → vw X d 62 80 [vR 30, vI l1, vL l2, vN, vI l4, vI l5, vL l6, vN, vI l8, w9] [] M Q) : vw X d 62 73 [vR 30, vI l1, vL l2, vN, vI l4, vI l5, vL l6, vN, vI l8, w9] [] M Q := by
  refine w_iload d62_73 rfl ?_
  refine w_bi (v := 12) d62_75 rfl ?_
  exact w_icmp_gt d62_77 rfl (fun h => k1 h) (fun h => k2 h)
theorem B_Pr_learnTerm_80 {X : vX} {d : Nat} {M : vM} {Q : Option vV → vM → Prop} {l1 l2 l4 l5 l6 l8 : Int} {w9 : vV}  (k : vw X d 62 83 [vR 30, vI l1, vL l2, vN, vI l4, vI l5, vL l6, vN, vI l8, vI 0] [] M Q) : vw X d 62 80 [vR 30, vI l1, vL l2, vN, vI l4, vI l5, vL l6, vN, vI l8, w9] [] M Q := by
  refine w_ic (v := 0) d62_80 rfl ?_
  refine w_istoreE (ls' := [vR 30, vI l1, vL l2, vN, vI l4, vI l5, vL l6, vN, vI l8, vI 0]) d62_81 (Nat.le_of_ble_eq_true rfl) rfl ?_
  exact k
theorem B_Pr_learnTerm_83 {X : vX} {d : Nat} {M : vM} {Q : Option vV → vM → Prop} {l1 l2 l4 l5 l6 l8 l9 : Int}  (k1 : 12 < l9 → vw X d 62 111 [vR 30, vI l1, vL l2, vN, vI l4, vI l5, vL l6, vN, vI l8, vI l9] [] M Q) (k2 : l9 ≤ 12 → vw X d 62 90 [vR 30, vI l1, vL l2, vN, vI l4, vI l5, vL l6, vN, vI l8, vI l9] [] M Q) : vw X d 62 83 [vR 30, vI l1, vL l2, vN, vI l4, vI l5, vL l6, vN, vI l8, vI l9] [] M Q := by
  refine w_iload d62_83 rfl ?_
  refine w_bi (v := 12) d62_85 rfl ?_
  exact w_icmp_gt d62_87 rfl (fun h => k1 h) (fun h => k2 h)
theorem B_Pr_learnTerm_90 {X : vX} {d : Nat} {M : vM} {Q : Option vV → vM → Prop} {l1 l2 l4 l5 l6 l8 l9 : Int}  (k : cq X d 63 [vR 30, vI l1, vL l6, vI l4, vI l5, vI l8, vI l9] M (fun r M1 => wp X d 62 105 [vR 30, vI l1, vL l2, vN, vI l4, vI l5, vL l6, vN, vI l8, vI l9] (r.toList ++ []) (vS0, M1) (vP Q))) : vw X d 62 90 [vR 30, vI l1, vL l2, vN, vI l4, vI l5, vL l6, vN, vI l8, vI l9] [] M Q := by
  refine w_aload_n d62_90 rfl ?_
  refine w_iload_n d62_91 rfl ?_
  refine w_lload d62_92 rfl ?_
  refine w_iload d62_94 rfl ?_
  refine w_iload d62_96 rfl ?_
  refine w_iload d62_98 rfl ?_
  refine w_iload d62_100 rfl ?_
  exact w_inv0 (a := 30) (c := 4) d62_102 c62_51 rfl rfl rfl v63 (Nat.le_of_ble_eq_true rfl) (cq.cl (k))
theorem B_Pr_learnTerm_105 {X : vX} {d : Nat} {M : vM} {Q : Option vV → vM → Prop} {l1 l2 l4 l5 l6 l8 l9 : Int}  (k : vw X d 62 83 [vR 30, vI l1, vL l2, vN, vI l4, vI l5, vL l6, vN, vI l8, vI (w32 (l9 + 1))] [] M Q) : vw X d 62 105 [vR 30, vI l1, vL l2, vN, vI l4, vI l5, vL l6, vN, vI l8, vI l9] [] M Q := by
  refine w_iincE (ls' := [vR 30, vI l1, vL l2, vN, vI l4, vI l5, vL l6, vN, vI l8, vI (w32 (l9 + 1))]) d62_105 rfl rfl ?_
  refine w_goto (tgt := 83) d62_108 rfl ?_
  exact k
theorem B_Pr_learnTerm_111 {X : vX} {d : Nat} {M : vM} {Q : Option vV → vM → Prop} {l1 l2 l4 l5 l6 l8 l9 : Int}  (k : vw X d 62 73 [vR 30, vI l1, vL l2, vN, vI l4, vI l5, vL l6, vN, vI (w32 (l8 + 1)), vI l9] [] M Q) : vw X d 62 111 [vR 30, vI l1, vL l2, vN, vI l4, vI l5, vL l6, vN, vI l8, vI l9] [] M Q := by
  refine w_iincE (ls' := [vR 30, vI l1, vL l2, vN, vI l4, vI l5, vL l6, vN, vI (w32 (l8 + 1)), vI l9]) d62_111 rfl rfl ?_
  refine w_goto (tgt := 73) d62_114 rfl ?_
  exact k
theorem B_Pr_learnTerm_117 {X : vX} {d : Nat} {M : vM} {Q : Option vV → vM → Prop} {l1 l2 l4 l5 l6 l8 : Int} {w9 : vV}  (k : vw X d 62 40 [vR 30, vI l1, vL l2, vN, vI l4, vI (w32 (l5 + 1)), vL l6, vN, vI l8, w9] [] M Q) : vw X d 62 117 [vR 30, vI l1, vL l2, vN, vI l4, vI l5, vL l6, vN, vI l8, w9] [] M Q := by
  refine w_iincE (ls' := [vR 30, vI l1, vL l2, vN, vI l4, vI (w32 (l5 + 1)), vL l6, vN, vI l8, w9]) d62_117 rfl rfl ?_
  refine w_goto (tgt := 40) d62_120 rfl ?_
  exact k
theorem B_Pr_learnTerm_123 {X : vX} {d : Nat} {M : vM} {Q : Option vV → vM → Prop} {l1 l2 l4 l5 : Int} {w6 w8 w9 : vV}  (k : vw X d 62 31 [vR 30, vI l1, vL l2, vN, vI (w32 (l4 + 1)), vI l5, w6, vN, w8, w9] [] M Q) : vw X d 62 123 [vR 30, vI l1, vL l2, vN, vI l4, vI l5, w6, vN, w8, w9] [] M Q := by
  refine w_iincE (ls' := [vR 30, vI l1, vL l2, vN, vI (w32 (l4 + 1)), vI l5, w6, vN, w8, w9]) d62_123 rfl rfl ?_
  refine w_goto (tgt := 31) d62_126 rfl ?_
  exact k
theorem B_Pr_learnTerm_129 {X : vX} {d : Nat} {M : vM} {Q : Option vV → vM → Prop} {l1 l2 l4 : Int} {w5 w6 w8 w9 : vV}  (k : Q none M) : vw X d 62 129 [vR 30, vI l1, vL l2, vN, vI l4, w5, w6, vN, w8, w9] [] M Q := by
  exact w_vret d62_129 r62 ⟨_, rfl, k⟩
theorem E_Pr_learnTerm {X : vX} {d : Nat} {M : vM} {Q : Option vV → vM → Prop} {l1 l2 : Int} (k : vw X d 62 0 [vR 30, vI l1, vL l2, vN, vN, vN, vN, vN, vN, vN] [] M Q) : cq X (d + 1) 62 [vR 30, vI l1, vL l2] M Q := wc_in (Nat.le_of_ble_eq_true rfl) (Nat.le_of_ble_eq_true rfl) k
theorem cd63 : vm_cd 63 = cX4_weigh := rfl
theorem d63_0 : decode (vm_cd 63) 0 = .ok (.aload_n 0, 1) := (congrArg (fun b => decode b 0) cd63).trans (by decide +kernel)
theorem d63_1 : decode (vm_cd 63) 1 = .ok (.iload 4, 2) := (congrArg (fun b => decode b 1) cd63).trans (by decide +kernel)
theorem d63_3 : decode (vm_cd 63) 3 = .ok (.iload 6, 2) := (congrArg (fun b => decode b 3) cd63).trans (by decide +kernel)
theorem d63_5 : decode (vm_cd 63) 5 = .ok (.iload 7, 2) := (congrArg (fun b => decode b 5) cd63).trans (by decide +kernel)
theorem d63_7 : decode (vm_cd 63) 7 = .ok (.invokevirtual 55, 3) := (congrArg (fun b => decode b 7) cd63).trans (by decide +kernel)
theorem d63_10 : decode (vm_cd 63) 10 = .ok (.istore 8, 2) := (congrArg (fun b => decode b 10) cd63).trans (by decide +kernel)
theorem d63_12 : decode (vm_cd 63) 12 = .ok (.iload 5, 2) := (congrArg (fun b => decode b 12) cd63).trans (by decide +kernel)
theorem d63_14 : decode (vm_cd 63) 14 = .ok (.aload_n 0, 1) := (congrArg (fun b => decode b 14) cd63).trans (by decide +kernel)
theorem d63_15 : decode (vm_cd 63) 15 = .ok (.getfield 11, 3) := (congrArg (fun b => decode b 15) cd63).trans (by decide +kernel)
theorem d63_18 : decode (vm_cd 63) 18 = .ok (.iload 4, 2) := (congrArg (fun b => decode b 18) cd63).trans (by decide +kernel)
theorem d63_20 : decode (vm_cd 63) 20 = .ok (.iaload, 1) := (congrArg (fun b => decode b 20) cd63).trans (by decide +kernel)
theorem d63_21 : decode (vm_cd 63) 21 = .ok (.isub, 1) := (congrArg (fun b => decode b 21) cd63).trans (by decide +kernel)
theorem d63_22 : decode (vm_cd 63) 22 = .ok (.iload 8, 2) := (congrArg (fun b => decode b 22) cd63).trans (by decide +kernel)
theorem d63_24 : decode (vm_cd 63) 24 = .ok (.bipush 12, 2) := (congrArg (fun b => decode b 24) cd63).trans (by decide +kernel)
theorem d63_26 : decode (vm_cd 63) 26 = .ok (.idiv, 1) := (congrArg (fun b => decode b 26) cd63).trans (by decide +kernel)
theorem d63_27 : decode (vm_cd 63) 27 = .ok (.iadd, 1) := (congrArg (fun b => decode b 27) cd63).trans (by decide +kernel)
theorem d63_28 : decode (vm_cd 63) 28 = .ok (.istore 9, 2) := (congrArg (fun b => decode b 28) cd63).trans (by decide +kernel)
theorem d63_30 : decode (vm_cd 63) 30 = .ok (.iload 8, 2) := (congrArg (fun b => decode b 30) cd63).trans (by decide +kernel)
theorem d63_32 : decode (vm_cd 63) 32 = .ok (.bipush 12, 2) := (congrArg (fun b => decode b 32) cd63).trans (by decide +kernel)
theorem d63_34 : decode (vm_cd 63) 34 = .ok (.irem, 1) := (congrArg (fun b => decode b 34) cd63).trans (by decide +kernel)
theorem d63_35 : decode (vm_cd 63) 35 = .ok (.ifCond .ne 60, 3) := (congrArg (fun b => decode b 35) cd63).trans (by decide +kernel)
theorem d63_38 : decode (vm_cd 63) 38 = .ok (.iload 9, 2) := (congrArg (fun b => decode b 38) cd63).trans (by decide +kernel)
theorem d63_40 : decode (vm_cd 63) 40 = .ok (.invokestatic 59, 3) := (congrArg (fun b => decode b 40) cd63).trans (by decide +kernel)
theorem d63_43 : decode (vm_cd 63) 43 = .ok (.ifCond .eq 52, 3) := (congrArg (fun b => decode b 43) cd63).trans (by decide +kernel)
theorem d63_46 : decode (vm_cd 63) 46 = .ok (.aload_n 0, 1) := (congrArg (fun b => decode b 46) cd63).trans (by decide +kernel)
theorem d63_47 : decode (vm_cd 63) 47 = .ok (.iload 4, 2) := (congrArg (fun b => decode b 47) cd63).trans (by decide +kernel)
theorem d63_49 : decode (vm_cd 63) 49 = .ok (.iload 6, 2) := (congrArg (fun b => decode b 49) cd63).trans (by decide +kernel)
theorem d63_51 : decode (vm_cd 63) 51 = .ok (.iload 7, 2) := (congrArg (fun b => decode b 51) cd63).trans (by decide +kernel)
theorem d63_53 : decode (vm_cd 63) 53 = .ok (.invokevirtual 63, 3) := (congrArg (fun b => decode b 53) cd63).trans (by decide +kernel)
theorem d63_56 : decode (vm_cd 63) 56 = .ok (.ifCond .eq 39, 3) := (congrArg (fun b => decode b 56) cd63).trans (by decide +kernel)
theorem d63_59 : decode (vm_cd 63) 59 = .ok (.aload_n 0, 1) := (congrArg (fun b => decode b 59) cd63).trans (by decide +kernel)
theorem d63_60 : decode (vm_cd 63) 60 = .ok (.getfield 20, 3) := (congrArg (fun b => decode b 60) cd63).trans (by decide +kernel)
theorem d63_63 : decode (vm_cd 63) 63 = .ok (.iload_n 1, 1) := (congrArg (fun b => decode b 63) cd63).trans (by decide +kernel)
theorem d63_64 : decode (vm_cd 63) 64 = .ok (.iconst 1, 1) := (congrArg (fun b => decode b 64) cd63).trans (by decide +kernel)
theorem d63_65 : decode (vm_cd 63) 65 = .ok (.isub, 1) := (congrArg (fun b => decode b 65) cd63).trans (by decide +kernel)
theorem d63_66 : decode (vm_cd 63) 66 = .ok (.aaload, 1) := (congrArg (fun b => decode b 66) cd63).trans (by decide +kernel)
theorem d63_67 : decode (vm_cd 63) 67 = .ok (.iload 6, 2) := (congrArg (fun b => decode b 67) cd63).trans (by decide +kernel)
theorem d63_69 : decode (vm_cd 63) 69 = .ok (.laload, 1) := (congrArg (fun b => decode b 69) cd63).trans (by decide +kernel)
theorem d63_70 : decode (vm_cd 63) 70 = .ok (.ldc2_w 43, 3) := (congrArg (fun b => decode b 70) cd63).trans (by decide +kernel)
theorem d63_73 : decode (vm_cd 63) 73 = .ok (.lcmp, 1) := (congrArg (fun b => decode b 73) cd63).trans (by decide +kernel)
theorem d63_74 : decode (vm_cd 63) 74 = .ok (.ifCond .eq 21, 3) := (congrArg (fun b => decode b 74) cd63).trans (by decide +kernel)
theorem d63_77 : decode (vm_cd 63) 77 = .ok (.aload_n 0, 1) := (congrArg (fun b => decode b 77) cd63).trans (by decide +kernel)
theorem d63_78 : decode (vm_cd 63) 78 = .ok (.getfield 20, 3) := (congrArg (fun b => decode b 78) cd63).trans (by decide +kernel)
theorem d63_81 : decode (vm_cd 63) 81 = .ok (.iload_n 1, 1) := (congrArg (fun b => decode b 81) cd63).trans (by decide +kernel)
theorem d63_82 : decode (vm_cd 63) 82 = .ok (.iconst 1, 1) := (congrArg (fun b => decode b 82) cd63).trans (by decide +kernel)
theorem d63_83 : decode (vm_cd 63) 83 = .ok (.isub, 1) := (congrArg (fun b => decode b 83) cd63).trans (by decide +kernel)
theorem d63_84 : decode (vm_cd 63) 84 = .ok (.aaload, 1) := (congrArg (fun b => decode b 84) cd63).trans (by decide +kernel)
theorem d63_85 : decode (vm_cd 63) 85 = .ok (.iload 7, 2) := (congrArg (fun b => decode b 85) cd63).trans (by decide +kernel)
theorem d63_87 : decode (vm_cd 63) 87 = .ok (.laload, 1) := (congrArg (fun b => decode b 87) cd63).trans (by decide +kernel)
theorem d63_88 : decode (vm_cd 63) 88 = .ok (.ldc2_w 43, 3) := (congrArg (fun b => decode b 88) cd63).trans (by decide +kernel)
theorem d63_91 : decode (vm_cd 63) 91 = .ok (.lcmp, 1) := (congrArg (fun b => decode b 91) cd63).trans (by decide +kernel)
theorem d63_92 : decode (vm_cd 63) 92 = .ok (.ifCond .ne 4, 3) := (congrArg (fun b => decode b 92) cd63).trans (by decide +kernel)
theorem d63_95 : decode (vm_cd 63) 95 = .ok (.return_, 1) := (congrArg (fun b => decode b 95) cd63).trans (by decide +kernel)
theorem d63_96 : decode (vm_cd 63) 96 = .ok (.lload_n 2, 1) := (congrArg (fun b => decode b 96) cd63).trans (by decide +kernel)
theorem d63_97 : decode (vm_cd 63) 97 = .ok (.aload_n 0, 1) := (congrArg (fun b => decode b 97) cd63).trans (by decide +kernel)
theorem d63_98 : decode (vm_cd 63) 98 = .ok (.getfield 15, 3) := (congrArg (fun b => decode b 98) cd63).trans (by decide +kernel)
theorem d63_101 : decode (vm_cd 63) 101 = .ok (.iload 4, 2) := (congrArg (fun b => decode b 101) cd63).trans (by decide +kernel)
theorem d63_103 : decode (vm_cd 63) 103 = .ok (.iaload, 1) := (congrArg (fun b => decode b 103) cd63).trans (by decide +kernel)
theorem d63_104 : decode (vm_cd 63) 104 = .ok (.i2l, 1) := (congrArg (fun b => decode b 104) cd63).trans (by decide +kernel)
theorem d63_105 : decode (vm_cd 63) 105 = .ok (.aload_n 0, 1) := (congrArg (fun b => decode b 105) cd63).trans (by decide +kernel)
theorem d63_106 : decode (vm_cd 63) 106 = .ok (.getfield 20, 3) := (congrArg (fun b => decode b 106) cd63).trans (by decide +kernel)
theorem d63_109 : decode (vm_cd 63) 109 = .ok (.iload_n 1, 1) := (congrArg (fun b => decode b 109) cd63).trans (by decide +kernel)
theorem d63_110 : decode (vm_cd 63) 110 = .ok (.iconst 1, 1) := (congrArg (fun b => decode b 110) cd63).trans (by decide +kernel)
theorem d63_111 : decode (vm_cd 63) 111 = .ok (.isub, 1) := (congrArg (fun b => decode b 111) cd63).trans (by decide +kernel)
theorem d63_112 : decode (vm_cd 63) 112 = .ok (.aaload, 1) := (congrArg (fun b => decode b 112) cd63).trans (by decide +kernel)
theorem d63_113 : decode (vm_cd 63) 113 = .ok (.iload 6, 2) := (congrArg (fun b => decode b 113) cd63).trans (by decide +kernel)
theorem d63_115 : decode (vm_cd 63) 115 = .ok (.laload, 1) := (congrArg (fun b => decode b 115) cd63).trans (by decide +kernel)
theorem d63_116 : decode (vm_cd 63) 116 = .ok (.lmul, 1) := (congrArg (fun b => decode b 116) cd63).trans (by decide +kernel)
theorem d63_117 : decode (vm_cd 63) 117 = .ok (.ladd, 1) := (congrArg (fun b => decode b 117) cd63).trans (by decide +kernel)
theorem d63_118 : decode (vm_cd 63) 118 = .ok (.bipush 12, 2) := (congrArg (fun b => decode b 118) cd63).trans (by decide +kernel)
theorem d63_120 : decode (vm_cd 63) 120 = .ok (.aload_n 0, 1) := (congrArg (fun b => decode b 120) cd63).trans (by decide +kernel)
theorem d63_121 : decode (vm_cd 63) 121 = .ok (.getfield 15, 3) := (congrArg (fun b => decode b 121) cd63).trans (by decide +kernel)
theorem d63_124 : decode (vm_cd 63) 124 = .ok (.iload 4, 2) := (congrArg (fun b => decode b 124) cd63).trans (by decide +kernel)
theorem d63_126 : decode (vm_cd 63) 126 = .ok (.iaload, 1) := (congrArg (fun b => decode b 126) cd63).trans (by decide +kernel)
theorem d63_127 : decode (vm_cd 63) 127 = .ok (.isub, 1) := (congrArg (fun b => decode b 127) cd63).trans (by decide +kernel)
theorem d63_128 : decode (vm_cd 63) 128 = .ok (.i2l, 1) := (congrArg (fun b => decode b 128) cd63).trans (by decide +kernel)
theorem d63_129 : decode (vm_cd 63) 129 = .ok (.aload_n 0, 1) := (congrArg (fun b => decode b 129) cd63).trans (by decide +kernel)
theorem d63_130 : decode (vm_cd 63) 130 = .ok (.getfield 20, 3) := (congrArg (fun b => decode b 130) cd63).trans (by decide +kernel)
theorem d63_133 : decode (vm_cd 63) 133 = .ok (.iload_n 1, 1) := (congrArg (fun b => decode b 133) cd63).trans (by decide +kernel)
theorem d63_134 : decode (vm_cd 63) 134 = .ok (.iconst 1, 1) := (congrArg (fun b => decode b 134) cd63).trans (by decide +kernel)
theorem d63_135 : decode (vm_cd 63) 135 = .ok (.isub, 1) := (congrArg (fun b => decode b 135) cd63).trans (by decide +kernel)
theorem d63_136 : decode (vm_cd 63) 136 = .ok (.aaload, 1) := (congrArg (fun b => decode b 136) cd63).trans (by decide +kernel)
theorem d63_137 : decode (vm_cd 63) 137 = .ok (.iload 7, 2) := (congrArg (fun b => decode b 137) cd63).trans (by decide +kernel)
theorem d63_139 : decode (vm_cd 63) 139 = .ok (.laload, 1) := (congrArg (fun b => decode b 139) cd63).trans (by decide +kernel)
theorem d63_140 : decode (vm_cd 63) 140 = .ok (.lmul, 1) := (congrArg (fun b => decode b 140) cd63).trans (by decide +kernel)
theorem d63_141 : decode (vm_cd 63) 141 = .ok (.ladd, 1) := (congrArg (fun b => decode b 141) cd63).trans (by decide +kernel)
theorem d63_142 : decode (vm_cd 63) 142 = .ok (.lstore 10, 2) := (congrArg (fun b => decode b 142) cd63).trans (by decide +kernel)
theorem d63_144 : decode (vm_cd 63) 144 = .ok (.lload 10, 2) := (congrArg (fun b => decode b 144) cd63).trans (by decide +kernel)
theorem d63_146 : decode (vm_cd 63) 146 = .ok (.aload_n 0, 1) := (congrArg (fun b => decode b 146) cd63).trans (by decide +kernel)
theorem d63_147 : decode (vm_cd 63) 147 = .ok (.getfield 20, 3) := (congrArg (fun b => decode b 147) cd63).trans (by decide +kernel)
theorem d63_150 : decode (vm_cd 63) 150 = .ok (.iload_n 1, 1) := (congrArg (fun b => decode b 150) cd63).trans (by decide +kernel)
theorem d63_151 : decode (vm_cd 63) 151 = .ok (.aaload, 1) := (congrArg (fun b => decode b 151) cd63).trans (by decide +kernel)
theorem d63_152 : decode (vm_cd 63) 152 = .ok (.iload 9, 2) := (congrArg (fun b => decode b 152) cd63).trans (by decide +kernel)
theorem d63_154 : decode (vm_cd 63) 154 = .ok (.laload, 1) := (congrArg (fun b => decode b 154) cd63).trans (by decide +kernel)
theorem d63_155 : decode (vm_cd 63) 155 = .ok (.lcmp, 1) := (congrArg (fun b => decode b 155) cd63).trans (by decide +kernel)
theorem d63_156 : decode (vm_cd 63) 156 = .ok (.ifCond .le 72, 3) := (congrArg (fun b => decode b 156) cd63).trans (by decide +kernel)
theorem d63_159 : decode (vm_cd 63) 159 = .ok (.aload_n 0, 1) := (congrArg (fun b => decode b 159) cd63).trans (by decide +kernel)
theorem d63_160 : decode (vm_cd 63) 160 = .ok (.getfield 20, 3) := (congrArg (fun b => decode b 160) cd63).trans (by decide +kernel)
theorem d63_163 : decode (vm_cd 63) 163 = .ok (.iload_n 1, 1) := (congrArg (fun b => decode b 163) cd63).trans (by decide +kernel)
theorem d63_164 : decode (vm_cd 63) 164 = .ok (.aaload, 1) := (congrArg (fun b => decode b 164) cd63).trans (by decide +kernel)
theorem d63_165 : decode (vm_cd 63) 165 = .ok (.iload 9, 2) := (congrArg (fun b => decode b 165) cd63).trans (by decide +kernel)
theorem d63_167 : decode (vm_cd 63) 167 = .ok (.lload 10, 2) := (congrArg (fun b => decode b 167) cd63).trans (by decide +kernel)
theorem d63_169 : decode (vm_cd 63) 169 = .ok (.lastore, 1) := (congrArg (fun b => decode b 169) cd63).trans (by decide +kernel)
theorem d63_170 : decode (vm_cd 63) 170 = .ok (.aload_n 0, 1) := (congrArg (fun b => decode b 170) cd63).trans (by decide +kernel)
theorem d63_171 : decode (vm_cd 63) 171 = .ok (.getfield 25, 3) := (congrArg (fun b => decode b 171) cd63).trans (by decide +kernel)
theorem d63_174 : decode (vm_cd 63) 174 = .ok (.iload_n 1, 1) := (congrArg (fun b => decode b 174) cd63).trans (by decide +kernel)
theorem d63_175 : decode (vm_cd 63) 175 = .ok (.aaload, 1) := (congrArg (fun b => decode b 175) cd63).trans (by decide +kernel)
theorem d63_176 : decode (vm_cd 63) 176 = .ok (.iload 9, 2) := (congrArg (fun b => decode b 176) cd63).trans (by decide +kernel)
theorem d63_178 : decode (vm_cd 63) 178 = .ok (.iconst 4, 1) := (congrArg (fun b => decode b 178) cd63).trans (by decide +kernel)
theorem d63_179 : decode (vm_cd 63) 179 = .ok (.imul, 1) := (congrArg (fun b => decode b 179) cd63).trans (by decide +kernel)
theorem d63_180 : decode (vm_cd 63) 180 = .ok (.iload 4, 2) := (congrArg (fun b => decode b 180) cd63).trans (by decide +kernel)
theorem d63_182 : decode (vm_cd 63) 182 = .ok (.iastore, 1) := (congrArg (fun b => decode b 182) cd63).trans (by decide +kernel)
theorem d63_183 : decode (vm_cd 63) 183 = .ok (.aload_n 0, 1) := (congrArg (fun b => decode b 183) cd63).trans (by decide +kernel)
theorem d63_184 : decode (vm_cd 63) 184 = .ok (.getfield 25, 3) := (congrArg (fun b => decode b 184) cd63).trans (by decide +kernel)
theorem d63_187 : decode (vm_cd 63) 187 = .ok (.iload_n 1, 1) := (congrArg (fun b => decode b 187) cd63).trans (by decide +kernel)
theorem d63_188 : decode (vm_cd 63) 188 = .ok (.aaload, 1) := (congrArg (fun b => decode b 188) cd63).trans (by decide +kernel)
theorem d63_189 : decode (vm_cd 63) 189 = .ok (.iload 9, 2) := (congrArg (fun b => decode b 189) cd63).trans (by decide +kernel)
theorem d63_191 : decode (vm_cd 63) 191 = .ok (.iconst 4, 1) := (congrArg (fun b => decode b 191) cd63).trans (by decide +kernel)
theorem d63_192 : decode (vm_cd 63) 192 = .ok (.imul, 1) := (congrArg (fun b => decode b 192) cd63).trans (by decide +kernel)
theorem d63_193 : decode (vm_cd 63) 193 = .ok (.iconst 1, 1) := (congrArg (fun b => decode b 193) cd63).trans (by decide +kernel)
theorem d63_194 : decode (vm_cd 63) 194 = .ok (.iadd, 1) := (congrArg (fun b => decode b 194) cd63).trans (by decide +kernel)
theorem d63_195 : decode (vm_cd 63) 195 = .ok (.iload 5, 2) := (congrArg (fun b => decode b 195) cd63).trans (by decide +kernel)
theorem d63_197 : decode (vm_cd 63) 197 = .ok (.iastore, 1) := (congrArg (fun b => decode b 197) cd63).trans (by decide +kernel)
theorem d63_198 : decode (vm_cd 63) 198 = .ok (.aload_n 0, 1) := (congrArg (fun b => decode b 198) cd63).trans (by decide +kernel)
theorem d63_199 : decode (vm_cd 63) 199 = .ok (.getfield 25, 3) := (congrArg (fun b => decode b 199) cd63).trans (by decide +kernel)
theorem d63_202 : decode (vm_cd 63) 202 = .ok (.iload_n 1, 1) := (congrArg (fun b => decode b 202) cd63).trans (by decide +kernel)
theorem d63_203 : decode (vm_cd 63) 203 = .ok (.aaload, 1) := (congrArg (fun b => decode b 203) cd63).trans (by decide +kernel)
theorem d63_204 : decode (vm_cd 63) 204 = .ok (.iload 9, 2) := (congrArg (fun b => decode b 204) cd63).trans (by decide +kernel)
theorem d63_206 : decode (vm_cd 63) 206 = .ok (.iconst 4, 1) := (congrArg (fun b => decode b 206) cd63).trans (by decide +kernel)
theorem d63_207 : decode (vm_cd 63) 207 = .ok (.imul, 1) := (congrArg (fun b => decode b 207) cd63).trans (by decide +kernel)
theorem d63_208 : decode (vm_cd 63) 208 = .ok (.iconst 2, 1) := (congrArg (fun b => decode b 208) cd63).trans (by decide +kernel)
theorem d63_209 : decode (vm_cd 63) 209 = .ok (.iadd, 1) := (congrArg (fun b => decode b 209) cd63).trans (by decide +kernel)
theorem d63_210 : decode (vm_cd 63) 210 = .ok (.iload 6, 2) := (congrArg (fun b => decode b 210) cd63).trans (by decide +kernel)
theorem d63_212 : decode (vm_cd 63) 212 = .ok (.iastore, 1) := (congrArg (fun b => decode b 212) cd63).trans (by decide +kernel)
theorem d63_213 : decode (vm_cd 63) 213 = .ok (.aload_n 0, 1) := (congrArg (fun b => decode b 213) cd63).trans (by decide +kernel)
theorem d63_214 : decode (vm_cd 63) 214 = .ok (.getfield 25, 3) := (congrArg (fun b => decode b 214) cd63).trans (by decide +kernel)
theorem d63_217 : decode (vm_cd 63) 217 = .ok (.iload_n 1, 1) := (congrArg (fun b => decode b 217) cd63).trans (by decide +kernel)
theorem d63_218 : decode (vm_cd 63) 218 = .ok (.aaload, 1) := (congrArg (fun b => decode b 218) cd63).trans (by decide +kernel)
theorem d63_219 : decode (vm_cd 63) 219 = .ok (.iload 9, 2) := (congrArg (fun b => decode b 219) cd63).trans (by decide +kernel)
theorem d63_221 : decode (vm_cd 63) 221 = .ok (.iconst 4, 1) := (congrArg (fun b => decode b 221) cd63).trans (by decide +kernel)
theorem d63_222 : decode (vm_cd 63) 222 = .ok (.imul, 1) := (congrArg (fun b => decode b 222) cd63).trans (by decide +kernel)
theorem d63_223 : decode (vm_cd 63) 223 = .ok (.iconst 3, 1) := (congrArg (fun b => decode b 223) cd63).trans (by decide +kernel)
theorem d63_224 : decode (vm_cd 63) 224 = .ok (.iadd, 1) := (congrArg (fun b => decode b 224) cd63).trans (by decide +kernel)
theorem d63_225 : decode (vm_cd 63) 225 = .ok (.iload 7, 2) := (congrArg (fun b => decode b 225) cd63).trans (by decide +kernel)
theorem d63_227 : decode (vm_cd 63) 227 = .ok (.iastore, 1) := (congrArg (fun b => decode b 227) cd63).trans (by decide +kernel)
theorem d63_228 : decode (vm_cd 63) 228 = .ok (.return_, 1) := (congrArg (fun b => decode b 228) cd63).trans (by decide +kernel)
theorem f63_11 : vm_fl.lookup (vm_own 63, 11) = some (4, 0, 96) := by decide +kernel
theorem f63_15 : vm_fl.lookup (vm_own 63, 15) = some (4, 1, 97) := by decide +kernel
theorem f63_20 : vm_fl.lookup (vm_own 63, 20) = some (4, 2, 98) := by decide +kernel
theorem f63_25 : vm_fl.lookup (vm_own 63, 25) = some (4, 3, 99) := by decide +kernel
theorem c63_55 : vm_ml.lookup (vm_own 63, 55) = some (0, 64, 3, 604, 606, 14, 6) := vm_lk (by decide +kernel)
theorem c63_59 : vm_ml.lookup (vm_own 63, 59) = some (1, 56, 1, 608, 585, 0, 6) := vm_lk (by decide +kernel)
theorem c63_63 : vm_ml.lookup (vm_own 63, 63) = some (0, 65, 3, 609, 611, 15, 6) := vm_lk (by decide +kernel)
theorem g63_43 : vm_cn.lookup (vm_own 63, 43) = some ((1), (-9223372036854775808), (595)) := by decide +kernel
theorem r63 : vm_rt 63 = none := by decide +kernel
theorem B_Pr_weigh_0 {X : vX} {d : Nat} {M : vM} {Q : Option vV → vM → Prop} {l1 l2 l4 l5 l6 l7 : Int}  (k : cq X d 64 [vR 30, vI l4, vI l6, vI l7] M (fun r M1 => wp X d 63 10 [vR 30, vI l1, vL l2, vN, vI l4, vI l5, vI l6, vI l7, vN, vN, vN, vN] (r.toList ++ []) (vS0, M1) (vP Q))) : vw X d 63 0 [vR 30, vI l1, vL l2, vN, vI l4, vI l5, vI l6, vI l7, vN, vN, vN, vN] [] M Q := by
  refine w_aload_n d63_0 rfl ?_
  refine w_iload d63_1 rfl ?_
  refine w_iload d63_3 rfl ?_
  refine w_iload d63_5 rfl ?_
  exact w_inv0 (a := 30) (c := 4) d63_7 c63_55 rfl rfl rfl v64 (Nat.le_of_ble_eq_true rfl) (cq.cl (k))
theorem B_Pr_weigh_10 {X : vX} {d : Nat} {M : vM} {Q : Option vV → vM → Prop} {l1 l2 l4 l5 l6 l7 s0 : Int} (hR : vRefs M) (h1 : 0 ≤ l4 ∧ l4 < (2 : Nat)) (k1 : ¬ (j_irem s0 12) = 0 → vw X d 63 95 [vR 30, vI l1, vL l2, vN, vI l4, vI l5, vI l6, vI l7, vI s0, vI (w32 ((w32 (l5 - (M 31 l4.toNat))) + (j_idiv s0 12))), vN, vN] [] M Q) (k2 : (j_irem s0 12) = 0 → vw X d 63 38 [vR 30, vI l1, vL l2, vN, vI l4, vI l5, vI l6, vI l7, vI s0, vI (w32 ((w32 (l5 - (M 31 l4.toNat))) + (j_idiv s0 12))), vN, vN] [] M Q) : vw X d 63 10 [vR 30, vI l1, vL l2, vN, vI l4, vI l5, vI l6, vI l7, vN, vN, vN, vN] [vI s0] M Q := by
  refine w_istoreE (ls' := [vR 30, vI l1, vL l2, vN, vI l4, vI l5, vI l6, vI l7, vI s0, vN, vN, vN]) d63_10 (Nat.le_of_ble_eq_true rfl) rfl ?_
  refine w_iload d63_12 rfl ?_
  refine w_aload_n d63_14 rfl ?_
  refine w_getf (a := 30) (v := vR 31) d63_15 f63_11 rfl rfl (congrArg vR (rf_30_0 hR)) ?_
  refine w_iload d63_18 rfl ?_
  refine w_iaload (a := 31) d63_20 rfl rfl h1 ?_
  refine w_isub d63_21 ?_
  refine w_iload d63_22 rfl ?_
  refine w_bi (v := 12) d63_24 rfl ?_
  refine w_idiv d63_26 (by decide) ?_
  refine w_iadd d63_27 ?_
  refine w_istoreE (ls' := [vR 30, vI l1, vL l2, vN, vI l4, vI l5, vI l6, vI l7, vI s0, vI (w32 ((w32 (l5 - (M 31 l4.toNat))) + (j_idiv s0 12))), vN, vN]) d63_28 (Nat.le_of_ble_eq_true rfl) rfl ?_
  refine w_iload d63_30 rfl ?_
  refine w_bi (v := 12) d63_32 rfl ?_
  refine w_irem d63_34 (by decide) ?_
  exact w_if_ne d63_35 rfl (fun h => k1 h) (fun h => k2 h)
theorem B_Pr_weigh_38 {X : vX} {d : Nat} {M : vM} {Q : Option vV → vM → Prop} {l1 l2 l4 l5 l6 l7 l8 l9 : Int}  (k : cq X d 56 [vI l9] M (fun r M1 => wp X d 63 43 [vR 30, vI l1, vL l2, vN, vI l4, vI l5, vI l6, vI l7, vI l8, vI l9, vN, vN] (r.toList ++ []) (vS0, M1) (vP Q))) : vw X d 63 38 [vR 30, vI l1, vL l2, vN, vI l4, vI l5, vI l6, vI l7, vI l8, vI l9, vN, vN] [] M Q := by
  refine w_iload d63_38 rfl ?_
  exact w_inv1 d63_40 c63_59 (by decide) rfl (Nat.le_of_ble_eq_true rfl) (cq.cl (k))
theorem B_Pr_weigh_43 {X : vX} {d : Nat} {M : vM} {Q : Option vV → vM → Prop} {l1 l2 l4 l5 l6 l7 l8 l9 s0 : Int}  (k1 : s0 = 0 → vw X d 63 95 [vR 30, vI l1, vL l2, vN, vI l4, vI l5, vI l6, vI l7, vI l8, vI l9, vN, vN] [] M Q) (k2 : ¬ s0 = 0 → vw X d 63 46 [vR 30, vI l1, vL l2, vN, vI l4, vI l5, vI l6, vI l7, vI l8, vI l9, vN, vN] [] M Q) : vw X d 63 43 [vR 30, vI l1, vL l2, vN, vI l4, vI l5, vI l6, vI l7, vI l8, vI l9, vN, vN] [vI s0] M Q := by
  exact w_if_eq d63_43 rfl (fun h => k1 h) (fun h => k2 h)
theorem B_Pr_weigh_46 {X : vX} {d : Nat} {M : vM} {Q : Option vV → vM → Prop} {l1 l2 l4 l5 l6 l7 l8 l9 : Int}  (k : cq X d 65 [vR 30, vI l4, vI l6, vI l7] M (fun r M1 => wp X d 63 56 [vR 30, vI l1, vL l2, vN, vI l4, vI l5, vI l6, vI l7, vI l8, vI l9, vN, vN] (r.toList ++ []) (vS0, M1) (vP Q))) : vw X d 63 46 [vR 30, vI l1, vL l2, vN, vI l4, vI l5, vI l6, vI l7, vI l8, vI l9, vN, vN] [] M Q := by
  refine w_aload_n d63_46 rfl ?_
  refine w_iload d63_47 rfl ?_
  refine w_iload d63_49 rfl ?_
  refine w_iload d63_51 rfl ?_
  exact w_inv0 (a := 30) (c := 4) d63_53 c63_63 rfl rfl rfl v65 (Nat.le_of_ble_eq_true rfl) (cq.cl (k))
theorem B_Pr_weigh_56 {X : vX} {d : Nat} {M : vM} {Q : Option vV → vM → Prop} {l1 l2 l4 l5 l6 l7 l8 l9 s0 : Int}  (k1 : s0 = 0 → vw X d 63 95 [vR 30, vI l1, vL l2, vN, vI l4, vI l5, vI l6, vI l7, vI l8, vI l9, vN, vN] [] M Q) (k2 : ¬ s0 = 0 → vw X d 63 59 [vR 30, vI l1, vL l2, vN, vI l4, vI l5, vI l6, vI l7, vI l8, vI l9, vN, vN] [] M Q) : vw X d 63 56 [vR 30, vI l1, vL l2, vN, vI l4, vI l5, vI l6, vI l7, vI l8, vI l9, vN, vN] [vI s0] M Q := by
  exact w_if_eq d63_56 rfl (fun h => k1 h) (fun h => k2 h)
theorem B_Pr_weigh_59 {X : vX} {d : Nat} {M : vM} {Q : Option vV → vM → Prop} {l1 l2 l4 l5 l6 l7 l8 l9 : Int} (hR : vRefs M) (h1 : 0 ≤ (w32 (l1 - 1)) ∧ (w32 (l1 - 1)) < (7 : Nat)) (h2 : 0 ≤ l6 ∧ l6 < (13 : Nat)) (k1 : (M ((34 + (w32 (l1 - 1)).toNat)) l6.toNat) = ((-9223372036854775808)) → vw X d 63 95 [vR 30, vI l1, vL l2, vN, vI l4, vI l5, vI l6, vI l7, vI l8, vI l9, vN, vN] [] M Q) (k2 : ¬ (M ((34 + (w32 (l1 - 1)).toNat)) l6.toNat) = ((-9223372036854775808)) → vw X d 63 77 [vR 30, vI l1, vL l2, vN, vI l4, vI l5, vI l6, vI l7, vI l8, vI l9, vN, vN] [] M Q) : vw X d 63 59 [vR 30, vI l1, vL l2, vN, vI l4, vI l5, vI l6, vI l7, vI l8, vI l9, vN, vN] [] M Q := by
  refine w_aload_n d63_59 rfl ?_
  refine w_getf (a := 30) (v := vR 33) d63_60 f63_20 rfl rfl (congrArg vR (rf_30_2 hR)) ?_
  refine w_iload_n d63_63 rfl ?_
  refine w_ic (v := 1) d63_64 rfl ?_
  refine w_isub d63_65 ?_
  refine w_aaldE (a := 33) (b := (34 + (w32 (l1 - 1)).toNat)) d63_66 rfl rfl (by decide) h1 (vrow_33 (i := (w32 (l1 - 1))) hR h1) ?_
  refine w_iload d63_67 rfl ?_
  refine w_laload (a := (34 + (w32 (l1 - 1)).toNat)) d63_69 rfl (vrs_33 (i := (w32 (l1 - 1))) h1) h2 ?_
  refine w_ldc2_w (v := (-9223372036854775808)) d63_70 g63_43 rfl ?_
  exact w_lc_eq d63_73 d63_74 rfl (fun h => k1 h) (fun h => k2 h)
theorem B_Pr_weigh_77 {X : vX} {d : Nat} {M : vM} {Q : Option vV → vM → Prop} {l1 l2 l4 l5 l6 l7 l8 l9 : Int} (hR : vRefs M) (h1 : 0 ≤ (w32 (l1 - 1)) ∧ (w32 (l1 - 1)) < (7 : Nat)) (h2 : 0 ≤ l7 ∧ l7 < (13 : Nat)) (k1 : ¬ (M ((34 + (w32 (l1 - 1)).toNat)) l7.toNat) = ((-9223372036854775808)) → vw X d 63 96 [vR 30, vI l1, vL l2, vN, vI l4, vI l5, vI l6, vI l7, vI l8, vI l9, vN, vN] [] M Q) (k2 : (M ((34 + (w32 (l1 - 1)).toNat)) l7.toNat) = ((-9223372036854775808)) → vw X d 63 95 [vR 30, vI l1, vL l2, vN, vI l4, vI l5, vI l6, vI l7, vI l8, vI l9, vN, vN] [] M Q) : vw X d 63 77 [vR 30, vI l1, vL l2, vN, vI l4, vI l5, vI l6, vI l7, vI l8, vI l9, vN, vN] [] M Q := by
  refine w_aload_n d63_77 rfl ?_
  refine w_getf (a := 30) (v := vR 33) d63_78 f63_20 rfl rfl (congrArg vR (rf_30_2 hR)) ?_
  refine w_iload_n d63_81 rfl ?_
  refine w_ic (v := 1) d63_82 rfl ?_
  refine w_isub d63_83 ?_
  refine w_aaldE (a := 33) (b := (34 + (w32 (l1 - 1)).toNat)) d63_84 rfl rfl (by decide) h1 (vrow_33 (i := (w32 (l1 - 1))) hR h1) ?_
  refine w_iload d63_85 rfl ?_
  refine w_laload (a := (34 + (w32 (l1 - 1)).toNat)) d63_87 rfl (vrs_33 (i := (w32 (l1 - 1))) h1) h2 ?_
  refine w_ldc2_w (v := (-9223372036854775808)) d63_88 g63_43 rfl ?_
  exact w_lc_ne d63_91 d63_92 rfl (fun h => k1 h) (fun h => k2 h)
theorem B_Pr_weigh_95 {X : vX} {d : Nat} {M : vM} {Q : Option vV → vM → Prop} {l1 l2 l4 l5 l6 l7 l8 l9 : Int}  (k : Q none M) : vw X d 63 95 [vR 30, vI l1, vL l2, vN, vI l4, vI l5, vI l6, vI l7, vI l8, vI l9, vN, vN] [] M Q := by
  exact w_vret d63_95 r63 ⟨_, rfl, k⟩
theorem B_Pr_weigh_96 {X : vX} {d : Nat} {M : vM} {Q : Option vV → vM → Prop} {l1 l2 l4 l5 l6 l7 l8 l9 : Int} (hR : vRefs M) (h1 : 0 ≤ l4 ∧ l4 < (2 : Nat)) (h2 : 0 ≤ (w32 (l1 - 1)) ∧ (w32 (l1 - 1)) < (7 : Nat)) (h3 : 0 ≤ l6 ∧ l6 < (13 : Nat)) (h4 : 0 ≤ l4 ∧ l4 < (2 : Nat)) (h5 : 0 ≤ (w32 (l1 - 1)) ∧ (w32 (l1 - 1)) < (7 : Nat)) (h6 : 0 ≤ l7 ∧ l7 < (13 : Nat)) (h7 : 0 ≤ l1 ∧ l1 < (7 : Nat)) (h8 : 0 ≤ l9 ∧ l9 < (13 : Nat)) (k1 : (w64 ((w64 (l2 + (w64 ((M 32 l4.toNat) * (M ((34 + (w32 (l1 - 1)).toNat)) l6.toNat))))) + (w64 ((w32 (12 - (M 32 l4.toNat))) * (M ((34 + (w32 (l1 - 1)).toNat)) l7.toNat))))) ≤ (M ((34 + l1.toNat)) l9.toNat) → vw X d 63 228 [vR 30, vI l1, vL l2, vN, vI l4, vI l5, vI l6, vI l7, vI l8, vI l9, vL (w64 ((w64 (l2 + (w64 ((M 32 l4.toNat) * (M ((34 + (w32 (l1 - 1)).toNat)) l6.toNat))))) + (w64 ((w32 (12 - (M 32 l4.toNat))) * (M ((34 + (w32 (l1 - 1)).toNat)) l7.toNat))))), vN] [] M Q) (k2 : (M ((34 + l1.toNat)) l9.toNat) < (w64 ((w64 (l2 + (w64 ((M 32 l4.toNat) * (M ((34 + (w32 (l1 - 1)).toNat)) l6.toNat))))) + (w64 ((w32 (12 - (M 32 l4.toNat))) * (M ((34 + (w32 (l1 - 1)).toNat)) l7.toNat))))) → vw X d 63 159 [vR 30, vI l1, vL l2, vN, vI l4, vI l5, vI l6, vI l7, vI l8, vI l9, vL (w64 ((w64 (l2 + (w64 ((M 32 l4.toNat) * (M ((34 + (w32 (l1 - 1)).toNat)) l6.toNat))))) + (w64 ((w32 (12 - (M 32 l4.toNat))) * (M ((34 + (w32 (l1 - 1)).toNat)) l7.toNat))))), vN] [] M Q) : vw X d 63 96 [vR 30, vI l1, vL l2, vN, vI l4, vI l5, vI l6, vI l7, vI l8, vI l9, vN, vN] [] M Q := by
  refine w_lload_n d63_96 rfl ?_
  refine w_aload_n d63_97 rfl ?_
  refine w_getf (a := 30) (v := vR 32) d63_98 f63_15 rfl rfl (congrArg vR (rf_30_1 hR)) ?_
  refine w_iload d63_101 rfl ?_
  refine w_iaload (a := 32) d63_103 rfl rfl h1 ?_
  refine w_i2l d63_104 ?_
  refine w_aload_n d63_105 rfl ?_
  refine w_getf (a := 30) (v := vR 33) d63_106 f63_20 rfl rfl (congrArg vR (rf_30_2 hR)) ?_
  refine w_iload_n d63_109 rfl ?_
  refine w_ic (v := 1) d63_110 rfl ?_
  refine w_isub d63_111 ?_
  refine w_aaldE (a := 33) (b := (34 + (w32 (l1 - 1)).toNat)) d63_112 rfl rfl (by decide) h2 (vrow_33 (i := (w32 (l1 - 1))) hR h2) ?_
  refine w_iload d63_113 rfl ?_
  refine w_laload (a := (34 + (w32 (l1 - 1)).toNat)) d63_115 rfl (vrs_33 (i := (w32 (l1 - 1))) h2) h3 ?_
  refine w_lmul d63_116 ?_
  refine w_ladd d63_117 ?_
  refine w_bi (v := 12) d63_118 rfl ?_
  refine w_aload_n d63_120 rfl ?_
  refine w_getf (a := 30) (v := vR 32) d63_121 f63_15 rfl rfl (congrArg vR (rf_30_1 hR)) ?_
  refine w_iload d63_124 rfl ?_
  refine w_iaload (a := 32) d63_126 rfl rfl h4 ?_
  refine w_isub d63_127 ?_
  refine w_i2l d63_128 ?_
  refine w_aload_n d63_129 rfl ?_
  refine w_getf (a := 30) (v := vR 33) d63_130 f63_20 rfl rfl (congrArg vR (rf_30_2 hR)) ?_
  refine w_iload_n d63_133 rfl ?_
  refine w_ic (v := 1) d63_134 rfl ?_
  refine w_isub d63_135 ?_
  refine w_aaldE (a := 33) (b := (34 + (w32 (l1 - 1)).toNat)) d63_136 rfl rfl (by decide) h5 (vrow_33 (i := (w32 (l1 - 1))) hR h5) ?_
  refine w_iload d63_137 rfl ?_
  refine w_laload (a := (34 + (w32 (l1 - 1)).toNat)) d63_139 rfl (vrs_33 (i := (w32 (l1 - 1))) h5) h6 ?_
  refine w_lmul d63_140 ?_
  refine w_ladd d63_141 ?_
  refine w_lstoreE (ls' := [vR 30, vI l1, vL l2, vN, vI l4, vI l5, vI l6, vI l7, vI l8, vI l9, vL (w64 ((w64 (l2 + (w64 ((M 32 l4.toNat) * (M ((34 + (w32 (l1 - 1)).toNat)) l6.toNat))))) + (w64 ((w32 (12 - (M 32 l4.toNat))) * (M ((34 + (w32 (l1 - 1)).toNat)) l7.toNat))))), vN]) d63_142 (Nat.le_of_ble_eq_true rfl) rfl ?_
  refine w_lload d63_144 rfl ?_
  refine w_aload_n d63_146 rfl ?_
  refine w_getf (a := 30) (v := vR 33) d63_147 f63_20 rfl rfl (congrArg vR (rf_30_2 hR)) ?_
  refine w_iload_n d63_150 rfl ?_
  refine w_aaldE (a := 33) (b := (34 + l1.toNat)) d63_151 rfl rfl (by decide) h7 (vrow_33 (i := l1) hR h7) ?_
  refine w_iload d63_152 rfl ?_
  refine w_laload (a := (34 + l1.toNat)) d63_154 rfl (vrs_33 (i := l1) h7) h8 ?_
  exact w_lc_le d63_155 d63_156 rfl (fun h => k1 h) (fun h => k2 h)
theorem B_Pr_weigh_159 {X : vX} {d : Nat} {M : vM} {Q : Option vV → vM → Prop} {l1 l2 l4 l5 l6 l7 l8 l9 l10 : Int} (hR : vRefs M) (h1 : 0 ≤ l1 ∧ l1 < (7 : Nat)) (h2 : 0 ≤ l9 ∧ l9 < (13 : Nat)) (h3 : 0 ≤ l1 ∧ l1 < (7 : Nat)) (h4 : 0 ≤ (w32 (l9 * 4)) ∧ (w32 (l9 * 4)) < (52 : Nat)) (h5 : 0 ≤ l1 ∧ l1 < (7 : Nat)) (h6 : 0 ≤ (w32 ((w32 (l9 * 4)) + 1)) ∧ (w32 ((w32 (l9 * 4)) + 1)) < (52 : Nat)) (h7 : 0 ≤ l1 ∧ l1 < (7 : Nat)) (h8 : 0 ≤ (w32 ((w32 (l9 * 4)) + 2)) ∧ (w32 ((w32 (l9 * 4)) + 2)) < (52 : Nat)) (h9 : 0 ≤ l1 ∧ l1 < (7 : Nat)) (h10 : 0 ≤ (w32 ((w32 (l9 * 4)) + 3)) ∧ (w32 ((w32 (l9 * 4)) + 3)) < (52 : Nat)) (k : vRefs (vm_up (vm_up (vm_up (vm_up (vm_up M ((34 + l1.toNat)) l9.toNat l10) ((42 + l1.toNat)) (w32 (l9 * 4)).toNat l4) ((42 + l1.toNat)) (w32 ((w32 (l9 * 4)) + 1)).toNat l5) ((42 + l1.toNat)) (w32 ((w32 (l9 * 4)) + 2)).toNat l6) ((42 + l1.toNat)) (w32 ((w32 (l9 * 4)) + 3)).toNat l7) → Q none (vm_up (vm_up (vm_up (vm_up (vm_up M ((34 + l1.toNat)) l9.toNat l10) ((42 + l1.toNat)) (w32 (l9 * 4)).toNat l4) ((42 + l1.toNat)) (w32 ((w32 (l9 * 4)) + 1)).toNat l5) ((42 + l1.toNat)) (w32 ((w32 (l9 * 4)) + 2)).toNat l6) ((42 + l1.toNat)) (w32 ((w32 (l9 * 4)) + 3)).toNat l7)) : vw X d 63 159 [vR 30, vI l1, vL l2, vN, vI l4, vI l5, vI l6, vI l7, vI l8, vI l9, vL l10, vN] [] M Q := by
  refine w_aload_n d63_159 rfl ?_
  refine w_getf (a := 30) (v := vR 33) d63_160 f63_20 rfl rfl (congrArg vR (rf_30_2 hR)) ?_
  refine w_iload_n d63_163 rfl ?_
  refine w_aaldE (a := 33) (b := (34 + l1.toNat)) d63_164 rfl rfl (by decide) h1 (vrow_33 (i := l1) hR h1) ?_
  refine w_iload d63_165 rfl ?_
  refine w_lload d63_167 rfl ?_
  refine w_last (a := (34 + l1.toNat)) d63_169 rfl (vrs_33 (i := l1) h1) h2 ?_
  refine w_aload_n d63_170 rfl ?_
  refine w_getf (a := 30) (v := vR 41) d63_171 f63_25 rfl rfl (congrArg vR (rf_30_3 (vRefs_free hR (vfr_33 (i := l1) h1)))) ?_
  refine w_iload_n d63_174 rfl ?_
  refine w_aaldE (a := 41) (b := (42 + l1.toNat)) d63_175 rfl rfl (by decide) h3 (vrow_41 (i := l1) (vRefs_free hR (vfr_33 (i := l1) h1)) h3) ?_
  refine w_iload d63_176 rfl ?_
  refine w_ic (v := 4) d63_178 rfl ?_
  refine w_imul d63_179 ?_
  refine w_iload d63_180 rfl ?_
  refine w_iast (a := (42 + l1.toNat)) d63_182 rfl (vrs_41 (i := l1) h3) h4 ?_
  refine w_aload_n d63_183 rfl ?_
  refine w_getf (a := 30) (v := vR 41) d63_184 f63_25 rfl rfl (congrArg vR (rf_30_3 (vRefs_free (vRefs_free hR (vfr_33 (i := l1) h1)) (vfr_41 (i := l1) h3)))) ?_
  refine w_iload_n d63_187 rfl ?_
  refine w_aaldE (a := 41) (b := (42 + l1.toNat)) d63_188 rfl rfl (by decide) h5 (vrow_41 (i := l1) (vRefs_free (vRefs_free hR (vfr_33 (i := l1) h1)) (vfr_41 (i := l1) h3)) h5) ?_
  refine w_iload d63_189 rfl ?_
  refine w_ic (v := 4) d63_191 rfl ?_
  refine w_imul d63_192 ?_
  refine w_ic (v := 1) d63_193 rfl ?_
  refine w_iadd d63_194 ?_
  refine w_iload d63_195 rfl ?_
  refine w_iast (a := (42 + l1.toNat)) d63_197 rfl (vrs_41 (i := l1) h5) h6 ?_
  refine w_aload_n d63_198 rfl ?_
  refine w_getf (a := 30) (v := vR 41) d63_199 f63_25 rfl rfl (congrArg vR (rf_30_3 (vRefs_free (vRefs_free (vRefs_free hR (vfr_33 (i := l1) h1)) (vfr_41 (i := l1) h3)) (vfr_41 (i := l1) h5)))) ?_
  refine w_iload_n d63_202 rfl ?_
  refine w_aaldE (a := 41) (b := (42 + l1.toNat)) d63_203 rfl rfl (by decide) h7 (vrow_41 (i := l1) (vRefs_free (vRefs_free (vRefs_free hR (vfr_33 (i := l1) h1)) (vfr_41 (i := l1) h3)) (vfr_41 (i := l1) h5)) h7) ?_
  refine w_iload d63_204 rfl ?_
  refine w_ic (v := 4) d63_206 rfl ?_
  refine w_imul d63_207 ?_
  refine w_ic (v := 2) d63_208 rfl ?_
  refine w_iadd d63_209 ?_
  refine w_iload d63_210 rfl ?_
  refine w_iast (a := (42 + l1.toNat)) d63_212 rfl (vrs_41 (i := l1) h7) h8 ?_
  refine w_aload_n d63_213 rfl ?_
  refine w_getf (a := 30) (v := vR 41) d63_214 f63_25 rfl rfl (congrArg vR (rf_30_3 (vRefs_free (vRefs_free (vRefs_free (vRefs_free hR (vfr_33 (i := l1) h1)) (vfr_41 (i := l1) h3)) (vfr_41 (i := l1) h5)) (vfr_41 (i := l1) h7)))) ?_
  refine w_iload_n d63_217 rfl ?_
  refine w_aaldE (a := 41) (b := (42 + l1.toNat)) d63_218 rfl rfl (by decide) h9 (vrow_41 (i := l1) (vRefs_free (vRefs_free (vRefs_free (vRefs_free hR (vfr_33 (i := l1) h1)) (vfr_41 (i := l1) h3)) (vfr_41 (i := l1) h5)) (vfr_41 (i := l1) h7)) h9) ?_
  refine w_iload d63_219 rfl ?_
  refine w_ic (v := 4) d63_221 rfl ?_
  refine w_imul d63_222 ?_
  refine w_ic (v := 3) d63_223 rfl ?_
  refine w_iadd d63_224 ?_
  refine w_iload d63_225 rfl ?_
  refine w_iast (a := (42 + l1.toNat)) d63_227 rfl (vrs_41 (i := l1) h9) h10 ?_
  exact w_vret d63_228 r63 ⟨_, rfl, k (vRefs_free (vRefs_free (vRefs_free (vRefs_free (vRefs_free hR (vfr_33 (i := l1) h1)) (vfr_41 (i := l1) h3)) (vfr_41 (i := l1) h5)) (vfr_41 (i := l1) h7)) (vfr_41 (i := l1) h9))⟩
theorem B_Pr_weigh_228 {X : vX} {d : Nat} {M : vM} {Q : Option vV → vM → Prop} {l1 l2 l4 l5 l6 l7 l8 l9 l10 : Int}  (k : Q none M) : vw X d 63 228 [vR 30, vI l1, vL l2, vN, vI l4, vI l5, vI l6, vI l7, vI l8, vI l9, vL l10, vN] [] M Q := by
  exact w_vret d63_228 r63 ⟨_, rfl, k⟩
theorem E_Pr_weigh {X : vX} {d : Nat} {M : vM} {Q : Option vV → vM → Prop} {l1 l2 l4 l5 l6 l7 : Int} (k : vw X d 63 0 [vR 30, vI l1, vL l2, vN, vI l4, vI l5, vI l6, vI l7, vN, vN, vN, vN] [] M Q) : cq X (d + 1) 63 [vR 30, vI l1, vL l2, vI l4, vI l5, vI l6, vI l7] M Q := wc_in (Nat.le_of_ble_eq_true rfl) (Nat.le_of_ble_eq_true rfl) k
theorem cd64 : vm_cd 64 = cX4_followsOf := rfl
theorem d64_0 : decode (vm_cd 64) 0 = .ok (.aload_n 0, 1) := (congrArg (fun b => decode b 0) cd64).trans (by decide +kernel)
theorem d64_1 : decode (vm_cd 64) 1 = .ok (.getfield 15, 3) := (congrArg (fun b => decode b 1) cd64).trans (by decide +kernel)
theorem d64_4 : decode (vm_cd 64) 4 = .ok (.iload_n 1, 1) := (congrArg (fun b => decode b 4) cd64).trans (by decide +kernel)
theorem d64_5 : decode (vm_cd 64) 5 = .ok (.iaload, 1) := (congrArg (fun b => decode b 5) cd64).trans (by decide +kernel)
theorem d64_6 : decode (vm_cd 64) 6 = .ok (.iload_n 2, 1) := (congrArg (fun b => decode b 6) cd64).trans (by decide +kernel)
theorem d64_7 : decode (vm_cd 64) 7 = .ok (.imul, 1) := (congrArg (fun b => decode b 7) cd64).trans (by decide +kernel)
theorem d64_8 : decode (vm_cd 64) 8 = .ok (.bipush 12, 2) := (congrArg (fun b => decode b 8) cd64).trans (by decide +kernel)
theorem d64_10 : decode (vm_cd 64) 10 = .ok (.aload_n 0, 1) := (congrArg (fun b => decode b 10) cd64).trans (by decide +kernel)
theorem d64_11 : decode (vm_cd 64) 11 = .ok (.getfield 15, 3) := (congrArg (fun b => decode b 11) cd64).trans (by decide +kernel)
theorem d64_14 : decode (vm_cd 64) 14 = .ok (.iload_n 1, 1) := (congrArg (fun b => decode b 14) cd64).trans (by decide +kernel)
theorem d64_15 : decode (vm_cd 64) 15 = .ok (.iaload, 1) := (congrArg (fun b => decode b 15) cd64).trans (by decide +kernel)
theorem d64_16 : decode (vm_cd 64) 16 = .ok (.isub, 1) := (congrArg (fun b => decode b 16) cd64).trans (by decide +kernel)
theorem d64_17 : decode (vm_cd 64) 17 = .ok (.iload_n 3, 1) := (congrArg (fun b => decode b 17) cd64).trans (by decide +kernel)
theorem d64_18 : decode (vm_cd 64) 18 = .ok (.imul, 1) := (congrArg (fun b => decode b 18) cd64).trans (by decide +kernel)
theorem d64_19 : decode (vm_cd 64) 19 = .ok (.iadd, 1) := (congrArg (fun b => decode b 19) cd64).trans (by decide +kernel)
theorem d64_20 : decode (vm_cd 64) 20 = .ok (.ireturn, 1) := (congrArg (fun b => decode b 20) cd64).trans (by decide +kernel)
theorem f64_15 : vm_fl.lookup (vm_own 64, 15) = some (4, 1, 97) := by decide +kernel
theorem r64 : vm_rt 64 = (some .int) := by decide +kernel
theorem B_Pr_followsOf_0 {X : vX} {d : Nat} {M : vM} {Q : Option vV → vM → Prop} {l1 l2 l3 : Int} (hR : vRefs M) (h1 : 0 ≤ l1 ∧ l1 < (2 : Nat)) (h2 : 0 ≤ l1 ∧ l1 < (2 : Nat)) (k : Q (some (vI (w32 ((w32 ((M 32 l1.toNat) * l2)) + (w32 ((w32 (12 - (M 32 l1.toNat))) * l3)))))) M) : vw X d 64 0 [vR 30, vI l1, vI l2, vI l3] [] M Q := by
  refine w_aload_n d64_0 rfl ?_
  refine w_getf (a := 30) (v := vR 32) d64_1 f64_15 rfl rfl (congrArg vR (rf_30_1 hR)) ?_
  refine w_iload_n d64_4 rfl ?_
  refine w_iaload (a := 32) d64_5 rfl rfl h1 ?_
  refine w_iload_n d64_6 rfl ?_
  refine w_imul d64_7 ?_
  refine w_bi (v := 12) d64_8 rfl ?_
  refine w_aload_n d64_10 rfl ?_
  refine w_getf (a := 30) (v := vR 32) d64_11 f64_15 rfl rfl (congrArg vR (rf_30_1 hR)) ?_
  refine w_iload_n d64_14 rfl ?_
  refine w_iaload (a := 32) d64_15 rfl rfl h2 ?_
  refine w_isub d64_16 ?_
  refine w_iload_n d64_17 rfl ?_
  refine w_imul d64_18 ?_
  refine w_iadd d64_19 ?_
  exact w_iret d64_20 r64 ⟨_, rfl, k⟩
theorem E_Pr_followsOf {X : vX} {d : Nat} {M : vM} {Q : Option vV → vM → Prop} {l1 l2 l3 : Int} (k : vw X d 64 0 [vR 30, vI l1, vI l2, vI l3] [] M Q) : cq X (d + 1) 64 [vR 30, vI l1, vI l2, vI l3] M Q := wc_in (Nat.le_of_ble_eq_true rfl) (Nat.le_of_ble_eq_true rfl) k
theorem cd65 : vm_cd 65 = cX4_isWilling := rfl
theorem d65_0 : decode (vm_cd 65) 0 = .ok (.iconst 1, 1) := (congrArg (fun b => decode b 0) cd65).trans (by decide +kernel)
theorem d65_1 : decode (vm_cd 65) 1 = .ok (.iload_n 1, 1) := (congrArg (fun b => decode b 1) cd65).trans (by decide +kernel)
theorem d65_2 : decode (vm_cd 65) 2 = .ok (.isub, 1) := (congrArg (fun b => decode b 2) cd65).trans (by decide +kernel)
theorem d65_3 : decode (vm_cd 65) 3 = .ok (.istore 4, 2) := (congrArg (fun b => decode b 3) cd65).trans (by decide +kernel)
theorem d65_5 : decode (vm_cd 65) 5 = .ok (.aload_n 0, 1) := (congrArg (fun b => decode b 5) cd65).trans (by decide +kernel)
theorem d65_6 : decode (vm_cd 65) 6 = .ok (.iload_n 1, 1) := (congrArg (fun b => decode b 6) cd65).trans (by decide +kernel)
theorem d65_7 : decode (vm_cd 65) 7 = .ok (.iload_n 2, 1) := (congrArg (fun b => decode b 7) cd65).trans (by decide +kernel)
theorem d65_8 : decode (vm_cd 65) 8 = .ok (.iload_n 3, 1) := (congrArg (fun b => decode b 8) cd65).trans (by decide +kernel)
theorem d65_9 : decode (vm_cd 65) 9 = .ok (.invokevirtual 55, 3) := (congrArg (fun b => decode b 9) cd65).trans (by decide +kernel)
theorem d65_12 : decode (vm_cd 65) 12 = .ok (.bipush 12, 2) := (congrArg (fun b => decode b 12) cd65).trans (by decide +kernel)
theorem d65_14 : decode (vm_cd 65) 14 = .ok (.aload_n 0, 1) := (congrArg (fun b => decode b 14) cd65).trans (by decide +kernel)
theorem d65_15 : decode (vm_cd 65) 15 = .ok (.getfield 11, 3) := (congrArg (fun b => decode b 15) cd65).trans (by decide +kernel)
theorem d65_18 : decode (vm_cd 65) 18 = .ok (.iload_n 1, 1) := (congrArg (fun b => decode b 18) cd65).trans (by decide +kernel)
theorem d65_19 : decode (vm_cd 65) 19 = .ok (.iaload, 1) := (congrArg (fun b => decode b 19) cd65).trans (by decide +kernel)
theorem d65_20 : decode (vm_cd 65) 20 = .ok (.imul, 1) := (congrArg (fun b => decode b 20) cd65).trans (by decide +kernel)
theorem d65_21 : decode (vm_cd 65) 21 = .ok (.isub, 1) := (congrArg (fun b => decode b 21) cd65).trans (by decide +kernel)
theorem d65_22 : decode (vm_cd 65) 22 = .ok (.aload_n 0, 1) := (congrArg (fun b => decode b 22) cd65).trans (by decide +kernel)
theorem d65_23 : decode (vm_cd 65) 23 = .ok (.iload 4, 2) := (congrArg (fun b => decode b 23) cd65).trans (by decide +kernel)
theorem d65_25 : decode (vm_cd 65) 25 = .ok (.iload_n 2, 1) := (congrArg (fun b => decode b 25) cd65).trans (by decide +kernel)
theorem d65_26 : decode (vm_cd 65) 26 = .ok (.iload_n 3, 1) := (congrArg (fun b => decode b 26) cd65).trans (by decide +kernel)
theorem d65_27 : decode (vm_cd 65) 27 = .ok (.invokevirtual 55, 3) := (congrArg (fun b => decode b 27) cd65).trans (by decide +kernel)
theorem d65_30 : decode (vm_cd 65) 30 = .ok (.bipush 12, 2) := (congrArg (fun b => decode b 30) cd65).trans (by decide +kernel)
theorem d65_32 : decode (vm_cd 65) 32 = .ok (.aload_n 0, 1) := (congrArg (fun b => decode b 32) cd65).trans (by decide +kernel)
theorem d65_33 : decode (vm_cd 65) 33 = .ok (.getfield 11, 3) := (congrArg (fun b => decode b 33) cd65).trans (by decide +kernel)
theorem d65_36 : decode (vm_cd 65) 36 = .ok (.iload 4, 2) := (congrArg (fun b => decode b 36) cd65).trans (by decide +kernel)
theorem d65_38 : decode (vm_cd 65) 38 = .ok (.iaload, 1) := (congrArg (fun b => decode b 38) cd65).trans (by decide +kernel)
theorem d65_39 : decode (vm_cd 65) 39 = .ok (.imul, 1) := (congrArg (fun b => decode b 39) cd65).trans (by decide +kernel)
theorem d65_40 : decode (vm_cd 65) 40 = .ok (.isub, 1) := (congrArg (fun b => decode b 40) cd65).trans (by decide +kernel)
theorem d65_41 : decode (vm_cd 65) 41 = .ok (.if_icmp .lt 7, 3) := (congrArg (fun b => decode b 41) cd65).trans (by decide +kernel)
theorem d65_44 : decode (vm_cd 65) 44 = .ok (.iconst 1, 1) := (congrArg (fun b => decode b 44) cd65).trans (by decide +kernel)
theorem d65_45 : decode (vm_cd 65) 45 = .ok (.goto 4, 3) := (congrArg (fun b => decode b 45) cd65).trans (by decide +kernel)
theorem d65_48 : decode (vm_cd 65) 48 = .ok (.iconst 0, 1) := (congrArg (fun b => decode b 48) cd65).trans (by decide +kernel)
theorem d65_49 : decode (vm_cd 65) 49 = .ok (.ireturn, 1) := (congrArg (fun b => decode b 49) cd65).trans (by decide +kernel)
theorem f65_11 : vm_fl.lookup (vm_own 65, 11) = some (4, 0, 96) := by decide +kernel
theorem c65_55 : vm_ml.lookup (vm_own 65, 55) = some (0, 64, 3, 604, 606, 14, 6) := vm_lk (by decide +kernel)
theorem r65 : vm_rt 65 = (some .boolean) := by decide +kernel
theorem B_Pr_isWilling_0 {X : vX} {d : Nat} {M : vM} {Q : Option vV → vM → Prop} {l1 l2 l3 : Int}  (k : cq X d 64 [vR 30, vI l1, vI l2, vI l3] M (fun r M1 => wp X d 65 12 [vR 30, vI l1, vI l2, vI l3, vI (w32 (1 - l1))] (r.toList ++ []) (vS0, M1) (vP Q))) : vw X d 65 0 [vR 30, vI l1, vI l2, vI l3, vN] [] M Q := by
  refine w_ic (v := 1) d65_0 rfl ?_
  refine w_iload_n d65_1 rfl ?_
  refine w_isub d65_2 ?_
  refine w_istoreE (ls' := [vR 30, vI l1, vI l2, vI l3, vI (w32 (1 - l1))]) d65_3 (Nat.le_of_ble_eq_true rfl) rfl ?_
  refine w_aload_n d65_5 rfl ?_
  refine w_iload_n d65_6 rfl ?_
  refine w_iload_n d65_7 rfl ?_
  refine w_iload_n d65_8 rfl ?_
  exact w_inv0 (a := 30) (c := 4) d65_9 c65_55 rfl rfl rfl v64 (Nat.le_of_ble_eq_true rfl) (cq.cl (k))
theorem B_Pr_isWilling_12 {X : vX} {d : Nat} {M : vM} {Q : Option vV → vM → Prop} {l1 l2 l3 l4 s0 : Int} (hR : vRefs M) (h1 : 0 ≤ l1 ∧ l1 < (2 : Nat)) (k : cq X d 64 [vR 30, vI l4, vI l2, vI l3] M (fun r M1 => wp X d 65 30 [vR 30, vI l1, vI l2, vI l3, vI l4] (r.toList ++ [vI (w32 (s0 - (w32 (12 * (M 31 l1.toNat)))))]) (vS0, M1) (vP Q))) : vw X d 65 12 [vR 30, vI l1, vI l2, vI l3, vI l4] [vI s0] M Q := by
  refine w_bi (v := 12) d65_12 rfl ?_
  refine w_aload_n d65_14 rfl ?_
  refine w_getf (a := 30) (v := vR 31) d65_15 f65_11 rfl rfl (congrArg vR (rf_30_0 hR)) ?_
  refine w_iload_n d65_18 rfl ?_
  refine w_iaload (a := 31) d65_19 rfl rfl h1 ?_
  refine w_imul d65_20 ?_
  refine w_isub d65_21 ?_
  refine w_aload_n d65_22 rfl ?_
  refine w_iload d65_23 rfl ?_
  refine w_iload_n d65_25 rfl ?_
  refine w_iload_n d65_26 rfl ?_
  exact w_inv0 (a := 30) (c := 4) d65_27 c65_55 rfl rfl rfl v64 (Nat.le_of_ble_eq_true rfl) (cq.cl (k))
theorem B_Pr_isWilling_30 {X : vX} {d : Nat} {M : vM} {Q : Option vV → vM → Prop} {l1 l2 l3 l4 s0 s1 : Int} (hR : vRefs M) (h1 : 0 ≤ l4 ∧ l4 < (2 : Nat)) (k1 : s0 < (w32 (s1 - (w32 (12 * (M 31 l4.toNat))))) → vw X d 65 48 [vR 30, vI l1, vI l2, vI l3, vI l4] [] M Q) (k2 : (w32 (s1 - (w32 (12 * (M 31 l4.toNat))))) ≤ s0 → vw X d 65 44 [vR 30, vI l1, vI l2, vI l3, vI l4] [] M Q) : vw X d 65 30 [vR 30, vI l1, vI l2, vI l3, vI l4] [vI s1, vI s0] M Q := by
  refine w_bi (v := 12) d65_30 rfl ?_
  refine w_aload_n d65_32 rfl ?_
  refine w_getf (a := 30) (v := vR 31) d65_33 f65_11 rfl rfl (congrArg vR (rf_30_0 hR)) ?_
  refine w_iload d65_36 rfl ?_
  refine w_iaload (a := 31) d65_38 rfl rfl h1 ?_
  refine w_imul d65_39 ?_
  refine w_isub d65_40 ?_
  exact w_icmp_lt d65_41 rfl (fun h => k1 h) (fun h => k2 h)
theorem B_Pr_isWilling_44 {X : vX} {d : Nat} {M : vM} {Q : Option vV → vM → Prop} {l1 l2 l3 l4 : Int}  (k : Q (some (vI 1)) M) : vw X d 65 44 [vR 30, vI l1, vI l2, vI l3, vI l4] [] M Q := by
  refine w_ic (v := 1) d65_44 rfl ?_
  refine w_goto (tgt := 49) d65_45 rfl ?_
  exact w_zret d65_49 r65 (by decide) ⟨_, rfl, k⟩
theorem B_Pr_isWilling_48 {X : vX} {d : Nat} {M : vM} {Q : Option vV → vM → Prop} {l1 l2 l3 l4 : Int}  (k : Q (some (vI 0)) M) : vw X d 65 48 [vR 30, vI l1, vI l2, vI l3, vI l4] [] M Q := by
  refine w_ic (v := 0) d65_48 rfl ?_
  exact w_zret d65_49 r65 (by decide) ⟨_, rfl, k⟩
theorem E_Pr_isWilling {X : vX} {d : Nat} {M : vM} {Q : Option vV → vM → Prop} {l1 l2 l3 : Int} (k : vw X d 65 0 [vR 30, vI l1, vI l2, vI l3, vN] [] M Q) : cq X (d + 1) 65 [vR 30, vI l1, vI l2, vI l3] M Q := wc_in (Nat.le_of_ble_eq_true rfl) (Nat.le_of_ble_eq_true rfl) k
theorem cd69 : vm_cd 69 = cX6_fault := rfl
theorem d69_0 : decode (vm_cd 69) 0 = .ok (.aload_n 0, 1) := (congrArg (fun b => decode b 0) cd69).trans (by decide +kernel)
theorem d69_1 : decode (vm_cd 69) 1 = .ok (.getfield 13, 3) := (congrArg (fun b => decode b 1) cd69).trans (by decide +kernel)
theorem d69_4 : decode (vm_cd 69) 4 = .ok (.ireturn, 1) := (congrArg (fun b => decode b 4) cd69).trans (by decide +kernel)
theorem f69_13 : vm_fl.lookup (vm_own 69, 13) = some (5, 3, 167) := by decide +kernel
theorem r69 : vm_rt 69 = (some .int) := by decide +kernel
theorem B_Re_fault_0 {X : vX} {d : Nat} {M : vM} {Q : Option vV → vM → Prop}  (k : Q (some (vI (M 68 3))) M) : vw X d 69 0 [vR 68] [] M Q := by
  refine w_aload_n d69_0 rfl ?_
  refine w_getf (a := 68) (v := vI (M 68 3)) d69_1 f69_13 rfl rfl rfl ?_
  exact w_iret d69_4 r69 ⟨_, rfl, k⟩
theorem E_Re_fault {X : vX} {d : Nat} {M : vM} {Q : Option vV → vM → Prop} (k : vw X d 69 0 [vR 68] [] M Q) : cq X (d + 1) 69 [vR 68] M Q := wc_in (Nat.le_of_ble_eq_true rfl) (Nat.le_of_ble_eq_true rfl) k
theorem cd70 : vm_cd 70 = cX6_works := rfl
theorem d70_0 : decode (vm_cd 70) 0 = .ok (.aload_n 0, 1) := (congrArg (fun b => decode b 0) cd70).trans (by decide +kernel)
theorem d70_1 : decode (vm_cd 70) 1 = .ok (.aload_n 1, 1) := (congrArg (fun b => decode b 1) cd70).trans (by decide +kernel)
theorem d70_2 : decode (vm_cd 70) 2 = .ok (.putfield 7, 3) := (congrArg (fun b => decode b 2) cd70).trans (by decide +kernel)
theorem d70_5 : decode (vm_cd 70) 5 = .ok (.aload_n 0, 1) := (congrArg (fun b => decode b 5) cd70).trans (by decide +kernel)
theorem d70_6 : decode (vm_cd 70) 6 = .ok (.iload_n 2, 1) := (congrArg (fun b => decode b 6) cd70).trans (by decide +kernel)
theorem d70_7 : decode (vm_cd 70) 7 = .ok (.aload_n 1, 1) := (congrArg (fun b => decode b 7) cd70).trans (by decide +kernel)
theorem d70_8 : decode (vm_cd 70) 8 = .ok (.arraylength, 1) := (congrArg (fun b => decode b 8) cd70).trans (by decide +kernel)
theorem d70_9 : decode (vm_cd 70) 9 = .ok (.invokestatic 17, 3) := (congrArg (fun b => decode b 9) cd70).trans (by decide +kernel)
theorem d70_12 : decode (vm_cd 70) 12 = .ok (.putfield 23, 3) := (congrArg (fun b => decode b 12) cd70).trans (by decide +kernel)
theorem d70_15 : decode (vm_cd 70) 15 = .ok (.aload_n 0, 1) := (congrArg (fun b => decode b 15) cd70).trans (by decide +kernel)
theorem d70_16 : decode (vm_cd 70) 16 = .ok (.iconst 0, 1) := (congrArg (fun b => decode b 16) cd70).trans (by decide +kernel)
theorem d70_17 : decode (vm_cd 70) 17 = .ok (.putfield 26, 3) := (congrArg (fun b => decode b 17) cd70).trans (by decide +kernel)
theorem d70_20 : decode (vm_cd 70) 20 = .ok (.aload_n 0, 1) := (congrArg (fun b => decode b 20) cd70).trans (by decide +kernel)
theorem d70_21 : decode (vm_cd 70) 21 = .ok (.iconst (-1), 1) := (congrArg (fun b => decode b 21) cd70).trans (by decide +kernel)
theorem d70_22 : decode (vm_cd 70) 22 = .ok (.putfield 13, 3) := (congrArg (fun b => decode b 22) cd70).trans (by decide +kernel)
theorem d70_25 : decode (vm_cd 70) 25 = .ok (.aload_n 0, 1) := (congrArg (fun b => decode b 25) cd70).trans (by decide +kernel)
theorem d70_26 : decode (vm_cd 70) 26 = .ok (.iload_n 3, 1) := (congrArg (fun b => decode b 26) cd70).trans (by decide +kernel)
theorem d70_27 : decode (vm_cd 70) 27 = .ok (.putfield 29, 3) := (congrArg (fun b => decode b 27) cd70).trans (by decide +kernel)
theorem d70_30 : decode (vm_cd 70) 30 = .ok (.aload_n 0, 1) := (congrArg (fun b => decode b 30) cd70).trans (by decide +kernel)
theorem d70_31 : decode (vm_cd 70) 31 = .ok (.iload 4, 2) := (congrArg (fun b => decode b 31) cd70).trans (by decide +kernel)
theorem d70_33 : decode (vm_cd 70) 33 = .ok (.putfield 32, 3) := (congrArg (fun b => decode b 33) cd70).trans (by decide +kernel)
theorem d70_36 : decode (vm_cd 70) 36 = .ok (.aload_n 0, 1) := (congrArg (fun b => decode b 36) cd70).trans (by decide +kernel)
theorem d70_37 : decode (vm_cd 70) 37 = .ok (.iconst 0, 1) := (congrArg (fun b => decode b 37) cd70).trans (by decide +kernel)
theorem d70_38 : decode (vm_cd 70) 38 = .ok (.invokevirtual 35, 3) := (congrArg (fun b => decode b 38) cd70).trans (by decide +kernel)
theorem d70_41 : decode (vm_cd 70) 41 = .ok (.lstore 5, 2) := (congrArg (fun b => decode b 41) cd70).trans (by decide +kernel)
theorem d70_43 : decode (vm_cd 70) 43 = .ok (.aload_n 0, 1) := (congrArg (fun b => decode b 43) cd70).trans (by decide +kernel)
theorem d70_44 : decode (vm_cd 70) 44 = .ok (.getfield 26, 3) := (congrArg (fun b => decode b 44) cd70).trans (by decide +kernel)
theorem d70_47 : decode (vm_cd 70) 47 = .ok (.aload_n 0, 1) := (congrArg (fun b => decode b 47) cd70).trans (by decide +kernel)
theorem d70_48 : decode (vm_cd 70) 48 = .ok (.getfield 23, 3) := (congrArg (fun b => decode b 48) cd70).trans (by decide +kernel)
theorem d70_51 : decode (vm_cd 70) 51 = .ok (.if_icmp .ge 7, 3) := (congrArg (fun b => decode b 51) cd70).trans (by decide +kernel)
theorem d70_54 : decode (vm_cd 70) 54 = .ok (.aload_n 0, 1) := (congrArg (fun b => decode b 54) cd70).trans (by decide +kernel)
theorem d70_55 : decode (vm_cd 70) 55 = .ok (.invokevirtual 39, 3) := (congrArg (fun b => decode b 55) cd70).trans (by decide +kernel)
theorem d70_58 : decode (vm_cd 70) 58 = .ok (.lload 5, 2) := (congrArg (fun b => decode b 58) cd70).trans (by decide +kernel)
theorem d70_60 : decode (vm_cd 70) 60 = .ok (.lreturn, 1) := (congrArg (fun b => decode b 60) cd70).trans (by decide +kernel)
theorem f70_7 : vm_fl.lookup (vm_own 70, 7) = some (5, 0, 164) := by decide +kernel
theorem f70_13 : vm_fl.lookup (vm_own 70, 13) = some (5, 3, 167) := by decide +kernel
theorem f70_23 : vm_fl.lookup (vm_own 70, 23) = some (5, 1, 165) := by decide +kernel
theorem f70_26 : vm_fl.lookup (vm_own 70, 26) = some (5, 2, 166) := by decide +kernel
theorem f70_29 : vm_fl.lookup (vm_own 70, 29) = some (5, 4, 168) := by decide +kernel
theorem f70_32 : vm_fl.lookup (vm_own 70, 32) = some (5, 5, 169) := by decide +kernel
theorem c70_17 : vm_ml.lookup (vm_own 70, 17) = some (1, 286, 2, 773, 407, 0, 3) := vm_lk (by decide +kernel)
theorem c70_35 : vm_ml.lookup (vm_own 70, 35) = some (0, 76, 1, 774, 776, 20, 10) := vm_lk (by decide +kernel)
theorem c70_39 : vm_ml.lookup (vm_own 70, 39) = some (0, 72, 0, 802, 804, 27, 10) := vm_lk (by decide +kernel)
theorem r70 : vm_rt 70 = (some .long) := by decide +kernel
theorem B_Re_works_0 {X : vX} {d : Nat} {M : vM} {Q : Option vV → vM → Prop} {l2 l3 l4 : Int} {q1 : Nat} (hq1 : vS0[q1]? = some (.inr (2, 120))) (hR : vRefs M)  (k : vRefs (vm_up M 68 0 ((q1 : Int))) → cq X d 286 [vI l2, vI 120] (vm_up M 68 0 ((q1 : Int))) (fun r M1 => wp X d 70 12 [vR 68, vR (q1 : Int), vI l2, vI l3, vI l4, vN, vN] (r.toList ++ [vR 68]) (vS0, M1) (vP Q))) : vw X d 70 0 [vR 68, vR (q1 : Int), vI l2, vI l3, vI l4, vN, vN] [] M Q := by
  refine w_aload_n d70_0 rfl ?_
  refine w_aload_n d70_1 rfl ?_
  refine w_putf (a := 68) (x := (q1 : Int)) d70_2 f70_7 rfl rfl (vm_fitr (by omega)) (Or.inl rfl) ?_
  refine w_aload_n d70_5 rfl ?_
  refine w_iload_n d70_6 rfl ?_
  refine w_aload_n d70_7 rfl ?_
  refine w_len (a := q1) d70_8 rfl hq1 (by decide) ?_
  exact w_inv1 d70_9 c70_17 (by decide) rfl (Nat.le_of_ble_eq_true rfl) (cq.cl (k (vRefs_up hR ⟨by decide, by decide⟩)))
theorem B_Re_works_12 {X : vX} {d : Nat} {M : vM} {Q : Option vV → vM → Prop} {l2 l3 l4 s1 : Int} {q1 : Nat} (hR : vRefs M)  (k : vRefs (vm_up (vm_up (vm_up (vm_up (vm_up M 68 1 s1) 68 2 0) 68 3 ((-1))) 68 4 l3) 68 5 l4) → cq X d 76 [vR 68, vI 0] (vm_up (vm_up (vm_up (vm_up (vm_up M 68 1 s1) 68 2 0) 68 3 ((-1))) 68 4 l3) 68 5 l4) (fun r M1 => wp X d 70 41 [vR 68, vR (q1 : Int), vI l2, vI l3, vI l4, vN, vN] (r.toList ++ []) (vS0, M1) (vP Q))) : vw X d 70 12 [vR 68, vR (q1 : Int), vI l2, vI l3, vI l4, vN, vN] [vI s1, vR 68] M Q := by
  refine w_putf (a := 68) (x := s1) d70_12 f70_23 rfl rfl rfl (Or.inl rfl) ?_
  refine w_aload_n d70_15 rfl ?_
  refine w_ic (v := 0) d70_16 rfl ?_
  refine w_putf (a := 68) (x := 0) d70_17 f70_26 rfl rfl rfl (Or.inl rfl) ?_
  refine w_aload_n d70_20 rfl ?_
  refine w_ic (v := (-1)) d70_21 rfl ?_
  refine w_putf (a := 68) (x := (-1)) d70_22 f70_13 rfl rfl rfl (Or.inl rfl) ?_
  refine w_aload_n d70_25 rfl ?_
  refine w_iload_n d70_26 rfl ?_
  refine w_putf (a := 68) (x := l3) d70_27 f70_29 rfl rfl rfl (Or.inl rfl) ?_
  refine w_aload_n d70_30 rfl ?_
  refine w_iload d70_31 rfl ?_
  refine w_putf (a := 68) (x := l4) d70_33 f70_32 rfl rfl rfl (Or.inl rfl) ?_
  refine w_aload_n d70_36 rfl ?_
  refine w_ic (v := 0) d70_37 rfl ?_
  exact w_inv0 (a := 68) (c := 5) d70_38 c70_35 rfl rfl rfl v76 (Nat.le_of_ble_eq_true rfl) (cq.cl (k (vRefs_up (vRefs_up (vRefs_up (vRefs_up (vRefs_up hR ⟨by decide, by decide⟩) ⟨by decide, by decide⟩) ⟨by decide, by decide⟩) ⟨by decide, by decide⟩) ⟨by decide, by decide⟩)))
theorem B_Re_works_41 {X : vX} {d : Nat} {M : vM} {Q : Option vV → vM → Prop} {l2 l3 l4 s0 : Int} {q1 : Nat}  (k1 : (M 68 1) ≤ (M 68 2) → vw X d 70 58 [vR 68, vR (q1 : Int), vI l2, vI l3, vI l4, vL s0, vN] [] M Q) (k2 : (M 68 2) < (M 68 1) → vw X d 70 54 [vR 68, vR (q1 : Int), vI l2, vI l3, vI l4, vL s0, vN] [] M Q) : vw X d 70 41 [vR 68, vR (q1 : Int), vI l2, vI l3, vI l4, vN, vN] [vL s0] M Q := by
  refine w_lstoreE (ls' := [vR 68, vR (q1 : Int), vI l2, vI l3, vI l4, vL s0, vN]) d70_41 (Nat.le_of_ble_eq_true rfl) rfl ?_
  refine w_aload_n d70_43 rfl ?_
  refine w_getf (a := 68) (v := vI (M 68 2)) d70_44 f70_26 rfl rfl rfl ?_
  refine w_aload_n d70_47 rfl ?_
  refine w_getf (a := 68) (v := vI (M 68 1)) d70_48 f70_23 rfl rfl rfl ?_
  exact w_icmp_ge d70_51 rfl (fun h => k1 h) (fun h => k2 h)
theorem B_Re_works_54 {X : vX} {d : Nat} {M : vM} {Q : Option vV → vM → Prop} {l2 l3 l4 l5 : Int} {q1 : Nat}  (k : cq X d 72 [vR 68] M (fun r M1 => wp X d 70 58 [vR 68, vR (q1 : Int), vI l2, vI l3, vI l4, vL l5, vN] (r.toList ++ []) (vS0, M1) (vP Q))) : vw X d 70 54 [vR 68, vR (q1 : Int), vI l2, vI l3, vI l4, vL l5, vN] [] M Q := by
  refine w_aload_n d70_54 rfl ?_
  exact w_inv0 (a := 68) (c := 5) d70_55 c70_39 rfl rfl rfl v72 (Nat.le_of_ble_eq_true rfl) (cq.cl (k))
theorem B_Re_works_58 {X : vX} {d : Nat} {M : vM} {Q : Option vV → vM → Prop} {l2 l3 l4 l5 : Int} {q1 : Nat}  (k : Q (some (vL l5)) M) : vw X d 70 58 [vR 68, vR (q1 : Int), vI l2, vI l3, vI l4, vL l5, vN] [] M Q := by
  refine w_lload d70_58 rfl ?_
  exact w_lret d70_60 r70 ⟨_, rfl, k⟩
theorem E_Re_works {X : vX} {d : Nat} {M : vM} {Q : Option vV → vM → Prop} {l2 l3 l4 : Int} {q1 : Nat} (k : vw X d 70 0 [vR 68, vR (q1 : Int), vI l2, vI l3, vI l4, vN, vN] [] M Q) : cq X (d + 1) 70 [vR 68, vR (q1 : Int), vI l2, vI l3, vI l4] M Q := wc_in (Nat.le_of_ble_eq_true rfl) (Nat.le_of_ble_eq_true rfl) k
theorem cd71 : vm_cd 71 = cX6_next := rfl
theorem d71_0 : decode (vm_cd 71) 0 = .ok (.aload_n 0, 1) := (congrArg (fun b => decode b 0) cd71).trans (by decide +kernel)
theorem d71_1 : decode (vm_cd 71) 1 = .ok (.getfield 13, 3) := (congrArg (fun b => decode b 1) cd71).trans (by decide +kernel)
theorem d71_4 : decode (vm_cd 71) 4 = .ok (.ifCond .ge 30, 3) := (congrArg (fun b => decode b 4) cd71).trans (by decide +kernel)
theorem d71_7 : decode (vm_cd 71) 7 = .ok (.aload_n 0, 1) := (congrArg (fun b => decode b 7) cd71).trans (by decide +kernel)
theorem d71_8 : decode (vm_cd 71) 8 = .ok (.getfield 26, 3) := (congrArg (fun b => decode b 8) cd71).trans (by decide +kernel)
theorem d71_11 : decode (vm_cd 71) 11 = .ok (.aload_n 0, 1) := (congrArg (fun b => decode b 11) cd71).trans (by decide +kernel)
theorem d71_12 : decode (vm_cd 71) 12 = .ok (.getfield 23, 3) := (congrArg (fun b => decode b 12) cd71).trans (by decide +kernel)
theorem d71_15 : decode (vm_cd 71) 15 = .ok (.if_icmp .ge 19, 3) := (congrArg (fun b => decode b 15) cd71).trans (by decide +kernel)
theorem d71_18 : decode (vm_cd 71) 18 = .ok (.aload_n 0, 1) := (congrArg (fun b => decode b 18) cd71).trans (by decide +kernel)
theorem d71_19 : decode (vm_cd 71) 19 = .ok (.getfield 7, 3) := (congrArg (fun b => decode b 19) cd71).trans (by decide +kernel)
theorem d71_22 : decode (vm_cd 71) 22 = .ok (.aload_n 0, 1) := (congrArg (fun b => decode b 22) cd71).trans (by decide +kernel)
theorem d71_23 : decode (vm_cd 71) 23 = .ok (.getfield 26, 3) := (congrArg (fun b => decode b 23) cd71).trans (by decide +kernel)
theorem d71_26 : decode (vm_cd 71) 26 = .ok (.baload, 1) := (congrArg (fun b => decode b 26) cd71).trans (by decide +kernel)
theorem d71_27 : decode (vm_cd 71) 27 = .ok (.sipush 255, 3) := (congrArg (fun b => decode b 27) cd71).trans (by decide +kernel)
theorem d71_30 : decode (vm_cd 71) 30 = .ok (.iand, 1) := (congrArg (fun b => decode b 30) cd71).trans (by decide +kernel)
theorem d71_31 : decode (vm_cd 71) 31 = .ok (.goto 4, 3) := (congrArg (fun b => decode b 31) cd71).trans (by decide +kernel)
theorem d71_34 : decode (vm_cd 71) 34 = .ok (.iconst (-1), 1) := (congrArg (fun b => decode b 34) cd71).trans (by decide +kernel)
theorem d71_35 : decode (vm_cd 71) 35 = .ok (.ireturn, 1) := (congrArg (fun b => decode b 35) cd71).trans (by decide +kernel)
theorem f71_7 : vm_fl.lookup (vm_own 71, 7) = some (5, 0, 164) := by decide +kernel
theorem f71_13 : vm_fl.lookup (vm_own 71, 13) = some (5, 3, 167) := by decide +kernel
theorem f71_23 : vm_fl.lookup (vm_own 71, 23) = some (5, 1, 165) := by decide +kernel
theorem f71_26 : vm_fl.lookup (vm_own 71, 26) = some (5, 2, 166) := by decide +kernel
theorem r71 : vm_rt 71 = (some .int) := by decide +kernel
theorem B_Re_next_0 {X : vX} {d : Nat} {M : vM} {Q : Option vV → vM → Prop}  (k1 : 0 ≤ (M 68 3) → vw X d 71 34 [vR 68] [] M Q) (k2 : (M 68 3) < 0 → vw X d 71 7 [vR 68] [] M Q) : vw X d 71 0 [vR 68] [] M Q := by
  refine w_aload_n d71_0 rfl ?_
  refine w_getf (a := 68) (v := vI (M 68 3)) d71_1 f71_13 rfl rfl rfl ?_
  exact w_if_ge d71_4 rfl (fun h => k1 h) (fun h => k2 h)
theorem B_Re_next_7 {X : vX} {d : Nat} {M : vM} {Q : Option vV → vM → Prop}  (k1 : (M 68 1) ≤ (M 68 2) → vw X d 71 34 [vR 68] [] M Q) (k2 : (M 68 2) < (M 68 1) → vw X d 71 18 [vR 68] [] M Q) : vw X d 71 7 [vR 68] [] M Q := by
  refine w_aload_n d71_7 rfl ?_
  refine w_getf (a := 68) (v := vI (M 68 2)) d71_8 f71_26 rfl rfl rfl ?_
  refine w_aload_n d71_11 rfl ?_
  refine w_getf (a := 68) (v := vI (M 68 1)) d71_12 f71_23 rfl rfl rfl ?_
  exact w_icmp_ge d71_15 rfl (fun h => k1 h) (fun h => k2 h)
theorem B_Re_next_18 {X : vX} {d : Nat} {M : vM} {Q : Option vV → vM → Prop} {x0 xn0 : Nat} (hx0 : M 68 0 = (x0 : Int)) (hxs0 : vS0[x0]? = some (.inr (2, xn0))) (h1 : 0 ≤ (M 68 2) ∧ (M 68 2) < (xn0 : Nat)) (k : Q (some (vI (j_iand (M x0 (M 68 2).toNat) 255))) M) : vw X d 71 18 [vR 68] [] M Q := by
  refine w_aload_n d71_18 rfl ?_
  refine w_getf (a := 68) (v := vR (x0 : Int)) d71_19 f71_7 rfl rfl (congrArg vR hx0) ?_
  refine w_aload_n d71_22 rfl ?_
  refine w_getf (a := 68) (v := vI (M 68 2)) d71_23 f71_26 rfl rfl rfl ?_
  refine w_baload (a := x0) d71_26 rfl hxs0 h1 ?_
  refine w_si (v := 255) d71_27 rfl ?_
  refine w_iand d71_30 ?_
  refine w_goto (tgt := 35) d71_31 rfl ?_
  exact w_iret d71_35 r71 ⟨_, rfl, k⟩
theorem B_Re_next_34 {X : vX} {d : Nat} {M : vM} {Q : Option vV → vM → Prop}  (k : Q (some (vI ((-1)))) M) : vw X d 71 34 [vR 68] [] M Q := by
  refine w_ic (v := (-1)) d71_34 rfl ?_
  exact w_iret d71_35 r71 ⟨_, rfl, k⟩
theorem E_Re_next {X : vX} {d : Nat} {M : vM} {Q : Option vV → vM → Prop} (k : vw X d 71 0 [vR 68] [] M Q) : cq X (d + 1) 71 [vR 68] M Q := wc_in (Nat.le_of_ble_eq_true rfl) (Nat.le_of_ble_eq_true rfl) k
theorem cd72 : vm_cd 72 = cX6_fail := rfl
theorem d72_0 : decode (vm_cd 72) 0 = .ok (.aload_n 0, 1) := (congrArg (fun b => decode b 0) cd72).trans (by decide +kernel)
theorem d72_1 : decode (vm_cd 72) 1 = .ok (.getfield 13, 3) := (congrArg (fun b => decode b 1) cd72).trans (by decide +kernel)
theorem d72_4 : decode (vm_cd 72) 4 = .ok (.ifCond .ge 11, 3) := (congrArg (fun b => decode b 4) cd72).trans (by decide +kernel)
theorem d72_7 : decode (vm_cd 72) 7 = .ok (.aload_n 0, 1) := (congrArg (fun b => decode b 7) cd72).trans (by decide +kernel)
theorem d72_8 : decode (vm_cd 72) 8 = .ok (.aload_n 0, 1) := (congrArg (fun b => decode b 8) cd72).trans (by decide +kernel)
theorem d72_9 : decode (vm_cd 72) 9 = .ok (.getfield 26, 3) := (congrArg (fun b => decode b 9) cd72).trans (by decide +kernel)
theorem d72_12 : decode (vm_cd 72) 12 = .ok (.putfield 13, 3) := (congrArg (fun b => decode b 12) cd72).trans (by decide +kernel)
theorem d72_15 : decode (vm_cd 72) 15 = .ok (.return_, 1) := (congrArg (fun b => decode b 15) cd72).trans (by decide +kernel)
theorem f72_13 : vm_fl.lookup (vm_own 72, 13) = some (5, 3, 167) := by decide +kernel
theorem f72_26 : vm_fl.lookup (vm_own 72, 26) = some (5, 2, 166) := by decide +kernel
theorem r72 : vm_rt 72 = none := by decide +kernel
theorem B_Re_fail_0 {X : vX} {d : Nat} {M : vM} {Q : Option vV → vM → Prop}  (k1 : 0 ≤ (M 68 3) → vw X d 72 15 [vR 68] [] M Q) (k2 : (M 68 3) < 0 → vw X d 72 7 [vR 68] [] M Q) : vw X d 72 0 [vR 68] [] M Q := by
  refine w_aload_n d72_0 rfl ?_
  refine w_getf (a := 68) (v := vI (M 68 3)) d72_1 f72_13 rfl rfl rfl ?_
  exact w_if_ge d72_4 rfl (fun h => k1 h) (fun h => k2 h)
theorem B_Re_fail_7 {X : vX} {d : Nat} {M : vM} {Q : Option vV → vM → Prop} (hR : vRefs M)  (k : vRefs (vm_up M 68 3 (M 68 2)) → Q none (vm_up M 68 3 (M 68 2))) : vw X d 72 7 [vR 68] [] M Q := by
  refine w_aload_n d72_7 rfl ?_
  refine w_aload_n d72_8 rfl ?_
  refine w_getf (a := 68) (v := vI (M 68 2)) d72_9 f72_26 rfl rfl rfl ?_
  refine w_putf (a := 68) (x := M 68 2) d72_12 f72_13 rfl rfl rfl (Or.inl rfl) ?_
  exact w_vret d72_15 r72 ⟨_, rfl, k (vRefs_up hR ⟨by decide, by decide⟩)⟩
theorem B_Re_fail_15 {X : vX} {d : Nat} {M : vM} {Q : Option vV → vM → Prop}  (k : Q none M) : vw X d 72 15 [vR 68] [] M Q := by
  exact w_vret d72_15 r72 ⟨_, rfl, k⟩
theorem E_Re_fail {X : vX} {d : Nat} {M : vM} {Q : Option vV → vM → Prop} (k : vw X d 72 0 [vR 68] [] M Q) : cq X (d + 1) 72 [vR 68] M Q := wc_in (Nat.le_of_ble_eq_true rfl) (Nat.le_of_ble_eq_true rfl) k
theorem cd73 : vm_cd 73 = cX6_skips := rfl
theorem d73_0 : decode (vm_cd 73) 0 = .ok (.aload_n 0, 1) := (congrArg (fun b => decode b 0) cd73).trans (by decide +kernel)
theorem d73_1 : decode (vm_cd 73) 1 = .ok (.invokevirtual 42, 3) := (congrArg (fun b => decode b 1) cd73).trans (by decide +kernel)
theorem d73_4 : decode (vm_cd 73) 4 = .ok (.iload_n 1, 1) := (congrArg (fun b => decode b 4) cd73).trans (by decide +kernel)
theorem d73_5 : decode (vm_cd 73) 5 = .ok (.if_icmp .eq 5, 3) := (congrArg (fun b => decode b 5) cd73).trans (by decide +kernel)
theorem d73_8 : decode (vm_cd 73) 8 = .ok (.iconst 0, 1) := (congrArg (fun b => decode b 8) cd73).trans (by decide +kernel)
theorem d73_9 : decode (vm_cd 73) 9 = .ok (.ireturn, 1) := (congrArg (fun b => decode b 9) cd73).trans (by decide +kernel)
theorem d73_10 : decode (vm_cd 73) 10 = .ok (.aload_n 0, 1) := (congrArg (fun b => decode b 10) cd73).trans (by decide +kernel)
theorem d73_11 : decode (vm_cd 73) 11 = .ok (.dup, 1) := (congrArg (fun b => decode b 11) cd73).trans (by decide +kernel)
theorem d73_12 : decode (vm_cd 73) 12 = .ok (.getfield 26, 3) := (congrArg (fun b => decode b 12) cd73).trans (by decide +kernel)
theorem d73_15 : decode (vm_cd 73) 15 = .ok (.iconst 1, 1) := (congrArg (fun b => decode b 15) cd73).trans (by decide +kernel)
theorem d73_16 : decode (vm_cd 73) 16 = .ok (.iadd, 1) := (congrArg (fun b => decode b 16) cd73).trans (by decide +kernel)
theorem d73_17 : decode (vm_cd 73) 17 = .ok (.putfield 26, 3) := (congrArg (fun b => decode b 17) cd73).trans (by decide +kernel)
theorem d73_20 : decode (vm_cd 73) 20 = .ok (.iconst 1, 1) := (congrArg (fun b => decode b 20) cd73).trans (by decide +kernel)
theorem d73_21 : decode (vm_cd 73) 21 = .ok (.ireturn, 1) := (congrArg (fun b => decode b 21) cd73).trans (by decide +kernel)
theorem f73_26 : vm_fl.lookup (vm_own 73, 26) = some (5, 2, 166) := by decide +kernel
theorem c73_42 : vm_ml.lookup (vm_own 73, 42) = some (0, 71, 0, 790, 792, 24, 10) := vm_lk (by decide +kernel)
theorem r73 : vm_rt 73 = (some .boolean) := by decide +kernel
theorem B_Re_skips_0 {X : vX} {d : Nat} {M : vM} {Q : Option vV → vM → Prop} {l1 : Int}  (k : cq X d 71 [vR 68] M (fun r M1 => wp X d 73 4 [vR 68, vI l1] (r.toList ++ []) (vS0, M1) (vP Q))) : vw X d 73 0 [vR 68, vI l1] [] M Q := by
  refine w_aload_n d73_0 rfl ?_
  exact w_inv0 (a := 68) (c := 5) d73_1 c73_42 rfl rfl rfl v71 (Nat.le_of_ble_eq_true rfl) (cq.cl (k))
theorem B_Re_skips_4 {X : vX} {d : Nat} {M : vM} {Q : Option vV → vM → Prop} {l1 s0 : Int}  (k1 : s0 = l1 → vw X d 73 10 [vR 68, vI l1] [] M Q) (k2 : ¬ s0 = l1 → vw X d 73 8 [vR 68, vI l1] [] M Q) : vw X d 73 4 [vR 68, vI l1] [vI s0] M Q := by
  refine w_iload_n d73_4 rfl ?_
  exact w_icmp_eq d73_5 rfl (fun h => k1 h) (fun h => k2 h)
theorem B_Re_skips_8 {X : vX} {d : Nat} {M : vM} {Q : Option vV → vM → Prop} {l1 : Int}  (k : Q (some (vI 0)) M) : vw X d 73 8 [vR 68, vI l1] [] M Q := by
  refine w_ic (v := 0) d73_8 rfl ?_
  exact w_zret d73_9 r73 (by decide) ⟨_, rfl, k⟩
theorem B_Re_skips_10 {X : vX} {d : Nat} {M : vM} {Q : Option vV → vM → Prop} {l1 : Int} (hR : vRefs M)  (k : vRefs (vm_up M 68 2 (w32 ((M 68 2) + 1))) → Q (some (vI 1)) (vm_up M 68 2 (w32 ((M 68 2) + 1)))) : vw X d 73 10 [vR 68, vI l1] [] M Q := by
  refine w_aload_n d73_10 rfl ?_
  refine w_dup d73_11 rfl ?_
  refine w_getf (a := 68) (v := vI (M 68 2)) d73_12 f73_26 rfl rfl rfl ?_
  refine w_ic (v := 1) d73_15 rfl ?_
  refine w_iadd d73_16 ?_
  refine w_putf (a := 68) (x := w32 ((M 68 2) + 1)) d73_17 f73_26 rfl rfl rfl (Or.inl rfl) ?_
  refine w_ic (v := 1) d73_20 rfl ?_
  exact w_zret d73_21 r73 (by decide) ⟨_, rfl, k (vRefs_up hR ⟨by decide, by decide⟩)⟩
theorem E_Re_skips {X : vX} {d : Nat} {M : vM} {Q : Option vV → vM → Prop} {l1 : Int} (k : vw X d 73 0 [vR 68, vI l1] [] M Q) : cq X (d + 1) 73 [vR 68, vI l1] M Q := wc_in (Nat.le_of_ble_eq_true rfl) (Nat.le_of_ble_eq_true rfl) k
theorem cd74 : vm_cd 74 = cX6_needs := rfl
theorem d74_0 : decode (vm_cd 74) 0 = .ok (.aload_n 0, 1) := (congrArg (fun b => decode b 0) cd74).trans (by decide +kernel)
theorem d74_1 : decode (vm_cd 74) 1 = .ok (.iload_n 1, 1) := (congrArg (fun b => decode b 1) cd74).trans (by decide +kernel)
theorem d74_2 : decode (vm_cd 74) 2 = .ok (.invokevirtual 46, 3) := (congrArg (fun b => decode b 2) cd74).trans (by decide +kernel)
theorem d74_5 : decode (vm_cd 74) 5 = .ok (.ifCond .ne 7, 3) := (congrArg (fun b => decode b 5) cd74).trans (by decide +kernel)
theorem d74_8 : decode (vm_cd 74) 8 = .ok (.aload_n 0, 1) := (congrArg (fun b => decode b 8) cd74).trans (by decide +kernel)
theorem d74_9 : decode (vm_cd 74) 9 = .ok (.invokevirtual 39, 3) := (congrArg (fun b => decode b 9) cd74).trans (by decide +kernel)
theorem d74_12 : decode (vm_cd 74) 12 = .ok (.return_, 1) := (congrArg (fun b => decode b 12) cd74).trans (by decide +kernel)
theorem c74_39 : vm_ml.lookup (vm_own 74, 39) = some (0, 72, 0, 802, 804, 27, 10) := vm_lk (by decide +kernel)
theorem c74_46 : vm_ml.lookup (vm_own 74, 46) = some (0, 73, 1, 786, 788, 23, 10) := vm_lk (by decide +kernel)
theorem r74 : vm_rt 74 = none := by decide +kernel
theorem B_Re_needs_0 {X : vX} {d : Nat} {M : vM} {Q : Option vV → vM → Prop} {l1 : Int}  (k : cq X d 73 [vR 68, vI l1] M (fun r M1 => wp X d 74 5 [vR 68, vI l1] (r.toList ++ []) (vS0, M1) (vP Q))) : vw X d 74 0 [vR 68, vI l1] [] M Q := by
  refine w_aload_n d74_0 rfl ?_
  refine w_iload_n d74_1 rfl ?_
  exact w_inv0 (a := 68) (c := 5) d74_2 c74_46 rfl rfl rfl v73 (Nat.le_of_ble_eq_true rfl) (cq.cl (k))
theorem B_Re_needs_5 {X : vX} {d : Nat} {M : vM} {Q : Option vV → vM → Prop} {l1 s0 : Int}  (k1 : ¬ s0 = 0 → vw X d 74 12 [vR 68, vI l1] [] M Q) (k2 : s0 = 0 → vw X d 74 8 [vR 68, vI l1] [] M Q) : vw X d 74 5 [vR 68, vI l1] [vI s0] M Q := by
  exact w_if_ne d74_5 rfl (fun h => k1 h) (fun h => k2 h)
theorem B_Re_needs_8 {X : vX} {d : Nat} {M : vM} {Q : Option vV → vM → Prop} {l1 : Int}  (k : cq X d 72 [vR 68] M (fun r M1 => wp X d 74 12 [vR 68, vI l1] (r.toList ++ []) (vS0, M1) (vP Q))) : vw X d 74 8 [vR 68, vI l1] [] M Q := by
  refine w_aload_n d74_8 rfl ?_
  exact w_inv0 (a := 68) (c := 5) d74_9 c74_39 rfl rfl rfl v72 (Nat.le_of_ble_eq_true rfl) (cq.cl (k))
theorem B_Re_needs_12 {X : vX} {d : Nat} {M : vM} {Q : Option vV → vM → Prop} {l1 : Int}  (k : Q none M) : vw X d 74 12 [vR 68, vI l1] [] M Q := by
  exact w_vret d74_12 r74 ⟨_, rfl, k⟩
theorem E_Re_needs {X : vX} {d : Nat} {M : vM} {Q : Option vV → vM → Prop} {l1 : Int} (k : vw X d 74 0 [vR 68, vI l1] [] M Q) : cq X (d + 1) 74 [vR 68, vI l1] M Q := wc_in (Nat.le_of_ble_eq_true rfl) (Nat.le_of_ble_eq_true rfl) k
theorem cd75 : vm_cd 75 = cX6_kept := rfl
theorem d75_0 : decode (vm_cd 75) 0 = .ok (.ldc2_w 50, 3) := (congrArg (fun b => decode b 0) cd75).trans (by decide +kernel)
theorem d75_3 : decode (vm_cd 75) 3 = .ok (.lload_n 0, 1) := (congrArg (fun b => decode b 3) cd75).trans (by decide +kernel)
theorem d75_4 : decode (vm_cd 75) 4 = .ok (.ldc2_w 52, 3) := (congrArg (fun b => decode b 4) cd75).trans (by decide +kernel)
theorem d75_7 : decode (vm_cd 75) 7 = .ok (.invokestatic 54, 3) := (congrArg (fun b => decode b 7) cd75).trans (by decide +kernel)
theorem d75_10 : decode (vm_cd 75) 10 = .ok (.invokestatic 57, 3) := (congrArg (fun b => decode b 10) cd75).trans (by decide +kernel)
theorem d75_13 : decode (vm_cd 75) 13 = .ok (.lreturn, 1) := (congrArg (fun b => decode b 13) cd75).trans (by decide +kernel)
theorem c75_54 : vm_ml.lookup (vm_own 75, 54) = some (1, 287, 2, 814, 815, 0, 3) := vm_lk (by decide +kernel)
theorem c75_57 : vm_ml.lookup (vm_own 75, 57) = some (1, 285, 2, 817, 818, 0, 3) := vm_lk (by decide +kernel)
theorem g75_50 : vm_cn.lookup (vm_own 75, 50) = some ((1), (-1000000), (833)) := by decide +kernel
theorem g75_52 : vm_cn.lookup (vm_own 75, 52) = some ((1), (1000000), (834)) := by decide +kernel
theorem r75 : vm_rt 75 = (some .long) := by decide +kernel
theorem B_Re_kept_0 {X : vX} {d : Nat} {M : vM} {Q : Option vV → vM → Prop} {l0 : Int}  (k : cq X d 287 [vL l0, vL 1000000] M (fun r M1 => wp X d 75 10 [vL l0, vN] (r.toList ++ [vL ((-1000000))]) (vS0, M1) (vP Q))) : vw X d 75 0 [vL l0, vN] [] M Q := by
  refine w_ldc2_w (v := (-1000000)) d75_0 g75_50 rfl ?_
  refine w_lload_n d75_3 rfl ?_
  refine w_ldc2_w (v := 1000000) d75_4 g75_52 rfl ?_
  exact w_inv1 d75_7 c75_54 (by decide) rfl (Nat.le_of_ble_eq_true rfl) (cq.cl (k))
theorem B_Re_kept_10 {X : vX} {d : Nat} {M : vM} {Q : Option vV → vM → Prop} {l0 s0 s1 : Int}  (k : cq X d 285 [vL s0, vL s1] M (fun r M1 => wp X d 75 13 [vL l0, vN] (r.toList ++ []) (vS0, M1) (vP Q))) : vw X d 75 10 [vL l0, vN] [vL s1, vL s0] M Q := by
  exact w_inv1 d75_10 c75_57 (by decide) rfl (Nat.le_of_ble_eq_true rfl) (cq.cl (k))
theorem B_Re_kept_13 {X : vX} {d : Nat} {M : vM} {Q : Option vV → vM → Prop} {l0 s0 : Int}  (k : Q (some (vL s0)) M) : vw X d 75 13 [vL l0, vN] [vL s0] M Q := by
  exact w_lret d75_13 r75 ⟨_, rfl, k⟩
theorem E_Re_kept {X : vX} {d : Nat} {M : vM} {Q : Option vV → vM → Prop} {l0 : Int} (k : vw X d 75 0 [vL l0, vN] [] M Q) : cq X (d + 1) 75 [vL l0] M Q := wc_in (Nat.le_of_ble_eq_true rfl) (Nat.le_of_ble_eq_true rfl) k
theorem cd76 : vm_cd 76 = cX6_sum := rfl
theorem d76_0 : decode (vm_cd 76) 0 = .ok (.aload_n 0, 1) := (congrArg (fun b => decode b 0) cd76).trans (by decide +kernel)
theorem d76_1 : decode (vm_cd 76) 1 = .ok (.iload_n 1, 1) := (congrArg (fun b => decode b 1) cd76).trans (by decide +kernel)
theorem d76_2 : decode (vm_cd 76) 2 = .ok (.invokevirtual 60, 3) := (congrArg (fun b => decode b 2) cd76).trans (by decide +kernel)
theorem d76_5 : decode (vm_cd 76) 5 = .ok (.lstore_n 2, 1) := (congrArg (fun b => decode b 5) cd76).trans (by decide +kernel)
theorem d76_6 : decode (vm_cd 76) 6 = .ok (.iconst 0, 1) := (congrArg (fun b => decode b 6) cd76).trans (by decide +kernel)
theorem d76_7 : decode (vm_cd 76) 7 = .ok (.istore 4, 2) := (congrArg (fun b => decode b 7) cd76).trans (by decide +kernel)
theorem d76_9 : decode (vm_cd 76) 9 = .ok (.iload 4, 2) := (congrArg (fun b => decode b 9) cd76).trans (by decide +kernel)
theorem d76_11 : decode (vm_cd 76) 11 = .ok (.aload_n 0, 1) := (congrArg (fun b => decode b 11) cd76).trans (by decide +kernel)
theorem d76_12 : decode (vm_cd 76) 12 = .ok (.getfield 23, 3) := (congrArg (fun b => decode b 12) cd76).trans (by decide +kernel)
theorem d76_15 : decode (vm_cd 76) 15 = .ok (.if_icmp .ge 52, 3) := (congrArg (fun b => decode b 15) cd76).trans (by decide +kernel)
theorem d76_18 : decode (vm_cd 76) 18 = .ok (.aload_n 0, 1) := (congrArg (fun b => decode b 18) cd76).trans (by decide +kernel)
theorem d76_19 : decode (vm_cd 76) 19 = .ok (.bipush 43, 2) := (congrArg (fun b => decode b 19) cd76).trans (by decide +kernel)
theorem d76_21 : decode (vm_cd 76) 21 = .ok (.invokevirtual 46, 3) := (congrArg (fun b => decode b 21) cd76).trans (by decide +kernel)
theorem d76_24 : decode (vm_cd 76) 24 = .ok (.ifCond .eq 17, 3) := (congrArg (fun b => decode b 24) cd76).trans (by decide +kernel)
theorem d76_27 : decode (vm_cd 76) 27 = .ok (.lload_n 2, 1) := (congrArg (fun b => decode b 27) cd76).trans (by decide +kernel)
theorem d76_28 : decode (vm_cd 76) 28 = .ok (.aload_n 0, 1) := (congrArg (fun b => decode b 28) cd76).trans (by decide +kernel)
theorem d76_29 : decode (vm_cd 76) 29 = .ok (.iload_n 1, 1) := (congrArg (fun b => decode b 29) cd76).trans (by decide +kernel)
theorem d76_30 : decode (vm_cd 76) 30 = .ok (.invokevirtual 60, 3) := (congrArg (fun b => decode b 30) cd76).trans (by decide +kernel)
theorem d76_33 : decode (vm_cd 76) 33 = .ok (.ladd, 1) := (congrArg (fun b => decode b 33) cd76).trans (by decide +kernel)
theorem d76_34 : decode (vm_cd 76) 34 = .ok (.invokestatic 63, 3) := (congrArg (fun b => decode b 34) cd76).trans (by decide +kernel)
theorem d76_37 : decode (vm_cd 76) 37 = .ok (.lstore_n 2, 1) := (congrArg (fun b => decode b 37) cd76).trans (by decide +kernel)
theorem d76_38 : decode (vm_cd 76) 38 = .ok (.goto 23, 3) := (congrArg (fun b => decode b 38) cd76).trans (by decide +kernel)
theorem d76_41 : decode (vm_cd 76) 41 = .ok (.aload_n 0, 1) := (congrArg (fun b => decode b 41) cd76).trans (by decide +kernel)
theorem d76_42 : decode (vm_cd 76) 42 = .ok (.bipush 45, 2) := (congrArg (fun b => decode b 42) cd76).trans (by decide +kernel)
theorem d76_44 : decode (vm_cd 76) 44 = .ok (.invokevirtual 46, 3) := (congrArg (fun b => decode b 44) cd76).trans (by decide +kernel)
theorem d76_47 : decode (vm_cd 76) 47 = .ok (.ifCond .eq 20, 3) := (congrArg (fun b => decode b 47) cd76).trans (by decide +kernel)
theorem d76_50 : decode (vm_cd 76) 50 = .ok (.lload_n 2, 1) := (congrArg (fun b => decode b 50) cd76).trans (by decide +kernel)
theorem d76_51 : decode (vm_cd 76) 51 = .ok (.aload_n 0, 1) := (congrArg (fun b => decode b 51) cd76).trans (by decide +kernel)
theorem d76_52 : decode (vm_cd 76) 52 = .ok (.iload_n 1, 1) := (congrArg (fun b => decode b 52) cd76).trans (by decide +kernel)
theorem d76_53 : decode (vm_cd 76) 53 = .ok (.invokevirtual 60, 3) := (congrArg (fun b => decode b 53) cd76).trans (by decide +kernel)
theorem d76_56 : decode (vm_cd 76) 56 = .ok (.lsub, 1) := (congrArg (fun b => decode b 56) cd76).trans (by decide +kernel)
theorem d76_57 : decode (vm_cd 76) 57 = .ok (.invokestatic 63, 3) := (congrArg (fun b => decode b 57) cd76).trans (by decide +kernel)
theorem d76_60 : decode (vm_cd 76) 60 = .ok (.lstore_n 2, 1) := (congrArg (fun b => decode b 60) cd76).trans (by decide +kernel)
theorem d76_61 : decode (vm_cd 76) 61 = .ok (.iinc 4 1, 3) := (congrArg (fun b => decode b 61) cd76).trans (by decide +kernel)
theorem d76_64 : decode (vm_cd 76) 64 = .ok (.goto (-55), 3) := (congrArg (fun b => decode b 64) cd76).trans (by decide +kernel)
theorem d76_67 : decode (vm_cd 76) 67 = .ok (.lload_n 2, 1) := (congrArg (fun b => decode b 67) cd76).trans (by decide +kernel)
theorem d76_68 : decode (vm_cd 76) 68 = .ok (.lreturn, 1) := (congrArg (fun b => decode b 68) cd76).trans (by decide +kernel)
theorem f76_23 : vm_fl.lookup (vm_own 76, 23) = some (5, 1, 165) := by decide +kernel
theorem c76_46 : vm_ml.lookup (vm_own 76, 46) = some (0, 73, 1, 786, 788, 23, 10) := vm_lk (by decide +kernel)
theorem c76_60 : vm_ml.lookup (vm_own 76, 60) = some (0, 77, 1, 778, 780, 21, 10) := vm_lk (by decide +kernel)
theorem c76_63 : vm_ml.lookup (vm_own 76, 63) = some (1, 75, 1, 830, 831, 0, 10) := vm_lk (by decide +kernel)
theorem r76 : vm_rt 76 = (some .long) := by decide +kernel
theorem B_Re_sum_0 {X : vX} {d : Nat} {M : vM} {Q : Option vV → vM → Prop} {l1 : Int}  (k : cq X d 77 [vR 68, vI l1] M (fun r M1 => wp X d 76 5 [vR 68, vI l1, vN, vN, vN] (r.toList ++ []) (vS0, M1) (vP Q))) : vw X d 76 0 [vR 68, vI l1, vN, vN, vN] [] M Q := by
  refine w_aload_n d76_0 rfl ?_
  refine w_iload_n d76_1 rfl ?_
  exact w_inv0 (a := 68) (c := 5) d76_2 c76_60 rfl rfl rfl v77 (Nat.le_of_ble_eq_true rfl) (cq.cl (k))
theorem B_Re_sum_5 {X : vX} {d : Nat} {M : vM} {Q : Option vV → vM → Prop} {l1 s0 : Int}  (k : vw X d 76 9 [vR 68, vI l1, vL s0, vN, vI 0] [] M Q) : vw X d 76 5 [vR 68, vI l1, vN, vN, vN] [vL s0] M Q := by
  refine w_lstore_nE (ls' := [vR 68, vI l1, vL s0, vN, vN]) d76_5 (Nat.le_of_ble_eq_true rfl) rfl ?_
  refine w_ic (v := 0) d76_6 rfl ?_
  refine w_istoreE (ls' := [vR 68, vI l1, vL s0, vN, vI 0]) d76_7 (Nat.le_of_ble_eq_true rfl) rfl ?_
  exact k
theorem B_Re_sum_9 {X : vX} {d : Nat} {M : vM} {Q : Option vV → vM → Prop} {l1 l2 l4 : Int}  (k1 : (M 68 1) ≤ l4 → vw X d 76 67 [vR 68, vI l1, vL l2, vN, vI l4] [] M Q) (k2 : l4 < (M 68 1) → vw X d 76 18 [vR 68, vI l1, vL l2, vN, vI l4] [] M Q) : vw X d 76 9 [vR 68, vI l1, vL l2, vN, vI l4] [] M Q := by
  refine w_iload d76_9 rfl ?_
  refine w_aload_n d76_11 rfl ?_
  refine w_getf (a := 68) (v := vI (M 68 1)) d76_12 f76_23 rfl rfl rfl ?_
  exact w_icmp_ge d76_15 rfl (fun h => k1 h) (fun h => k2 h)
theorem B_Re_sum_18 {X : vX} {d : Nat} {M : vM} {Q : Option vV → vM → Prop} {l1 l2 l4 : Int}  (k : cq X d 73 [vR 68, vI 43] M (fun r M1 => wp X d 76 24 [vR 68, vI l1, vL l2, vN, vI l4] (r.toList ++ []) (vS0, M1) (vP Q))) : vw X d 76 18 [vR 68, vI l1, vL l2, vN, vI l4] [] M Q := by
  refine w_aload_n d76_18 rfl ?_
  refine w_bi (v := 43) d76_19 rfl ?_
  exact w_inv0 (a := 68) (c := 5) d76_21 c76_46 rfl rfl rfl v73 (Nat.le_of_ble_eq_true rfl) (cq.cl (k))
theorem B_Re_sum_24 {X : vX} {d : Nat} {M : vM} {Q : Option vV → vM → Prop} {l1 l2 l4 s0 : Int}  (k1 : s0 = 0 → vw X d 76 41 [vR 68, vI l1, vL l2, vN, vI l4] [] M Q) (k2 : ¬ s0 = 0 → vw X d 76 27 [vR 68, vI l1, vL l2, vN, vI l4] [] M Q) : vw X d 76 24 [vR 68, vI l1, vL l2, vN, vI l4] [vI s0] M Q := by
  exact w_if_eq d76_24 rfl (fun h => k1 h) (fun h => k2 h)
theorem B_Re_sum_27 {X : vX} {d : Nat} {M : vM} {Q : Option vV → vM → Prop} {l1 l2 l4 : Int}  (k : cq X d 77 [vR 68, vI l1] M (fun r M1 => wp X d 76 33 [vR 68, vI l1, vL l2, vN, vI l4] (r.toList ++ [vL l2]) (vS0, M1) (vP Q))) : vw X d 76 27 [vR 68, vI l1, vL l2, vN, vI l4] [] M Q := by
  refine w_lload_n d76_27 rfl ?_
  refine w_aload_n d76_28 rfl ?_
  refine w_iload_n d76_29 rfl ?_
  exact w_inv0 (a := 68) (c := 5) d76_30 c76_60 rfl rfl rfl v77 (Nat.le_of_ble_eq_true rfl) (cq.cl (k))
theorem B_Re_sum_33 {X : vX} {d : Nat} {M : vM} {Q : Option vV → vM → Prop} {l1 l2 l4 s0 s1 : Int}  (k : cq X d 75 [vL (w64 (s0 + s1))] M (fun r M1 => wp X d 76 37 [vR 68, vI l1, vL l2, vN, vI l4] (r.toList ++ []) (vS0, M1) (vP Q))) : vw X d 76 33 [vR 68, vI l1, vL l2, vN, vI l4] [vL s1, vL s0] M Q := by
  refine w_ladd d76_33 ?_
  exact w_inv1 d76_34 c76_63 (by decide) rfl (Nat.le_of_ble_eq_true rfl) (cq.cl (k))
theorem B_Re_sum_37 {X : vX} {d : Nat} {M : vM} {Q : Option vV → vM → Prop} {l1 l2 l4 s0 : Int}  (k : vw X d 76 9 [vR 68, vI l1, vL s0, vN, vI (w32 (l4 + 1))] [] M Q) : vw X d 76 37 [vR 68, vI l1, vL l2, vN, vI l4] [vL s0] M Q := by
  refine w_lstore_nE (ls' := [vR 68, vI l1, vL s0, vN, vI l4]) d76_37 (Nat.le_of_ble_eq_true rfl) rfl ?_
  refine w_goto (tgt := 61) d76_38 rfl ?_
  refine w_iincE (ls' := [vR 68, vI l1, vL s0, vN, vI (w32 (l4 + 1))]) d76_61 rfl rfl ?_
  refine w_goto (tgt := 9) d76_64 rfl ?_
  exact k
theorem B_Re_sum_41 {X : vX} {d : Nat} {M : vM} {Q : Option vV → vM → Prop} {l1 l2 l4 : Int}  (k : cq X d 73 [vR 68, vI 45] M (fun r M1 => wp X d 76 47 [vR 68, vI l1, vL l2, vN, vI l4] (r.toList ++ []) (vS0, M1) (vP Q))) : vw X d 76 41 [vR 68, vI l1, vL l2, vN, vI l4] [] M Q := by
  refine w_aload_n d76_41 rfl ?_
  refine w_bi (v := 45) d76_42 rfl ?_
  exact w_inv0 (a := 68) (c := 5) d76_44 c76_46 rfl rfl rfl v73 (Nat.le_of_ble_eq_true rfl) (cq.cl (k))
theorem B_Re_sum_47 {X : vX} {d : Nat} {M : vM} {Q : Option vV → vM → Prop} {l1 l2 l4 s0 : Int}  (k1 : s0 = 0 → vw X d 76 67 [vR 68, vI l1, vL l2, vN, vI l4] [] M Q) (k2 : ¬ s0 = 0 → vw X d 76 50 [vR 68, vI l1, vL l2, vN, vI l4] [] M Q) : vw X d 76 47 [vR 68, vI l1, vL l2, vN, vI l4] [vI s0] M Q := by
  exact w_if_eq d76_47 rfl (fun h => k1 h) (fun h => k2 h)
theorem B_Re_sum_50 {X : vX} {d : Nat} {M : vM} {Q : Option vV → vM → Prop} {l1 l2 l4 : Int}  (k : cq X d 77 [vR 68, vI l1] M (fun r M1 => wp X d 76 56 [vR 68, vI l1, vL l2, vN, vI l4] (r.toList ++ [vL l2]) (vS0, M1) (vP Q))) : vw X d 76 50 [vR 68, vI l1, vL l2, vN, vI l4] [] M Q := by
  refine w_lload_n d76_50 rfl ?_
  refine w_aload_n d76_51 rfl ?_
  refine w_iload_n d76_52 rfl ?_
  exact w_inv0 (a := 68) (c := 5) d76_53 c76_60 rfl rfl rfl v77 (Nat.le_of_ble_eq_true rfl) (cq.cl (k))
theorem B_Re_sum_56 {X : vX} {d : Nat} {M : vM} {Q : Option vV → vM → Prop} {l1 l2 l4 s0 s1 : Int}  (k : cq X d 75 [vL (w64 (s0 - s1))] M (fun r M1 => wp X d 76 60 [vR 68, vI l1, vL l2, vN, vI l4] (r.toList ++ []) (vS0, M1) (vP Q))) : vw X d 76 56 [vR 68, vI l1, vL l2, vN, vI l4] [vL s1, vL s0] M Q := by
  refine w_lsub d76_56 ?_
  exact w_inv1 d76_57 c76_63 (by decide) rfl (Nat.le_of_ble_eq_true rfl) (cq.cl (k))
theorem B_Re_sum_60 {X : vX} {d : Nat} {M : vM} {Q : Option vV → vM → Prop} {l1 l2 l4 s0 : Int}  (k : vw X d 76 9 [vR 68, vI l1, vL s0, vN, vI (w32 (l4 + 1))] [] M Q) : vw X d 76 60 [vR 68, vI l1, vL l2, vN, vI l4] [vL s0] M Q := by
  refine w_lstore_nE (ls' := [vR 68, vI l1, vL s0, vN, vI l4]) d76_60 (Nat.le_of_ble_eq_true rfl) rfl ?_
  refine w_iincE (ls' := [vR 68, vI l1, vL s0, vN, vI (w32 (l4 + 1))]) d76_61 rfl rfl ?_
  refine w_goto (tgt := 9) d76_64 rfl ?_
  exact k
theorem B_Re_sum_67 {X : vX} {d : Nat} {M : vM} {Q : Option vV → vM → Prop} {l1 l2 l4 : Int}  (k : Q (some (vL l2)) M) : vw X d 76 67 [vR 68, vI l1, vL l2, vN, vI l4] [] M Q := by
  refine w_lload_n d76_67 rfl ?_
  exact w_lret d76_68 r76 ⟨_, rfl, k⟩
theorem E_Re_sum {X : vX} {d : Nat} {M : vM} {Q : Option vV → vM → Prop} {l1 : Int} (k : vw X d 76 0 [vR 68, vI l1, vN, vN, vN] [] M Q) : cq X (d + 1) 76 [vR 68, vI l1] M Q := wc_in (Nat.le_of_ble_eq_true rfl) (Nat.le_of_ble_eq_true rfl) k
theorem cd77 : vm_cd 77 = cX6_product := rfl
theorem d77_0 : decode (vm_cd 77) 0 = .ok (.aload_n 0, 1) := (congrArg (fun b => decode b 0) cd77).trans (by decide +kernel)
theorem d77_1 : decode (vm_cd 77) 1 = .ok (.iload_n 1, 1) := (congrArg (fun b => decode b 1) cd77).trans (by decide +kernel)
theorem d77_2 : decode (vm_cd 77) 2 = .ok (.invokevirtual 67, 3) := (congrArg (fun b => decode b 2) cd77).trans (by decide +kernel)
theorem d77_5 : decode (vm_cd 77) 5 = .ok (.lstore_n 2, 1) := (congrArg (fun b => decode b 5) cd77).trans (by decide +kernel)
theorem d77_6 : decode (vm_cd 77) 6 = .ok (.iconst 0, 1) := (congrArg (fun b => decode b 6) cd77).trans (by decide +kernel)
theorem d77_7 : decode (vm_cd 77) 7 = .ok (.istore 4, 2) := (congrArg (fun b => decode b 7) cd77).trans (by decide +kernel)
theorem d77_9 : decode (vm_cd 77) 9 = .ok (.iload 4, 2) := (congrArg (fun b => decode b 9) cd77).trans (by decide +kernel)
theorem d77_11 : decode (vm_cd 77) 11 = .ok (.aload_n 0, 1) := (congrArg (fun b => decode b 11) cd77).trans (by decide +kernel)
theorem d77_12 : decode (vm_cd 77) 12 = .ok (.getfield 23, 3) := (congrArg (fun b => decode b 12) cd77).trans (by decide +kernel)
theorem d77_15 : decode (vm_cd 77) 15 = .ok (.if_icmp .ge 29, 3) := (congrArg (fun b => decode b 15) cd77).trans (by decide +kernel)
theorem d77_18 : decode (vm_cd 77) 18 = .ok (.aload_n 0, 1) := (congrArg (fun b => decode b 18) cd77).trans (by decide +kernel)
theorem d77_19 : decode (vm_cd 77) 19 = .ok (.bipush 42, 2) := (congrArg (fun b => decode b 19) cd77).trans (by decide +kernel)
theorem d77_21 : decode (vm_cd 77) 21 = .ok (.invokevirtual 46, 3) := (congrArg (fun b => decode b 21) cd77).trans (by decide +kernel)
theorem d77_24 : decode (vm_cd 77) 24 = .ok (.ifCond .eq 20, 3) := (congrArg (fun b => decode b 24) cd77).trans (by decide +kernel)
theorem d77_27 : decode (vm_cd 77) 27 = .ok (.lload_n 2, 1) := (congrArg (fun b => decode b 27) cd77).trans (by decide +kernel)
theorem d77_28 : decode (vm_cd 77) 28 = .ok (.aload_n 0, 1) := (congrArg (fun b => decode b 28) cd77).trans (by decide +kernel)
theorem d77_29 : decode (vm_cd 77) 29 = .ok (.iload_n 1, 1) := (congrArg (fun b => decode b 29) cd77).trans (by decide +kernel)
theorem d77_30 : decode (vm_cd 77) 30 = .ok (.invokevirtual 67, 3) := (congrArg (fun b => decode b 30) cd77).trans (by decide +kernel)
theorem d77_33 : decode (vm_cd 77) 33 = .ok (.lmul, 1) := (congrArg (fun b => decode b 33) cd77).trans (by decide +kernel)
theorem d77_34 : decode (vm_cd 77) 34 = .ok (.invokestatic 63, 3) := (congrArg (fun b => decode b 34) cd77).trans (by decide +kernel)
theorem d77_37 : decode (vm_cd 77) 37 = .ok (.lstore_n 2, 1) := (congrArg (fun b => decode b 37) cd77).trans (by decide +kernel)
theorem d77_38 : decode (vm_cd 77) 38 = .ok (.iinc 4 1, 3) := (congrArg (fun b => decode b 38) cd77).trans (by decide +kernel)
theorem d77_41 : decode (vm_cd 77) 41 = .ok (.goto (-32), 3) := (congrArg (fun b => decode b 41) cd77).trans (by decide +kernel)
theorem d77_44 : decode (vm_cd 77) 44 = .ok (.lload_n 2, 1) := (congrArg (fun b => decode b 44) cd77).trans (by decide +kernel)
theorem d77_45 : decode (vm_cd 77) 45 = .ok (.lreturn, 1) := (congrArg (fun b => decode b 45) cd77).trans (by decide +kernel)
theorem f77_23 : vm_fl.lookup (vm_own 77, 23) = some (5, 1, 165) := by decide +kernel
theorem c77_46 : vm_ml.lookup (vm_own 77, 46) = some (0, 73, 1, 786, 788, 23, 10) := vm_lk (by decide +kernel)
theorem c77_63 : vm_ml.lookup (vm_own 77, 63) = some (1, 75, 1, 830, 831, 0, 10) := vm_lk (by decide +kernel)
theorem c77_67 : vm_ml.lookup (vm_own 77, 67) = some (0, 78, 1, 782, 784, 22, 10) := vm_lk (by decide +kernel)
theorem r77 : vm_rt 77 = (some .long) := by decide +kernel
theorem B_Re_product_0 {X : vX} {d : Nat} {M : vM} {Q : Option vV → vM → Prop} {l1 : Int}  (k : cq X d 78 [vR 68, vI l1] M (fun r M1 => wp X d 77 5 [vR 68, vI l1, vN, vN, vN] (r.toList ++ []) (vS0, M1) (vP Q))) : vw X d 77 0 [vR 68, vI l1, vN, vN, vN] [] M Q := by
  refine w_aload_n d77_0 rfl ?_
  refine w_iload_n d77_1 rfl ?_
  exact w_inv0 (a := 68) (c := 5) d77_2 c77_67 rfl rfl rfl v78 (Nat.le_of_ble_eq_true rfl) (cq.cl (k))
theorem B_Re_product_5 {X : vX} {d : Nat} {M : vM} {Q : Option vV → vM → Prop} {l1 s0 : Int}  (k : vw X d 77 9 [vR 68, vI l1, vL s0, vN, vI 0] [] M Q) : vw X d 77 5 [vR 68, vI l1, vN, vN, vN] [vL s0] M Q := by
  refine w_lstore_nE (ls' := [vR 68, vI l1, vL s0, vN, vN]) d77_5 (Nat.le_of_ble_eq_true rfl) rfl ?_
  refine w_ic (v := 0) d77_6 rfl ?_
  refine w_istoreE (ls' := [vR 68, vI l1, vL s0, vN, vI 0]) d77_7 (Nat.le_of_ble_eq_true rfl) rfl ?_
  exact k
theorem B_Re_product_9 {X : vX} {d : Nat} {M : vM} {Q : Option vV → vM → Prop} {l1 l2 l4 : Int}  (k1 : (M 68 1) ≤ l4 → vw X d 77 44 [vR 68, vI l1, vL l2, vN, vI l4] [] M Q) (k2 : l4 < (M 68 1) → vw X d 77 18 [vR 68, vI l1, vL l2, vN, vI l4] [] M Q) : vw X d 77 9 [vR 68, vI l1, vL l2, vN, vI l4] [] M Q := by
  refine w_iload d77_9 rfl ?_
  refine w_aload_n d77_11 rfl ?_
  refine w_getf (a := 68) (v := vI (M 68 1)) d77_12 f77_23 rfl rfl rfl ?_
  exact w_icmp_ge d77_15 rfl (fun h => k1 h) (fun h => k2 h)
theorem B_Re_product_18 {X : vX} {d : Nat} {M : vM} {Q : Option vV → vM → Prop} {l1 l2 l4 : Int}  (k : cq X d 73 [vR 68, vI 42] M (fun r M1 => wp X d 77 24 [vR 68, vI l1, vL l2, vN, vI l4] (r.toList ++ []) (vS0, M1) (vP Q))) : vw X d 77 18 [vR 68, vI l1, vL l2, vN, vI l4] [] M Q := by
  refine w_aload_n d77_18 rfl ?_
  refine w_bi (v := 42) d77_19 rfl ?_
  exact w_inv0 (a := 68) (c := 5) d77_21 c77_46 rfl rfl rfl v73 (Nat.le_of_ble_eq_true rfl) (cq.cl (k))
theorem B_Re_product_24 {X : vX} {d : Nat} {M : vM} {Q : Option vV → vM → Prop} {l1 l2 l4 s0 : Int}  (k1 : s0 = 0 → vw X d 77 44 [vR 68, vI l1, vL l2, vN, vI l4] [] M Q) (k2 : ¬ s0 = 0 → vw X d 77 27 [vR 68, vI l1, vL l2, vN, vI l4] [] M Q) : vw X d 77 24 [vR 68, vI l1, vL l2, vN, vI l4] [vI s0] M Q := by
  exact w_if_eq d77_24 rfl (fun h => k1 h) (fun h => k2 h)
theorem B_Re_product_27 {X : vX} {d : Nat} {M : vM} {Q : Option vV → vM → Prop} {l1 l2 l4 : Int}  (k : cq X d 78 [vR 68, vI l1] M (fun r M1 => wp X d 77 33 [vR 68, vI l1, vL l2, vN, vI l4] (r.toList ++ [vL l2]) (vS0, M1) (vP Q))) : vw X d 77 27 [vR 68, vI l1, vL l2, vN, vI l4] [] M Q := by
  refine w_lload_n d77_27 rfl ?_
  refine w_aload_n d77_28 rfl ?_
  refine w_iload_n d77_29 rfl ?_
  exact w_inv0 (a := 68) (c := 5) d77_30 c77_67 rfl rfl rfl v78 (Nat.le_of_ble_eq_true rfl) (cq.cl (k))
theorem B_Re_product_33 {X : vX} {d : Nat} {M : vM} {Q : Option vV → vM → Prop} {l1 l2 l4 s0 s1 : Int}  (k : cq X d 75 [vL (w64 (s0 * s1))] M (fun r M1 => wp X d 77 37 [vR 68, vI l1, vL l2, vN, vI l4] (r.toList ++ []) (vS0, M1) (vP Q))) : vw X d 77 33 [vR 68, vI l1, vL l2, vN, vI l4] [vL s1, vL s0] M Q := by
  refine w_lmul d77_33 ?_
  exact w_inv1 d77_34 c77_63 (by decide) rfl (Nat.le_of_ble_eq_true rfl) (cq.cl (k))
theorem B_Re_product_37 {X : vX} {d : Nat} {M : vM} {Q : Option vV → vM → Prop} {l1 l2 l4 s0 : Int}  (k : vw X d 77 9 [vR 68, vI l1, vL s0, vN, vI (w32 (l4 + 1))] [] M Q) : vw X d 77 37 [vR 68, vI l1, vL l2, vN, vI l4] [vL s0] M Q := by
  refine w_lstore_nE (ls' := [vR 68, vI l1, vL s0, vN, vI l4]) d77_37 (Nat.le_of_ble_eq_true rfl) rfl ?_
  refine w_iincE (ls' := [vR 68, vI l1, vL s0, vN, vI (w32 (l4 + 1))]) d77_38 rfl rfl ?_
  refine w_goto (tgt := 9) d77_41 rfl ?_
  exact k
theorem B_Re_product_44 {X : vX} {d : Nat} {M : vM} {Q : Option vV → vM → Prop} {l1 l2 l4 : Int}  (k : Q (some (vL l2)) M) : vw X d 77 44 [vR 68, vI l1, vL l2, vN, vI l4] [] M Q := by
  refine w_lload_n d77_44 rfl ?_
  exact w_lret d77_45 r77 ⟨_, rfl, k⟩
theorem E_Re_product {X : vX} {d : Nat} {M : vM} {Q : Option vV → vM → Prop} {l1 : Int} (k : vw X d 77 0 [vR 68, vI l1, vN, vN, vN] [] M Q) : cq X (d + 1) 77 [vR 68, vI l1] M Q := wc_in (Nat.le_of_ble_eq_true rfl) (Nat.le_of_ble_eq_true rfl) k
theorem cd78 : vm_cd 78 = cX6_atom := rfl
theorem d78_0 : decode (vm_cd 78) 0 = .ok (.aload_n 0, 1) := (congrArg (fun b => decode b 0) cd78).trans (by decide +kernel)
theorem d78_1 : decode (vm_cd 78) 1 = .ok (.bipush 115, 2) := (congrArg (fun b => decode b 1) cd78).trans (by decide +kernel)
theorem d78_3 : decode (vm_cd 78) 3 = .ok (.invokevirtual 46, 3) := (congrArg (fun b => decode b 3) cd78).trans (by decide +kernel)
theorem d78_6 : decode (vm_cd 78) 6 = .ok (.ifCond .eq 9, 3) := (congrArg (fun b => decode b 6) cd78).trans (by decide +kernel)
theorem d78_9 : decode (vm_cd 78) 9 = .ok (.aload_n 0, 1) := (congrArg (fun b => decode b 9) cd78).trans (by decide +kernel)
theorem d78_10 : decode (vm_cd 78) 10 = .ok (.getfield 29, 3) := (congrArg (fun b => decode b 10) cd78).trans (by decide +kernel)
theorem d78_13 : decode (vm_cd 78) 13 = .ok (.i2l, 1) := (congrArg (fun b => decode b 13) cd78).trans (by decide +kernel)
theorem d78_14 : decode (vm_cd 78) 14 = .ok (.lreturn, 1) := (congrArg (fun b => decode b 14) cd78).trans (by decide +kernel)
theorem d78_15 : decode (vm_cd 78) 15 = .ok (.aload_n 0, 1) := (congrArg (fun b => decode b 15) cd78).trans (by decide +kernel)
theorem d78_16 : decode (vm_cd 78) 16 = .ok (.bipush 118, 2) := (congrArg (fun b => decode b 16) cd78).trans (by decide +kernel)
theorem d78_18 : decode (vm_cd 78) 18 = .ok (.invokevirtual 46, 3) := (congrArg (fun b => decode b 18) cd78).trans (by decide +kernel)
theorem d78_21 : decode (vm_cd 78) 21 = .ok (.ifCond .eq 9, 3) := (congrArg (fun b => decode b 21) cd78).trans (by decide +kernel)
theorem d78_24 : decode (vm_cd 78) 24 = .ok (.aload_n 0, 1) := (congrArg (fun b => decode b 24) cd78).trans (by decide +kernel)
theorem d78_25 : decode (vm_cd 78) 25 = .ok (.getfield 32, 3) := (congrArg (fun b => decode b 25) cd78).trans (by decide +kernel)
theorem d78_28 : decode (vm_cd 78) 28 = .ok (.i2l, 1) := (congrArg (fun b => decode b 28) cd78).trans (by decide +kernel)
theorem d78_29 : decode (vm_cd 78) 29 = .ok (.lreturn, 1) := (congrArg (fun b => decode b 29) cd78).trans (by decide +kernel)
theorem d78_30 : decode (vm_cd 78) 30 = .ok (.aload_n 0, 1) := (congrArg (fun b => decode b 30) cd78).trans (by decide +kernel)
theorem d78_31 : decode (vm_cd 78) 31 = .ok (.bipush 109, 2) := (congrArg (fun b => decode b 31) cd78).trans (by decide +kernel)
theorem d78_33 : decode (vm_cd 78) 33 = .ok (.invokevirtual 46, 3) := (congrArg (fun b => decode b 33) cd78).trans (by decide +kernel)
theorem d78_36 : decode (vm_cd 78) 36 = .ok (.ifCond .eq 9, 3) := (congrArg (fun b => decode b 36) cd78).trans (by decide +kernel)
theorem d78_39 : decode (vm_cd 78) 39 = .ok (.aload_n 0, 1) := (congrArg (fun b => decode b 39) cd78).trans (by decide +kernel)
theorem d78_40 : decode (vm_cd 78) 40 = .ok (.iload_n 1, 1) := (congrArg (fun b => decode b 40) cd78).trans (by decide +kernel)
theorem d78_41 : decode (vm_cd 78) 41 = .ok (.invokevirtual 70, 3) := (congrArg (fun b => decode b 41) cd78).trans (by decide +kernel)
theorem d78_44 : decode (vm_cd 78) 44 = .ok (.lreturn, 1) := (congrArg (fun b => decode b 44) cd78).trans (by decide +kernel)
theorem d78_45 : decode (vm_cd 78) 45 = .ok (.aload_n 0, 1) := (congrArg (fun b => decode b 45) cd78).trans (by decide +kernel)
theorem d78_46 : decode (vm_cd 78) 46 = .ok (.bipush 105, 2) := (congrArg (fun b => decode b 46) cd78).trans (by decide +kernel)
theorem d78_48 : decode (vm_cd 78) 48 = .ok (.invokevirtual 46, 3) := (congrArg (fun b => decode b 48) cd78).trans (by decide +kernel)
theorem d78_51 : decode (vm_cd 78) 51 = .ok (.ifCond .eq 9, 3) := (congrArg (fun b => decode b 51) cd78).trans (by decide +kernel)
theorem d78_54 : decode (vm_cd 78) 54 = .ok (.aload_n 0, 1) := (congrArg (fun b => decode b 54) cd78).trans (by decide +kernel)
theorem d78_55 : decode (vm_cd 78) 55 = .ok (.iload_n 1, 1) := (congrArg (fun b => decode b 55) cd78).trans (by decide +kernel)
theorem d78_56 : decode (vm_cd 78) 56 = .ok (.invokevirtual 73, 3) := (congrArg (fun b => decode b 56) cd78).trans (by decide +kernel)
theorem d78_59 : decode (vm_cd 78) 59 = .ok (.lreturn, 1) := (congrArg (fun b => decode b 59) cd78).trans (by decide +kernel)
theorem d78_60 : decode (vm_cd 78) 60 = .ok (.aload_n 0, 1) := (congrArg (fun b => decode b 60) cd78).trans (by decide +kernel)
theorem d78_61 : decode (vm_cd 78) 61 = .ok (.invokevirtual 42, 3) := (congrArg (fun b => decode b 61) cd78).trans (by decide +kernel)
theorem d78_64 : decode (vm_cd 78) 64 = .ok (.bipush 40, 2) := (congrArg (fun b => decode b 64) cd78).trans (by decide +kernel)
theorem d78_66 : decode (vm_cd 78) 66 = .ok (.if_icmp .ne 22, 3) := (congrArg (fun b => decode b 66) cd78).trans (by decide +kernel)
theorem d78_69 : decode (vm_cd 78) 69 = .ok (.aload_n 0, 1) := (congrArg (fun b => decode b 69) cd78).trans (by decide +kernel)
theorem d78_70 : decode (vm_cd 78) 70 = .ok (.iload_n 1, 1) := (congrArg (fun b => decode b 70) cd78).trans (by decide +kernel)
theorem d78_71 : decode (vm_cd 78) 71 = .ok (.invokevirtual 76, 3) := (congrArg (fun b => decode b 71) cd78).trans (by decide +kernel)
theorem d78_74 : decode (vm_cd 78) 74 = .ok (.aload_n 0, 1) := (congrArg (fun b => decode b 74) cd78).trans (by decide +kernel)
theorem d78_75 : decode (vm_cd 78) 75 = .ok (.iload_n 1, 1) := (congrArg (fun b => decode b 75) cd78).trans (by decide +kernel)
theorem d78_76 : decode (vm_cd 78) 76 = .ok (.invokevirtual 80, 3) := (congrArg (fun b => decode b 76) cd78).trans (by decide +kernel)
theorem d78_79 : decode (vm_cd 78) 79 = .ok (.lstore_n 2, 1) := (congrArg (fun b => decode b 79) cd78).trans (by decide +kernel)
theorem d78_80 : decode (vm_cd 78) 80 = .ok (.aload_n 0, 1) := (congrArg (fun b => decode b 80) cd78).trans (by decide +kernel)
theorem d78_81 : decode (vm_cd 78) 81 = .ok (.bipush 41, 2) := (congrArg (fun b => decode b 81) cd78).trans (by decide +kernel)
theorem d78_83 : decode (vm_cd 78) 83 = .ok (.invokevirtual 83, 3) := (congrArg (fun b => decode b 83) cd78).trans (by decide +kernel)
theorem d78_86 : decode (vm_cd 78) 86 = .ok (.lload_n 2, 1) := (congrArg (fun b => decode b 86) cd78).trans (by decide +kernel)
theorem d78_87 : decode (vm_cd 78) 87 = .ok (.lreturn, 1) := (congrArg (fun b => decode b 87) cd78).trans (by decide +kernel)
theorem d78_88 : decode (vm_cd 78) 88 = .ok (.aload_n 0, 1) := (congrArg (fun b => decode b 88) cd78).trans (by decide +kernel)
theorem d78_89 : decode (vm_cd 78) 89 = .ok (.invokevirtual 87, 3) := (congrArg (fun b => decode b 89) cd78).trans (by decide +kernel)
theorem d78_92 : decode (vm_cd 78) 92 = .ok (.lreturn, 1) := (congrArg (fun b => decode b 92) cd78).trans (by decide +kernel)
theorem f78_29 : vm_fl.lookup (vm_own 78, 29) = some (5, 4, 168) := by decide +kernel
theorem f78_32 : vm_fl.lookup (vm_own 78, 32) = some (5, 5, 169) := by decide +kernel
theorem c78_42 : vm_ml.lookup (vm_own 78, 42) = some (0, 71, 0, 790, 792, 24, 10) := vm_lk (by decide +kernel)
theorem c78_46 : vm_ml.lookup (vm_own 78, 46) = some (0, 73, 1, 786, 788, 23, 10) := vm_lk (by decide +kernel)
theorem c78_70 : vm_ml.lookup (vm_own 78, 70) = some (0, 82, 1, 794, 796, 25, 10) := vm_lk (by decide +kernel)
theorem c78_73 : vm_ml.lookup (vm_own 78, 73) = some (0, 83, 1, 820, 822, 30, 10) := vm_lk (by decide +kernel)
theorem c78_76 : vm_ml.lookup (vm_own 78, 76) = some (0, 80, 1, 806, 808, 28, 10) := vm_lk (by decide +kernel)
theorem c78_80 : vm_ml.lookup (vm_own 78, 80) = some (0, 81, 1, 810, 812, 29, 10) := vm_lk (by decide +kernel)
theorem c78_83 : vm_ml.lookup (vm_own 78, 83) = some (0, 74, 1, 798, 800, 26, 10) := vm_lk (by decide +kernel)
theorem c78_87 : vm_ml.lookup (vm_own 78, 87) = some (0, 79, 0, 824, 826, 31, 10) := vm_lk (by decide +kernel)
theorem r78 : vm_rt 78 = (some .long) := by decide +kernel
theorem B_Re_atom_0 {X : vX} {d : Nat} {M : vM} {Q : Option vV → vM → Prop} {l1 : Int}  (k : cq X d 73 [vR 68, vI 115] M (fun r M1 => wp X d 78 6 [vR 68, vI l1, vN, vN] (r.toList ++ []) (vS0, M1) (vP Q))) : vw X d 78 0 [vR 68, vI l1, vN, vN] [] M Q := by
  refine w_aload_n d78_0 rfl ?_
  refine w_bi (v := 115) d78_1 rfl ?_
  exact w_inv0 (a := 68) (c := 5) d78_3 c78_46 rfl rfl rfl v73 (Nat.le_of_ble_eq_true rfl) (cq.cl (k))
theorem B_Re_atom_6 {X : vX} {d : Nat} {M : vM} {Q : Option vV → vM → Prop} {l1 s0 : Int}  (k1 : s0 = 0 → vw X d 78 15 [vR 68, vI l1, vN, vN] [] M Q) (k2 : ¬ s0 = 0 → vw X d 78 9 [vR 68, vI l1, vN, vN] [] M Q) : vw X d 78 6 [vR 68, vI l1, vN, vN] [vI s0] M Q := by
  exact w_if_eq d78_6 rfl (fun h => k1 h) (fun h => k2 h)
theorem B_Re_atom_9 {X : vX} {d : Nat} {M : vM} {Q : Option vV → vM → Prop} {l1 : Int}  (k : Q (some (vL (M 68 4))) M) : vw X d 78 9 [vR 68, vI l1, vN, vN] [] M Q := by
  refine w_aload_n d78_9 rfl ?_
  refine w_getf (a := 68) (v := vI (M 68 4)) d78_10 f78_29 rfl rfl rfl ?_
  refine w_i2l d78_13 ?_
  exact w_lret d78_14 r78 ⟨_, rfl, k⟩
theorem B_Re_atom_15 {X : vX} {d : Nat} {M : vM} {Q : Option vV → vM → Prop} {l1 : Int}  (k : cq X d 73 [vR 68, vI 118] M (fun r M1 => wp X d 78 21 [vR 68, vI l1, vN, vN] (r.toList ++ []) (vS0, M1) (vP Q))) : vw X d 78 15 [vR 68, vI l1, vN, vN] [] M Q := by
  refine w_aload_n d78_15 rfl ?_
  refine w_bi (v := 118) d78_16 rfl ?_
  exact w_inv0 (a := 68) (c := 5) d78_18 c78_46 rfl rfl rfl v73 (Nat.le_of_ble_eq_true rfl) (cq.cl (k))
theorem B_Re_atom_21 {X : vX} {d : Nat} {M : vM} {Q : Option vV → vM → Prop} {l1 s0 : Int}  (k1 : s0 = 0 → vw X d 78 30 [vR 68, vI l1, vN, vN] [] M Q) (k2 : ¬ s0 = 0 → vw X d 78 24 [vR 68, vI l1, vN, vN] [] M Q) : vw X d 78 21 [vR 68, vI l1, vN, vN] [vI s0] M Q := by
  exact w_if_eq d78_21 rfl (fun h => k1 h) (fun h => k2 h)
theorem B_Re_atom_24 {X : vX} {d : Nat} {M : vM} {Q : Option vV → vM → Prop} {l1 : Int}  (k : Q (some (vL (M 68 5))) M) : vw X d 78 24 [vR 68, vI l1, vN, vN] [] M Q := by
  refine w_aload_n d78_24 rfl ?_
  refine w_getf (a := 68) (v := vI (M 68 5)) d78_25 f78_32 rfl rfl rfl ?_
  refine w_i2l d78_28 ?_
  exact w_lret d78_29 r78 ⟨_, rfl, k⟩
theorem B_Re_atom_30 {X : vX} {d : Nat} {M : vM} {Q : Option vV → vM → Prop} {l1 : Int}  (k : cq X d 73 [vR 68, vI 109] M (fun r M1 => wp X d 78 36 [vR 68, vI l1, vN, vN] (r.toList ++ []) (vS0, M1) (vP Q))) : vw X d 78 30 [vR 68, vI l1, vN, vN] [] M Q := by
  refine w_aload_n d78_30 rfl ?_
  refine w_bi (v := 109) d78_31 rfl ?_
  exact w_inv0 (a := 68) (c := 5) d78_33 c78_46 rfl rfl rfl v73 (Nat.le_of_ble_eq_true rfl) (cq.cl (k))
theorem B_Re_atom_36 {X : vX} {d : Nat} {M : vM} {Q : Option vV → vM → Prop} {l1 s0 : Int}  (k1 : s0 = 0 → vw X d 78 45 [vR 68, vI l1, vN, vN] [] M Q) (k2 : ¬ s0 = 0 → vw X d 78 39 [vR 68, vI l1, vN, vN] [] M Q) : vw X d 78 36 [vR 68, vI l1, vN, vN] [vI s0] M Q := by
  exact w_if_eq d78_36 rfl (fun h => k1 h) (fun h => k2 h)
theorem B_Re_atom_39 {X : vX} {d : Nat} {M : vM} {Q : Option vV → vM → Prop} {l1 : Int}  (k : cq X d 82 [vR 68, vI l1] M (fun r M1 => wp X d 78 44 [vR 68, vI l1, vN, vN] (r.toList ++ []) (vS0, M1) (vP Q))) : vw X d 78 39 [vR 68, vI l1, vN, vN] [] M Q := by
  refine w_aload_n d78_39 rfl ?_
  refine w_iload_n d78_40 rfl ?_
  exact w_inv0 (a := 68) (c := 5) d78_41 c78_70 rfl rfl rfl v82 (Nat.le_of_ble_eq_true rfl) (cq.cl (k))
theorem B_Re_atom_44 {X : vX} {d : Nat} {M : vM} {Q : Option vV → vM → Prop} {l1 s0 : Int}  (k : Q (some (vL s0)) M) : vw X d 78 44 [vR 68, vI l1, vN, vN] [vL s0] M Q := by
  exact w_lret d78_44 r78 ⟨_, rfl, k⟩
theorem B_Re_atom_45 {X : vX} {d : Nat} {M : vM} {Q : Option vV → vM → Prop} {l1 : Int}  (k : cq X d 73 [vR 68, vI 105] M (fun r M1 => wp X d 78 51 [vR 68, vI l1, vN, vN] (r.toList ++ []) (vS0, M1) (vP Q))) : vw X d 78 45 [vR 68, vI l1, vN, vN] [] M Q := by
  refine w_aload_n d78_45 rfl ?_
  refine w_bi (v := 105) d78_46 rfl ?_
  exact w_inv0 (a := 68) (c := 5) d78_48 c78_46 rfl rfl rfl v73 (Nat.le_of_ble_eq_true rfl) (cq.cl (k))
theorem B_Re_atom_51 {X : vX} {d : Nat} {M : vM} {Q : Option vV → vM → Prop} {l1 s0 : Int}  (k1 : s0 = 0 → vw X d 78 60 [vR 68, vI l1, vN, vN] [] M Q) (k2 : ¬ s0 = 0 → vw X d 78 54 [vR 68, vI l1, vN, vN] [] M Q) : vw X d 78 51 [vR 68, vI l1, vN, vN] [vI s0] M Q := by
  exact w_if_eq d78_51 rfl (fun h => k1 h) (fun h => k2 h)
theorem B_Re_atom_54 {X : vX} {d : Nat} {M : vM} {Q : Option vV → vM → Prop} {l1 : Int}  (k : cq X d 83 [vR 68, vI l1] M (fun r M1 => wp X d 78 59 [vR 68, vI l1, vN, vN] (r.toList ++ []) (vS0, M1) (vP Q))) : vw X d 78 54 [vR 68, vI l1, vN, vN] [] M Q := by
  refine w_aload_n d78_54 rfl ?_
  refine w_iload_n d78_55 rfl ?_
  exact w_inv0 (a := 68) (c := 5) d78_56 c78_73 rfl rfl rfl v83 (Nat.le_of_ble_eq_true rfl) (cq.cl (k))
theorem B_Re_atom_59 {X : vX} {d : Nat} {M : vM} {Q : Option vV → vM → Prop} {l1 s0 : Int}  (k : Q (some (vL s0)) M) : vw X d 78 59 [vR 68, vI l1, vN, vN] [vL s0] M Q := by
  exact w_lret d78_59 r78 ⟨_, rfl, k⟩
theorem B_Re_atom_60 {X : vX} {d : Nat} {M : vM} {Q : Option vV → vM → Prop} {l1 : Int}  (k : cq X d 71 [vR 68] M (fun r M1 => wp X d 78 64 [vR 68, vI l1, vN, vN] (r.toList ++ []) (vS0, M1) (vP Q))) : vw X d 78 60 [vR 68, vI l1, vN, vN] [] M Q := by
  refine w_aload_n d78_60 rfl ?_
  exact w_inv0 (a := 68) (c := 5) d78_61 c78_42 rfl rfl rfl v71 (Nat.le_of_ble_eq_true rfl) (cq.cl (k))
theorem B_Re_atom_64 {X : vX} {d : Nat} {M : vM} {Q : Option vV → vM → Prop} {l1 s0 : Int}  (k1 : ¬ s0 = 40 → vw X d 78 88 [vR 68, vI l1, vN, vN] [] M Q) (k2 : s0 = 40 → vw X d 78 69 [vR 68, vI l1, vN, vN] [] M Q) : vw X d 78 64 [vR 68, vI l1, vN, vN] [vI s0] M Q := by
  refine w_bi (v := 40) d78_64 rfl ?_
  exact w_icmp_ne d78_66 rfl (fun h => k1 h) (fun h => k2 h)
theorem B_Re_atom_69 {X : vX} {d : Nat} {M : vM} {Q : Option vV → vM → Prop} {l1 : Int}  (k : cq X d 80 [vR 68, vI l1] M (fun r M1 => wp X d 78 74 [vR 68, vI l1, vN, vN] (r.toList ++ []) (vS0, M1) (vP Q))) : vw X d 78 69 [vR 68, vI l1, vN, vN] [] M Q := by
  refine w_aload_n d78_69 rfl ?_
  refine w_iload_n d78_70 rfl ?_
  exact w_inv0 (a := 68) (c := 5) d78_71 c78_76 rfl rfl rfl v80 (Nat.le_of_ble_eq_true rfl) (cq.cl (k))
theorem B_Re_atom_74 {X : vX} {d : Nat} {M : vM} {Q : Option vV → vM → Prop} {l1 : Int}  (k : cq X d 81 [vR 68, vI l1] M (fun r M1 => wp X d 78 79 [vR 68, vI l1, vN, vN] (r.toList ++ []) (vS0, M1) (vP Q))) : vw X d 78 74 [vR 68, vI l1, vN, vN] [] M Q := by
  refine w_aload_n d78_74 rfl ?_
  refine w_iload_n d78_75 rfl ?_
  exact w_inv0 (a := 68) (c := 5) d78_76 c78_80 rfl rfl rfl v81 (Nat.le_of_ble_eq_true rfl) (cq.cl (k))
theorem B_Re_atom_79 {X : vX} {d : Nat} {M : vM} {Q : Option vV → vM → Prop} {l1 s0 : Int}  (k : cq X d 74 [vR 68, vI 41] M (fun r M1 => wp X d 78 86 [vR 68, vI l1, vL s0, vN] (r.toList ++ []) (vS0, M1) (vP Q))) : vw X d 78 79 [vR 68, vI l1, vN, vN] [vL s0] M Q := by
  refine w_lstore_nE (ls' := [vR 68, vI l1, vL s0, vN]) d78_79 (Nat.le_of_ble_eq_true rfl) rfl ?_
  refine w_aload_n d78_80 rfl ?_
  refine w_bi (v := 41) d78_81 rfl ?_
  exact w_inv0 (a := 68) (c := 5) d78_83 c78_83 rfl rfl rfl v74 (Nat.le_of_ble_eq_true rfl) (cq.cl (k))
theorem B_Re_atom_86 {X : vX} {d : Nat} {M : vM} {Q : Option vV → vM → Prop} {l1 l2 : Int}  (k : Q (some (vL l2)) M) : vw X d 78 86 [vR 68, vI l1, vL l2, vN] [] M Q := by
  refine w_lload_n d78_86 rfl ?_
  exact w_lret d78_87 r78 ⟨_, rfl, k⟩
theorem B_Re_atom_88 {X : vX} {d : Nat} {M : vM} {Q : Option vV → vM → Prop} {l1 : Int}  (k : cq X d 79 [vR 68] M (fun r M1 => wp X d 78 92 [vR 68, vI l1, vN, vN] (r.toList ++ []) (vS0, M1) (vP Q))) : vw X d 78 88 [vR 68, vI l1, vN, vN] [] M Q := by
  refine w_aload_n d78_88 rfl ?_
  exact w_inv0 (a := 68) (c := 5) d78_89 c78_87 rfl rfl rfl v79 (Nat.le_of_ble_eq_true rfl) (cq.cl (k))
theorem B_Re_atom_92 {X : vX} {d : Nat} {M : vM} {Q : Option vV → vM → Prop} {l1 s0 : Int}  (k : Q (some (vL s0)) M) : vw X d 78 92 [vR 68, vI l1, vN, vN] [vL s0] M Q := by
  exact w_lret d78_92 r78 ⟨_, rfl, k⟩
theorem E_Re_atom {X : vX} {d : Nat} {M : vM} {Q : Option vV → vM → Prop} {l1 : Int} (k : vw X d 78 0 [vR 68, vI l1, vN, vN] [] M Q) : cq X (d + 1) 78 [vR 68, vI l1] M Q := wc_in (Nat.le_of_ble_eq_true rfl) (Nat.le_of_ble_eq_true rfl) k
theorem cd79 : vm_cd 79 = cX6_number := rfl
theorem d79_0 : decode (vm_cd 79) 0 = .ok (.aload_n 0, 1) := (congrArg (fun b => decode b 0) cd79).trans (by decide +kernel)
theorem d79_1 : decode (vm_cd 79) 1 = .ok (.getfield 26, 3) := (congrArg (fun b => decode b 1) cd79).trans (by decide +kernel)
theorem d79_4 : decode (vm_cd 79) 4 = .ok (.istore_n 1, 1) := (congrArg (fun b => decode b 4) cd79).trans (by decide +kernel)
theorem d79_5 : decode (vm_cd 79) 5 = .ok (.lconst 0, 1) := (congrArg (fun b => decode b 5) cd79).trans (by decide +kernel)
theorem d79_6 : decode (vm_cd 79) 6 = .ok (.lstore_n 2, 1) := (congrArg (fun b => decode b 6) cd79).trans (by decide +kernel)
theorem d79_7 : decode (vm_cd 79) 7 = .ok (.iconst 0, 1) := (congrArg (fun b => decode b 7) cd79).trans (by decide +kernel)
theorem d79_8 : decode (vm_cd 79) 8 = .ok (.istore 4, 2) := (congrArg (fun b => decode b 8) cd79).trans (by decide +kernel)
theorem d79_10 : decode (vm_cd 79) 10 = .ok (.iload 4, 2) := (congrArg (fun b => decode b 10) cd79).trans (by decide +kernel)
theorem d79_12 : decode (vm_cd 79) 12 = .ok (.iconst 4, 1) := (congrArg (fun b => decode b 12) cd79).trans (by decide +kernel)
theorem d79_13 : decode (vm_cd 79) 13 = .ok (.if_icmp .ge 53, 3) := (congrArg (fun b => decode b 13) cd79).trans (by decide +kernel)
theorem d79_16 : decode (vm_cd 79) 16 = .ok (.aload_n 0, 1) := (congrArg (fun b => decode b 16) cd79).trans (by decide +kernel)
theorem d79_17 : decode (vm_cd 79) 17 = .ok (.invokevirtual 42, 3) := (congrArg (fun b => decode b 17) cd79).trans (by decide +kernel)
theorem d79_20 : decode (vm_cd 79) 20 = .ok (.bipush 48, 2) := (congrArg (fun b => decode b 20) cd79).trans (by decide +kernel)
theorem d79_22 : decode (vm_cd 79) 22 = .ok (.if_icmp .lt 44, 3) := (congrArg (fun b => decode b 22) cd79).trans (by decide +kernel)
theorem d79_25 : decode (vm_cd 79) 25 = .ok (.aload_n 0, 1) := (congrArg (fun b => decode b 25) cd79).trans (by decide +kernel)
theorem d79_26 : decode (vm_cd 79) 26 = .ok (.invokevirtual 42, 3) := (congrArg (fun b => decode b 26) cd79).trans (by decide +kernel)
theorem d79_29 : decode (vm_cd 79) 29 = .ok (.bipush 57, 2) := (congrArg (fun b => decode b 29) cd79).trans (by decide +kernel)
theorem d79_31 : decode (vm_cd 79) 31 = .ok (.if_icmp .gt 35, 3) := (congrArg (fun b => decode b 31) cd79).trans (by decide +kernel)
theorem d79_34 : decode (vm_cd 79) 34 = .ok (.lload_n 2, 1) := (congrArg (fun b => decode b 34) cd79).trans (by decide +kernel)
theorem d79_35 : decode (vm_cd 79) 35 = .ok (.ldc2_w 91, 3) := (congrArg (fun b => decode b 35) cd79).trans (by decide +kernel)
theorem d79_38 : decode (vm_cd 79) 38 = .ok (.lmul, 1) := (congrArg (fun b => decode b 38) cd79).trans (by decide +kernel)
theorem d79_39 : decode (vm_cd 79) 39 = .ok (.aload_n 0, 1) := (congrArg (fun b => decode b 39) cd79).trans (by decide +kernel)
theorem d79_40 : decode (vm_cd 79) 40 = .ok (.invokevirtual 42, 3) := (congrArg (fun b => decode b 40) cd79).trans (by decide +kernel)
theorem d79_43 : decode (vm_cd 79) 43 = .ok (.i2l, 1) := (congrArg (fun b => decode b 43) cd79).trans (by decide +kernel)
theorem d79_44 : decode (vm_cd 79) 44 = .ok (.ladd, 1) := (congrArg (fun b => decode b 44) cd79).trans (by decide +kernel)
theorem d79_45 : decode (vm_cd 79) 45 = .ok (.ldc2_w 93, 3) := (congrArg (fun b => decode b 45) cd79).trans (by decide +kernel)
theorem d79_48 : decode (vm_cd 79) 48 = .ok (.lsub, 1) := (congrArg (fun b => decode b 48) cd79).trans (by decide +kernel)
theorem d79_49 : decode (vm_cd 79) 49 = .ok (.lstore_n 2, 1) := (congrArg (fun b => decode b 49) cd79).trans (by decide +kernel)
theorem d79_50 : decode (vm_cd 79) 50 = .ok (.aload_n 0, 1) := (congrArg (fun b => decode b 50) cd79).trans (by decide +kernel)
theorem d79_51 : decode (vm_cd 79) 51 = .ok (.dup, 1) := (congrArg (fun b => decode b 51) cd79).trans (by decide +kernel)
theorem d79_52 : decode (vm_cd 79) 52 = .ok (.getfield 26, 3) := (congrArg (fun b => decode b 52) cd79).trans (by decide +kernel)
theorem d79_55 : decode (vm_cd 79) 55 = .ok (.iconst 1, 1) := (congrArg (fun b => decode b 55) cd79).trans (by decide +kernel)
theorem d79_56 : decode (vm_cd 79) 56 = .ok (.iadd, 1) := (congrArg (fun b => decode b 56) cd79).trans (by decide +kernel)
theorem d79_57 : decode (vm_cd 79) 57 = .ok (.putfield 26, 3) := (congrArg (fun b => decode b 57) cd79).trans (by decide +kernel)
theorem d79_60 : decode (vm_cd 79) 60 = .ok (.iinc 4 1, 3) := (congrArg (fun b => decode b 60) cd79).trans (by decide +kernel)
theorem d79_63 : decode (vm_cd 79) 63 = .ok (.goto (-53), 3) := (congrArg (fun b => decode b 63) cd79).trans (by decide +kernel)
theorem d79_66 : decode (vm_cd 79) 66 = .ok (.aload_n 0, 1) := (congrArg (fun b => decode b 66) cd79).trans (by decide +kernel)
theorem d79_67 : decode (vm_cd 79) 67 = .ok (.getfield 26, 3) := (congrArg (fun b => decode b 67) cd79).trans (by decide +kernel)
theorem d79_70 : decode (vm_cd 79) 70 = .ok (.iload_n 1, 1) := (congrArg (fun b => decode b 70) cd79).trans (by decide +kernel)
theorem d79_71 : decode (vm_cd 79) 71 = .ok (.if_icmp .ne 7, 3) := (congrArg (fun b => decode b 71) cd79).trans (by decide +kernel)
theorem d79_74 : decode (vm_cd 79) 74 = .ok (.aload_n 0, 1) := (congrArg (fun b => decode b 74) cd79).trans (by decide +kernel)
theorem d79_75 : decode (vm_cd 79) 75 = .ok (.invokevirtual 39, 3) := (congrArg (fun b => decode b 75) cd79).trans (by decide +kernel)
theorem d79_78 : decode (vm_cd 79) 78 = .ok (.lload_n 2, 1) := (congrArg (fun b => decode b 78) cd79).trans (by decide +kernel)
theorem d79_79 : decode (vm_cd 79) 79 = .ok (.lreturn, 1) := (congrArg (fun b => decode b 79) cd79).trans (by decide +kernel)
theorem f79_26 : vm_fl.lookup (vm_own 79, 26) = some (5, 2, 166) := by decide +kernel
theorem c79_39 : vm_ml.lookup (vm_own 79, 39) = some (0, 72, 0, 802, 804, 27, 10) := vm_lk (by decide +kernel)
theorem c79_42 : vm_ml.lookup (vm_own 79, 42) = some (0, 71, 0, 790, 792, 24, 10) := vm_lk (by decide +kernel)
theorem g79_91 : vm_cn.lookup (vm_own 79, 91) = some ((1), (10), (828)) := by decide +kernel
theorem g79_93 : vm_cn.lookup (vm_own 79, 93) = some ((1), (48), (829)) := by decide +kernel
theorem r79 : vm_rt 79 = (some .long) := by decide +kernel
theorem B_Re_number_0 {X : vX} {d : Nat} {M : vM} {Q : Option vV → vM → Prop}  (k : vw X d 79 10 [vR 68, vI (M 68 2), vL 0, vN, vI 0] [] M Q) : vw X d 79 0 [vR 68, vN, vN, vN, vN] [] M Q := by
  refine w_aload_n d79_0 rfl ?_
  refine w_getf (a := 68) (v := vI (M 68 2)) d79_1 f79_26 rfl rfl rfl ?_
  refine w_istore_nE (ls' := [vR 68, vI (M 68 2), vN, vN, vN]) d79_4 (Nat.le_of_ble_eq_true rfl) rfl ?_
  refine w_lc (v := 0) d79_5 rfl ?_
  refine w_lstore_nE (ls' := [vR 68, vI (M 68 2), vL 0, vN, vN]) d79_6 (Nat.le_of_ble_eq_true rfl) rfl ?_
  refine w_ic (v := 0) d79_7 rfl ?_
  refine w_istoreE (ls' := [vR 68, vI (M 68 2), vL 0, vN, vI 0]) d79_8 (Nat.le_of_ble_eq_true rfl) rfl ?_
  exact k
theorem B_Re_number_10 {X : vX} {d : Nat} {M : vM} {Q : Option vV → vM → Prop} {l1 l2 l4 : Int}  (k1 : 4 ≤ l4 → vw X d 79 66 [vR 68, vI l1, vL l2, vN, vI l4] [] M Q) (k2 : l4 < 4 → vw X d 79 16 [vR 68, vI l1, vL l2, vN, vI l4] [] M Q) : vw X d 79 10 [vR 68, vI l1, vL l2, vN, vI l4] [] M Q := by
  refine w_iload d79_10 rfl ?_
  refine w_ic (v := 4) d79_12 rfl ?_
  exact w_icmp_ge d79_13 rfl (fun h => k1 h) (fun h => k2 h)
theorem B_Re_number_16 {X : vX} {d : Nat} {M : vM} {Q : Option vV → vM → Prop} {l1 l2 l4 : Int}  (k : cq X d 71 [vR 68] M (fun r M1 => wp X d 79 20 [vR 68, vI l1, vL l2, vN, vI l4] (r.toList ++ []) (vS0, M1) (vP Q))) : vw X d 79 16 [vR 68, vI l1, vL l2, vN, vI l4] [] M Q := by
  refine w_aload_n d79_16 rfl ?_
  exact w_inv0 (a := 68) (c := 5) d79_17 c79_42 rfl rfl rfl v71 (Nat.le_of_ble_eq_true rfl) (cq.cl (k))
theorem B_Re_number_20 {X : vX} {d : Nat} {M : vM} {Q : Option vV → vM → Prop} {l1 l2 l4 s0 : Int}  (k1 : s0 < 48 → vw X d 79 66 [vR 68, vI l1, vL l2, vN, vI l4] [] M Q) (k2 : 48 ≤ s0 → vw X d 79 25 [vR 68, vI l1, vL l2, vN, vI l4] [] M Q) : vw X d 79 20 [vR 68, vI l1, vL l2, vN, vI l4] [vI s0] M Q := by
  refine w_bi (v := 48) d79_20 rfl ?_
  exact w_icmp_lt d79_22 rfl (fun h => k1 h) (fun h => k2 h)
theorem B_Re_number_25 {X : vX} {d : Nat} {M : vM} {Q : Option vV → vM → Prop} {l1 l2 l4 : Int}  (k : cq X d 71 [vR 68] M (fun r M1 => wp X d 79 29 [vR 68, vI l1, vL l2, vN, vI l4] (r.toList ++ []) (vS0, M1) (vP Q))) : vw X d 79 25 [vR 68, vI l1, vL l2, vN, vI l4] [] M Q := by
  refine w_aload_n d79_25 rfl ?_
  exact w_inv0 (a := 68) (c := 5) d79_26 c79_42 rfl rfl rfl v71 (Nat.le_of_ble_eq_true rfl) (cq.cl (k))
theorem B_Re_number_29 {X : vX} {d : Nat} {M : vM} {Q : Option vV → vM → Prop} {l1 l2 l4 s0 : Int}  (k1 : 57 < s0 → vw X d 79 66 [vR 68, vI l1, vL l2, vN, vI l4] [] M Q) (k2 : s0 ≤ 57 → vw X d 79 34 [vR 68, vI l1, vL l2, vN, vI l4] [] M Q) : vw X d 79 29 [vR 68, vI l1, vL l2, vN, vI l4] [vI s0] M Q := by
  refine w_bi (v := 57) d79_29 rfl ?_
  exact w_icmp_gt d79_31 rfl (fun h => k1 h) (fun h => k2 h)
theorem B_Re_number_34 {X : vX} {d : Nat} {M : vM} {Q : Option vV → vM → Prop} {l1 l2 l4 : Int}  (k : cq X d 71 [vR 68] M (fun r M1 => wp X d 79 43 [vR 68, vI l1, vL l2, vN, vI l4] (r.toList ++ [vL (w64 (l2 * 10))]) (vS0, M1) (vP Q))) : vw X d 79 34 [vR 68, vI l1, vL l2, vN, vI l4] [] M Q := by
  refine w_lload_n d79_34 rfl ?_
  refine w_ldc2_w (v := 10) d79_35 g79_91 rfl ?_
  refine w_lmul d79_38 ?_
  refine w_aload_n d79_39 rfl ?_
  exact w_inv0 (a := 68) (c := 5) d79_40 c79_42 rfl rfl rfl v71 (Nat.le_of_ble_eq_true rfl) (cq.cl (k))
theorem B_Re_number_43 {X : vX} {d : Nat} {M : vM} {Q : Option vV → vM → Prop} {l1 l2 l4 s0 s1 : Int} (hR : vRefs M)  (k : vRefs (vm_up M 68 2 (w32 ((M 68 2) + 1))) → vw X d 79 10 [vR 68, vI l1, vL (w64 ((w64 (s0 + s1)) - 48)), vN, vI (w32 (l4 + 1))] [] (vm_up M 68 2 (w32 ((M 68 2) + 1))) Q) : vw X d 79 43 [vR 68, vI l1, vL l2, vN, vI l4] [vI s1, vL s0] M Q := by
  refine w_i2l d79_43 ?_
  refine w_ladd d79_44 ?_
  refine w_ldc2_w (v := 48) d79_45 g79_93 rfl ?_
  refine w_lsub d79_48 ?_
  refine w_lstore_nE (ls' := [vR 68, vI l1, vL (w64 ((w64 (s0 + s1)) - 48)), vN, vI l4]) d79_49 (Nat.le_of_ble_eq_true rfl) rfl ?_
  refine w_aload_n d79_50 rfl ?_
  refine w_dup d79_51 rfl ?_
  refine w_getf (a := 68) (v := vI (M 68 2)) d79_52 f79_26 rfl rfl rfl ?_
  refine w_ic (v := 1) d79_55 rfl ?_
  refine w_iadd d79_56 ?_
  refine w_putf (a := 68) (x := w32 ((M 68 2) + 1)) d79_57 f79_26 rfl rfl rfl (Or.inl rfl) ?_
  refine w_iincE (ls' := [vR 68, vI l1, vL (w64 ((w64 (s0 + s1)) - 48)), vN, vI (w32 (l4 + 1))]) d79_60 rfl rfl ?_
  refine w_goto (tgt := 10) d79_63 rfl ?_
  exact k (vRefs_up hR ⟨by decide, by decide⟩)
theorem B_Re_number_66 {X : vX} {d : Nat} {M : vM} {Q : Option vV → vM → Prop} {l1 l2 l4 : Int}  (k1 : ¬ (M 68 2) = l1 → vw X d 79 78 [vR 68, vI l1, vL l2, vN, vI l4] [] M Q) (k2 : (M 68 2) = l1 → vw X d 79 74 [vR 68, vI l1, vL l2, vN, vI l4] [] M Q) : vw X d 79 66 [vR 68, vI l1, vL l2, vN, vI l4] [] M Q := by
  refine w_aload_n d79_66 rfl ?_
  refine w_getf (a := 68) (v := vI (M 68 2)) d79_67 f79_26 rfl rfl rfl ?_
  refine w_iload_n d79_70 rfl ?_
  exact w_icmp_ne d79_71 rfl (fun h => k1 h) (fun h => k2 h)
theorem B_Re_number_74 {X : vX} {d : Nat} {M : vM} {Q : Option vV → vM → Prop} {l1 l2 l4 : Int}  (k : cq X d 72 [vR 68] M (fun r M1 => wp X d 79 78 [vR 68, vI l1, vL l2, vN, vI l4] (r.toList ++ []) (vS0, M1) (vP Q))) : vw X d 79 74 [vR 68, vI l1, vL l2, vN, vI l4] [] M Q := by
  refine w_aload_n d79_74 rfl ?_
  exact w_inv0 (a := 68) (c := 5) d79_75 c79_39 rfl rfl rfl v72 (Nat.le_of_ble_eq_true rfl) (cq.cl (k))
theorem B_Re_number_78 {X : vX} {d : Nat} {M : vM} {Q : Option vV → vM → Prop} {l1 l2 l4 : Int}  (k : Q (some (vL l2)) M) : vw X d 79 78 [vR 68, vI l1, vL l2, vN, vI l4] [] M Q := by
  refine w_lload_n d79_78 rfl ?_
  exact w_lret d79_79 r79 ⟨_, rfl, k⟩
theorem E_Re_number {X : vX} {d : Nat} {M : vM} {Q : Option vV → vM → Prop} (k : vw X d 79 0 [vR 68, vN, vN, vN, vN] [] M Q) : cq X (d + 1) 79 [vR 68] M Q := wc_in (Nat.le_of_ble_eq_true rfl) (Nat.le_of_ble_eq_true rfl) k
theorem cd80 : vm_cd 80 = cX6_opens := rfl
theorem d80_0 : decode (vm_cd 80) 0 = .ok (.iload_n 1, 1) := (congrArg (fun b => decode b 0) cd80).trans (by decide +kernel)
theorem d80_1 : decode (vm_cd 80) 1 = .ok (.iconst 5, 1) := (congrArg (fun b => decode b 1) cd80).trans (by decide +kernel)
theorem d80_2 : decode (vm_cd 80) 2 = .ok (.if_icmp .lt 7, 3) := (congrArg (fun b => decode b 2) cd80).trans (by decide +kernel)
theorem d80_5 : decode (vm_cd 80) 5 = .ok (.aload_n 0, 1) := (congrArg (fun b => decode b 5) cd80).trans (by decide +kernel)
theorem d80_6 : decode (vm_cd 80) 6 = .ok (.invokevirtual 39, 3) := (congrArg (fun b => decode b 6) cd80).trans (by decide +kernel)
theorem d80_9 : decode (vm_cd 80) 9 = .ok (.aload_n 0, 1) := (congrArg (fun b => decode b 9) cd80).trans (by decide +kernel)
theorem d80_10 : decode (vm_cd 80) 10 = .ok (.bipush 40, 2) := (congrArg (fun b => decode b 10) cd80).trans (by decide +kernel)
theorem d80_12 : decode (vm_cd 80) 12 = .ok (.invokevirtual 83, 3) := (congrArg (fun b => decode b 12) cd80).trans (by decide +kernel)
theorem d80_15 : decode (vm_cd 80) 15 = .ok (.return_, 1) := (congrArg (fun b => decode b 15) cd80).trans (by decide +kernel)
theorem c80_39 : vm_ml.lookup (vm_own 80, 39) = some (0, 72, 0, 802, 804, 27, 10) := vm_lk (by decide +kernel)
theorem c80_83 : vm_ml.lookup (vm_own 80, 83) = some (0, 74, 1, 798, 800, 26, 10) := vm_lk (by decide +kernel)
theorem r80 : vm_rt 80 = none := by decide +kernel
theorem B_Re_opens_0 {X : vX} {d : Nat} {M : vM} {Q : Option vV → vM → Prop} {l1 : Int}  (k1 : l1 < 5 → vw X d 80 9 [vR 68, vI l1] [] M Q) (k2 : 5 ≤ l1 → vw X d 80 5 [vR 68, vI l1] [] M Q) : vw X d 80 0 [vR 68, vI l1] [] M Q := by
  refine w_iload_n d80_0 rfl ?_
  refine w_ic (v := 5) d80_1 rfl ?_
  exact w_icmp_lt d80_2 rfl (fun h => k1 h) (fun h => k2 h)
theorem B_Re_opens_5 {X : vX} {d : Nat} {M : vM} {Q : Option vV → vM → Prop} {l1 : Int}  (k : cq X d 72 [vR 68] M (fun r M1 => wp X d 80 9 [vR 68, vI l1] (r.toList ++ []) (vS0, M1) (vP Q))) : vw X d 80 5 [vR 68, vI l1] [] M Q := by
  refine w_aload_n d80_5 rfl ?_
  exact w_inv0 (a := 68) (c := 5) d80_6 c80_39 rfl rfl rfl v72 (Nat.le_of_ble_eq_true rfl) (cq.cl (k))
theorem B_Re_opens_9 {X : vX} {d : Nat} {M : vM} {Q : Option vV → vM → Prop} {l1 : Int}  (k : cq X d 74 [vR 68, vI 40] M (fun r M1 => wp X d 80 15 [vR 68, vI l1] (r.toList ++ []) (vS0, M1) (vP Q))) : vw X d 80 9 [vR 68, vI l1] [] M Q := by
  refine w_aload_n d80_9 rfl ?_
  refine w_bi (v := 40) d80_10 rfl ?_
  exact w_inv0 (a := 68) (c := 5) d80_12 c80_83 rfl rfl rfl v74 (Nat.le_of_ble_eq_true rfl) (cq.cl (k))
theorem B_Re_opens_15 {X : vX} {d : Nat} {M : vM} {Q : Option vV → vM → Prop} {l1 : Int}  (k : Q none M) : vw X d 80 15 [vR 68, vI l1] [] M Q := by
  exact w_vret d80_15 r80 ⟨_, rfl, k⟩
theorem E_Re_opens {X : vX} {d : Nat} {M : vM} {Q : Option vV → vM → Prop} {l1 : Int} (k : vw X d 80 0 [vR 68, vI l1] [] M Q) : cq X (d + 1) 80 [vR 68, vI l1] M Q := wc_in (Nat.le_of_ble_eq_true rfl) (Nat.le_of_ble_eq_true rfl) k
theorem cd81 : vm_cd 81 = cX6_deeper := rfl
theorem d81_0 : decode (vm_cd 81) 0 = .ok (.aload_n 0, 1) := (congrArg (fun b => decode b 0) cd81).trans (by decide +kernel)
theorem d81_1 : decode (vm_cd 81) 1 = .ok (.getfield 13, 3) := (congrArg (fun b => decode b 1) cd81).trans (by decide +kernel)
theorem d81_4 : decode (vm_cd 81) 4 = .ok (.ifCond .ge 18, 3) := (congrArg (fun b => decode b 4) cd81).trans (by decide +kernel)
theorem d81_7 : decode (vm_cd 81) 7 = .ok (.iload_n 1, 1) := (congrArg (fun b => decode b 7) cd81).trans (by decide +kernel)
theorem d81_8 : decode (vm_cd 81) 8 = .ok (.iconst 5, 1) := (congrArg (fun b => decode b 8) cd81).trans (by decide +kernel)
theorem d81_9 : decode (vm_cd 81) 9 = .ok (.if_icmp .ge 13, 3) := (congrArg (fun b => decode b 9) cd81).trans (by decide +kernel)
theorem d81_12 : decode (vm_cd 81) 12 = .ok (.aload_n 0, 1) := (congrArg (fun b => decode b 12) cd81).trans (by decide +kernel)
theorem d81_13 : decode (vm_cd 81) 13 = .ok (.iload_n 1, 1) := (congrArg (fun b => decode b 13) cd81).trans (by decide +kernel)
theorem d81_14 : decode (vm_cd 81) 14 = .ok (.iconst 1, 1) := (congrArg (fun b => decode b 14) cd81).trans (by decide +kernel)
theorem d81_15 : decode (vm_cd 81) 15 = .ok (.iadd, 1) := (congrArg (fun b => decode b 15) cd81).trans (by decide +kernel)
theorem d81_16 : decode (vm_cd 81) 16 = .ok (.invokevirtual 35, 3) := (congrArg (fun b => decode b 16) cd81).trans (by decide +kernel)
theorem d81_19 : decode (vm_cd 81) 19 = .ok (.goto 4, 3) := (congrArg (fun b => decode b 19) cd81).trans (by decide +kernel)
theorem d81_22 : decode (vm_cd 81) 22 = .ok (.lconst 0, 1) := (congrArg (fun b => decode b 22) cd81).trans (by decide +kernel)
theorem d81_23 : decode (vm_cd 81) 23 = .ok (.lreturn, 1) := (congrArg (fun b => decode b 23) cd81).trans (by decide +kernel)
theorem f81_13 : vm_fl.lookup (vm_own 81, 13) = some (5, 3, 167) := by decide +kernel
theorem c81_35 : vm_ml.lookup (vm_own 81, 35) = some (0, 76, 1, 774, 776, 20, 10) := vm_lk (by decide +kernel)
theorem r81 : vm_rt 81 = (some .long) := by decide +kernel
theorem B_Re_deeper_0 {X : vX} {d : Nat} {M : vM} {Q : Option vV → vM → Prop} {l1 : Int}  (k1 : 0 ≤ (M 68 3) → vw X d 81 22 [vR 68, vI l1] [] M Q) (k2 : (M 68 3) < 0 → vw X d 81 7 [vR 68, vI l1] [] M Q) : vw X d 81 0 [vR 68, vI l1] [] M Q := by
  refine w_aload_n d81_0 rfl ?_
  refine w_getf (a := 68) (v := vI (M 68 3)) d81_1 f81_13 rfl rfl rfl ?_
  exact w_if_ge d81_4 rfl (fun h => k1 h) (fun h => k2 h)
theorem B_Re_deeper_7 {X : vX} {d : Nat} {M : vM} {Q : Option vV → vM → Prop} {l1 : Int}  (k1 : 5 ≤ l1 → vw X d 81 22 [vR 68, vI l1] [] M Q) (k2 : l1 < 5 → vw X d 81 12 [vR 68, vI l1] [] M Q) : vw X d 81 7 [vR 68, vI l1] [] M Q := by
  refine w_iload_n d81_7 rfl ?_
  refine w_ic (v := 5) d81_8 rfl ?_
  exact w_icmp_ge d81_9 rfl (fun h => k1 h) (fun h => k2 h)
theorem B_Re_deeper_12 {X : vX} {d : Nat} {M : vM} {Q : Option vV → vM → Prop} {l1 : Int}  (k : cq X d 76 [vR 68, vI (w32 (l1 + 1))] M (fun r M1 => wp X d 81 19 [vR 68, vI l1] (r.toList ++ []) (vS0, M1) (vP Q))) : vw X d 81 12 [vR 68, vI l1] [] M Q := by
  refine w_aload_n d81_12 rfl ?_
  refine w_iload_n d81_13 rfl ?_
  refine w_ic (v := 1) d81_14 rfl ?_
  refine w_iadd d81_15 ?_
  exact w_inv0 (a := 68) (c := 5) d81_16 c81_35 rfl rfl rfl v76 (Nat.le_of_ble_eq_true rfl) (cq.cl (k))
theorem B_Re_deeper_19 {X : vX} {d : Nat} {M : vM} {Q : Option vV → vM → Prop} {l1 s0 : Int}  (k : Q (some (vL s0)) M) : vw X d 81 19 [vR 68, vI l1] [vL s0] M Q := by
  refine w_goto (tgt := 23) d81_19 rfl ?_
  exact w_lret d81_23 r81 ⟨_, rfl, k⟩
theorem B_Re_deeper_22 {X : vX} {d : Nat} {M : vM} {Q : Option vV → vM → Prop} {l1 : Int}  (k : Q (some (vL 0)) M) : vw X d 81 22 [vR 68, vI l1] [] M Q := by
  refine w_lc (v := 0) d81_22 rfl ?_
  exact w_lret d81_23 r81 ⟨_, rfl, k⟩
theorem E_Re_deeper {X : vX} {d : Nat} {M : vM} {Q : Option vV → vM → Prop} {l1 : Int} (k : vw X d 81 0 [vR 68, vI l1] [] M Q) : cq X (d + 1) 81 [vR 68, vI l1] M Q := wc_in (Nat.le_of_ble_eq_true rfl) (Nat.le_of_ble_eq_true rfl) k
theorem cd82 : vm_cd 82 = cX6_lesserOrGreater := rfl
theorem d82_0 : decode (vm_cd 82) 0 = .ok (.aload_n 0, 1) := (congrArg (fun b => decode b 0) cd82).trans (by decide +kernel)
theorem d82_1 : decode (vm_cd 82) 1 = .ok (.bipush 105, 2) := (congrArg (fun b => decode b 1) cd82).trans (by decide +kernel)
theorem d82_3 : decode (vm_cd 82) 3 = .ok (.invokevirtual 46, 3) := (congrArg (fun b => decode b 3) cd82).trans (by decide +kernel)
theorem d82_6 : decode (vm_cd 82) 6 = .ok (.istore_n 2, 1) := (congrArg (fun b => decode b 6) cd82).trans (by decide +kernel)
theorem d82_7 : decode (vm_cd 82) 7 = .ok (.iload_n 2, 1) := (congrArg (fun b => decode b 7) cd82).trans (by decide +kernel)
theorem d82_8 : decode (vm_cd 82) 8 = .ok (.ifCond .eq 12, 3) := (congrArg (fun b => decode b 8) cd82).trans (by decide +kernel)
theorem d82_11 : decode (vm_cd 82) 11 = .ok (.aload_n 0, 1) := (congrArg (fun b => decode b 11) cd82).trans (by decide +kernel)
theorem d82_12 : decode (vm_cd 82) 12 = .ok (.bipush 110, 2) := (congrArg (fun b => decode b 12) cd82).trans (by decide +kernel)
theorem d82_14 : decode (vm_cd 82) 14 = .ok (.invokevirtual 83, 3) := (congrArg (fun b => decode b 14) cd82).trans (by decide +kernel)
theorem d82_17 : decode (vm_cd 82) 17 = .ok (.goto 15, 3) := (congrArg (fun b => decode b 17) cd82).trans (by decide +kernel)
theorem d82_20 : decode (vm_cd 82) 20 = .ok (.aload_n 0, 1) := (congrArg (fun b => decode b 20) cd82).trans (by decide +kernel)
theorem d82_21 : decode (vm_cd 82) 21 = .ok (.bipush 97, 2) := (congrArg (fun b => decode b 21) cd82).trans (by decide +kernel)
theorem d82_23 : decode (vm_cd 82) 23 = .ok (.invokevirtual 83, 3) := (congrArg (fun b => decode b 23) cd82).trans (by decide +kernel)
theorem d82_26 : decode (vm_cd 82) 26 = .ok (.aload_n 0, 1) := (congrArg (fun b => decode b 26) cd82).trans (by decide +kernel)
theorem d82_27 : decode (vm_cd 82) 27 = .ok (.bipush 120, 2) := (congrArg (fun b => decode b 27) cd82).trans (by decide +kernel)
theorem d82_29 : decode (vm_cd 82) 29 = .ok (.invokevirtual 83, 3) := (congrArg (fun b => decode b 29) cd82).trans (by decide +kernel)
theorem d82_32 : decode (vm_cd 82) 32 = .ok (.aload_n 0, 1) := (congrArg (fun b => decode b 32) cd82).trans (by decide +kernel)
theorem d82_33 : decode (vm_cd 82) 33 = .ok (.iload_n 1, 1) := (congrArg (fun b => decode b 33) cd82).trans (by decide +kernel)
theorem d82_34 : decode (vm_cd 82) 34 = .ok (.invokevirtual 76, 3) := (congrArg (fun b => decode b 34) cd82).trans (by decide +kernel)
theorem d82_37 : decode (vm_cd 82) 37 = .ok (.aload_n 0, 1) := (congrArg (fun b => decode b 37) cd82).trans (by decide +kernel)
theorem d82_38 : decode (vm_cd 82) 38 = .ok (.iload_n 1, 1) := (congrArg (fun b => decode b 38) cd82).trans (by decide +kernel)
theorem d82_39 : decode (vm_cd 82) 39 = .ok (.invokevirtual 80, 3) := (congrArg (fun b => decode b 39) cd82).trans (by decide +kernel)
theorem d82_42 : decode (vm_cd 82) 42 = .ok (.lstore_n 3, 1) := (congrArg (fun b => decode b 42) cd82).trans (by decide +kernel)
theorem d82_43 : decode (vm_cd 82) 43 = .ok (.aload_n 0, 1) := (congrArg (fun b => decode b 43) cd82).trans (by decide +kernel)
theorem d82_44 : decode (vm_cd 82) 44 = .ok (.bipush 44, 2) := (congrArg (fun b => decode b 44) cd82).trans (by decide +kernel)
theorem d82_46 : decode (vm_cd 82) 46 = .ok (.invokevirtual 83, 3) := (congrArg (fun b => decode b 46) cd82).trans (by decide +kernel)
theorem d82_49 : decode (vm_cd 82) 49 = .ok (.aload_n 0, 1) := (congrArg (fun b => decode b 49) cd82).trans (by decide +kernel)
theorem d82_50 : decode (vm_cd 82) 50 = .ok (.iload_n 1, 1) := (congrArg (fun b => decode b 50) cd82).trans (by decide +kernel)
theorem d82_51 : decode (vm_cd 82) 51 = .ok (.invokevirtual 80, 3) := (congrArg (fun b => decode b 51) cd82).trans (by decide +kernel)
theorem d82_54 : decode (vm_cd 82) 54 = .ok (.lstore 5, 2) := (congrArg (fun b => decode b 54) cd82).trans (by decide +kernel)
theorem d82_56 : decode (vm_cd 82) 56 = .ok (.aload_n 0, 1) := (congrArg (fun b => decode b 56) cd82).trans (by decide +kernel)
theorem d82_57 : decode (vm_cd 82) 57 = .ok (.bipush 41, 2) := (congrArg (fun b => decode b 57) cd82).trans (by decide +kernel)
theorem d82_59 : decode (vm_cd 82) 59 = .ok (.invokevirtual 83, 3) := (congrArg (fun b => decode b 59) cd82).trans (by decide +kernel)
theorem d82_62 : decode (vm_cd 82) 62 = .ok (.iload_n 2, 1) := (congrArg (fun b => decode b 62) cd82).trans (by decide +kernel)
theorem d82_63 : decode (vm_cd 82) 63 = .ok (.ifCond .eq 12, 3) := (congrArg (fun b => decode b 63) cd82).trans (by decide +kernel)
theorem d82_66 : decode (vm_cd 82) 66 = .ok (.lload_n 3, 1) := (congrArg (fun b => decode b 66) cd82).trans (by decide +kernel)
theorem d82_67 : decode (vm_cd 82) 67 = .ok (.lload 5, 2) := (congrArg (fun b => decode b 67) cd82).trans (by decide +kernel)
theorem d82_69 : decode (vm_cd 82) 69 = .ok (.invokestatic 54, 3) := (congrArg (fun b => decode b 69) cd82).trans (by decide +kernel)
theorem d82_72 : decode (vm_cd 82) 72 = .ok (.goto 9, 3) := (congrArg (fun b => decode b 72) cd82).trans (by decide +kernel)
theorem d82_75 : decode (vm_cd 82) 75 = .ok (.lload_n 3, 1) := (congrArg (fun b => decode b 75) cd82).trans (by decide +kernel)
theorem d82_76 : decode (vm_cd 82) 76 = .ok (.lload 5, 2) := (congrArg (fun b => decode b 76) cd82).trans (by decide +kernel)
theorem d82_78 : decode (vm_cd 82) 78 = .ok (.invokestatic 57, 3) := (congrArg (fun b => decode b 78) cd82).trans (by decide +kernel)
theorem d82_81 : decode (vm_cd 82) 81 = .ok (.lreturn, 1) := (congrArg (fun b => decode b 81) cd82).trans (by decide +kernel)
theorem c82_46 : vm_ml.lookup (vm_own 82, 46) = some (0, 73, 1, 786, 788, 23, 10) := vm_lk (by decide +kernel)
theorem c82_54 : vm_ml.lookup (vm_own 82, 54) = some (1, 287, 2, 814, 815, 0, 3) := vm_lk (by decide +kernel)
theorem c82_57 : vm_ml.lookup (vm_own 82, 57) = some (1, 285, 2, 817, 818, 0, 3) := vm_lk (by decide +kernel)
theorem c82_76 : vm_ml.lookup (vm_own 82, 76) = some (0, 80, 1, 806, 808, 28, 10) := vm_lk (by decide +kernel)
theorem c82_80 : vm_ml.lookup (vm_own 82, 80) = some (0, 81, 1, 810, 812, 29, 10) := vm_lk (by decide +kernel)
theorem c82_83 : vm_ml.lookup (vm_own 82, 83) = some (0, 74, 1, 798, 800, 26, 10) := vm_lk (by decide +kernel)
theorem r82 : vm_rt 82 = (some .long) := by decide +kernel
theorem B_Re_lesserOrGreater_0 {X : vX} {d : Nat} {M : vM} {Q : Option vV → vM → Prop} {l1 : Int}  (k : cq X d 73 [vR 68, vI 105] M (fun r M1 => wp X d 82 6 [vR 68, vI l1, vN, vN, vN, vN, vN] (r.toList ++ []) (vS0, M1) (vP Q))) : vw X d 82 0 [vR 68, vI l1, vN, vN, vN, vN, vN] [] M Q := by
  refine w_aload_n d82_0 rfl ?_
  refine w_bi (v := 105) d82_1 rfl ?_
  exact w_inv0 (a := 68) (c := 5) d82_3 c82_46 rfl rfl rfl v73 (Nat.le_of_ble_eq_true rfl) (cq.cl (k))
theorem B_Re_lesserOrGreater_6 {X : vX} {d : Nat} {M : vM} {Q : Option vV → vM → Prop} {l1 s0 : Int}  (k1 : s0 = 0 → vw X d 82 20 [vR 68, vI l1, vI s0, vN, vN, vN, vN] [] M Q) (k2 : ¬ s0 = 0 → vw X d 82 11 [vR 68, vI l1, vI s0, vN, vN, vN, vN] [] M Q) : vw X d 82 6 [vR 68, vI l1, vN, vN, vN, vN, vN] [vI s0] M Q := by
  refine w_istore_nE (ls' := [vR 68, vI l1, vI s0, vN, vN, vN, vN]) d82_6 (Nat.le_of_ble_eq_true rfl) rfl ?_
  refine w_iload_n d82_7 rfl ?_
  exact w_if_eq d82_8 rfl (fun h => k1 h) (fun h => k2 h)
theorem B_Re_lesserOrGreater_11 {X : vX} {d : Nat} {M : vM} {Q : Option vV → vM → Prop} {l1 l2 : Int}  (k : cq X d 74 [vR 68, vI 110] M (fun r M1 => wp X d 82 17 [vR 68, vI l1, vI l2, vN, vN, vN, vN] (r.toList ++ []) (vS0, M1) (vP Q))) : vw X d 82 11 [vR 68, vI l1, vI l2, vN, vN, vN, vN] [] M Q := by
  refine w_aload_n d82_11 rfl ?_
  refine w_bi (v := 110) d82_12 rfl ?_
  exact w_inv0 (a := 68) (c := 5) d82_14 c82_83 rfl rfl rfl v74 (Nat.le_of_ble_eq_true rfl) (cq.cl (k))
theorem B_Re_lesserOrGreater_17 {X : vX} {d : Nat} {M : vM} {Q : Option vV → vM → Prop} {l1 l2 : Int}  (k : cq X d 80 [vR 68, vI l1] M (fun r M1 => wp X d 82 37 [vR 68, vI l1, vI l2, vN, vN, vN, vN] (r.toList ++ []) (vS0, M1) (vP Q))) : vw X d 82 17 [vR 68, vI l1, vI l2, vN, vN, vN, vN] [] M Q := by
  refine w_goto (tgt := 32) d82_17 rfl ?_
  refine w_aload_n d82_32 rfl ?_
  refine w_iload_n d82_33 rfl ?_
  exact w_inv0 (a := 68) (c := 5) d82_34 c82_76 rfl rfl rfl v80 (Nat.le_of_ble_eq_true rfl) (cq.cl (k))
theorem B_Re_lesserOrGreater_20 {X : vX} {d : Nat} {M : vM} {Q : Option vV → vM → Prop} {l1 l2 : Int}  (k : cq X d 74 [vR 68, vI 97] M (fun r M1 => wp X d 82 26 [vR 68, vI l1, vI l2, vN, vN, vN, vN] (r.toList ++ []) (vS0, M1) (vP Q))) : vw X d 82 20 [vR 68, vI l1, vI l2, vN, vN, vN, vN] [] M Q := by
  refine w_aload_n d82_20 rfl ?_
  refine w_bi (v := 97) d82_21 rfl ?_
  exact w_inv0 (a := 68) (c := 5) d82_23 c82_83 rfl rfl rfl v74 (Nat.le_of_ble_eq_true rfl) (cq.cl (k))
theorem B_Re_lesserOrGreater_26 {X : vX} {d : Nat} {M : vM} {Q : Option vV → vM → Prop} {l1 l2 : Int}  (k : cq X d 74 [vR 68, vI 120] M (fun r M1 => wp X d 82 32 [vR 68, vI l1, vI l2, vN, vN, vN, vN] (r.toList ++ []) (vS0, M1) (vP Q))) : vw X d 82 26 [vR 68, vI l1, vI l2, vN, vN, vN, vN] [] M Q := by
  refine w_aload_n d82_26 rfl ?_
  refine w_bi (v := 120) d82_27 rfl ?_
  exact w_inv0 (a := 68) (c := 5) d82_29 c82_83 rfl rfl rfl v74 (Nat.le_of_ble_eq_true rfl) (cq.cl (k))
theorem B_Re_lesserOrGreater_32 {X : vX} {d : Nat} {M : vM} {Q : Option vV → vM → Prop} {l1 l2 : Int}  (k : cq X d 80 [vR 68, vI l1] M (fun r M1 => wp X d 82 37 [vR 68, vI l1, vI l2, vN, vN, vN, vN] (r.toList ++ []) (vS0, M1) (vP Q))) : vw X d 82 32 [vR 68, vI l1, vI l2, vN, vN, vN, vN] [] M Q := by
  refine w_aload_n d82_32 rfl ?_
  refine w_iload_n d82_33 rfl ?_
  exact w_inv0 (a := 68) (c := 5) d82_34 c82_76 rfl rfl rfl v80 (Nat.le_of_ble_eq_true rfl) (cq.cl (k))
theorem B_Re_lesserOrGreater_37 {X : vX} {d : Nat} {M : vM} {Q : Option vV → vM → Prop} {l1 l2 : Int}  (k : cq X d 81 [vR 68, vI l1] M (fun r M1 => wp X d 82 42 [vR 68, vI l1, vI l2, vN, vN, vN, vN] (r.toList ++ []) (vS0, M1) (vP Q))) : vw X d 82 37 [vR 68, vI l1, vI l2, vN, vN, vN, vN] [] M Q := by
  refine w_aload_n d82_37 rfl ?_
  refine w_iload_n d82_38 rfl ?_
  exact w_inv0 (a := 68) (c := 5) d82_39 c82_80 rfl rfl rfl v81 (Nat.le_of_ble_eq_true rfl) (cq.cl (k))
theorem B_Re_lesserOrGreater_42 {X : vX} {d : Nat} {M : vM} {Q : Option vV → vM → Prop} {l1 l2 s0 : Int}  (k : cq X d 74 [vR 68, vI 44] M (fun r M1 => wp X d 82 49 [vR 68, vI l1, vI l2, vL s0, vN, vN, vN] (r.toList ++ []) (vS0, M1) (vP Q))) : vw X d 82 42 [vR 68, vI l1, vI l2, vN, vN, vN, vN] [vL s0] M Q := by
  refine w_lstore_nE (ls' := [vR 68, vI l1, vI l2, vL s0, vN, vN, vN]) d82_42 (Nat.le_of_ble_eq_true rfl) rfl ?_
  refine w_aload_n d82_43 rfl ?_
  refine w_bi (v := 44) d82_44 rfl ?_
  exact w_inv0 (a := 68) (c := 5) d82_46 c82_83 rfl rfl rfl v74 (Nat.le_of_ble_eq_true rfl) (cq.cl (k))
theorem B_Re_lesserOrGreater_49 {X : vX} {d : Nat} {M : vM} {Q : Option vV → vM → Prop} {l1 l2 l3 : Int}  (k : cq X d 81 [vR 68, vI l1] M (fun r M1 => wp X d 82 54 [vR 68, vI l1, vI l2, vL l3, vN, vN, vN] (r.toList ++ []) (vS0, M1) (vP Q))) : vw X d 82 49 [vR 68, vI l1, vI l2, vL l3, vN, vN, vN] [] M Q := by
  refine w_aload_n d82_49 rfl ?_
  refine w_iload_n d82_50 rfl ?_
  exact w_inv0 (a := 68) (c := 5) d82_51 c82_80 rfl rfl rfl v81 (Nat.le_of_ble_eq_true rfl) (cq.cl (k))
theorem B_Re_lesserOrGreater_54 {X : vX} {d : Nat} {M : vM} {Q : Option vV → vM → Prop} {l1 l2 l3 s0 : Int}  (k : cq X d 74 [vR 68, vI 41] M (fun r M1 => wp X d 82 62 [vR 68, vI l1, vI l2, vL l3, vN, vL s0, vN] (r.toList ++ []) (vS0, M1) (vP Q))) : vw X d 82 54 [vR 68, vI l1, vI l2, vL l3, vN, vN, vN] [vL s0] M Q := by
  refine w_lstoreE (ls' := [vR 68, vI l1, vI l2, vL l3, vN, vL s0, vN]) d82_54 (Nat.le_of_ble_eq_true rfl) rfl ?_
  refine w_aload_n d82_56 rfl ?_
  refine w_bi (v := 41) d82_57 rfl ?_
  exact w_inv0 (a := 68) (c := 5) d82_59 c82_83 rfl rfl rfl v74 (Nat.le_of_ble_eq_true rfl) (cq.cl (k))
theorem B_Re_lesserOrGreater_62 {X : vX} {d : Nat} {M : vM} {Q : Option vV → vM → Prop} {l1 l2 l3 l5 : Int}  (k1 : l2 = 0 → vw X d 82 75 [vR 68, vI l1, vI l2, vL l3, vN, vL l5, vN] [] M Q) (k2 : ¬ l2 = 0 → vw X d 82 66 [vR 68, vI l1, vI l2, vL l3, vN, vL l5, vN] [] M Q) : vw X d 82 62 [vR 68, vI l1, vI l2, vL l3, vN, vL l5, vN] [] M Q := by
  refine w_iload_n d82_62 rfl ?_
  exact w_if_eq d82_63 rfl (fun h => k1 h) (fun h => k2 h)
theorem B_Re_lesserOrGreater_66 {X : vX} {d : Nat} {M : vM} {Q : Option vV → vM → Prop} {l1 l2 l3 l5 : Int}  (k : cq X d 287 [vL l3, vL l5] M (fun r M1 => wp X d 82 72 [vR 68, vI l1, vI l2, vL l3, vN, vL l5, vN] (r.toList ++ []) (vS0, M1) (vP Q))) : vw X d 82 66 [vR 68, vI l1, vI l2, vL l3, vN, vL l5, vN] [] M Q := by
  refine w_lload_n d82_66 rfl ?_
  refine w_lload d82_67 rfl ?_
  exact w_inv1 d82_69 c82_54 (by decide) rfl (Nat.le_of_ble_eq_true rfl) (cq.cl (k))
theorem B_Re_lesserOrGreater_72 {X : vX} {d : Nat} {M : vM} {Q : Option vV → vM → Prop} {l1 l2 l3 l5 s0 : Int}  (k : Q (some (vL s0)) M) : vw X d 82 72 [vR 68, vI l1, vI l2, vL l3, vN, vL l5, vN] [vL s0] M Q := by
  refine w_goto (tgt := 81) d82_72 rfl ?_
  exact w_lret d82_81 r82 ⟨_, rfl, k⟩
theorem B_Re_lesserOrGreater_75 {X : vX} {d : Nat} {M : vM} {Q : Option vV → vM → Prop} {l1 l2 l3 l5 : Int}  (k : cq X d 285 [vL l3, vL l5] M (fun r M1 => wp X d 82 81 [vR 68, vI l1, vI l2, vL l3, vN, vL l5, vN] (r.toList ++ []) (vS0, M1) (vP Q))) : vw X d 82 75 [vR 68, vI l1, vI l2, vL l3, vN, vL l5, vN] [] M Q := by
  refine w_lload_n d82_75 rfl ?_
  refine w_lload d82_76 rfl ?_
  exact w_inv1 d82_78 c82_57 (by decide) rfl (Nat.le_of_ble_eq_true rfl) (cq.cl (k))
theorem B_Re_lesserOrGreater_81 {X : vX} {d : Nat} {M : vM} {Q : Option vV → vM → Prop} {l1 l2 l3 l5 s0 : Int}  (k : Q (some (vL s0)) M) : vw X d 82 81 [vR 68, vI l1, vI l2, vL l3, vN, vL l5, vN] [vL s0] M Q := by
  exact w_lret d82_81 r82 ⟨_, rfl, k⟩
theorem E_Re_lesserOrGreater {X : vX} {d : Nat} {M : vM} {Q : Option vV → vM → Prop} {l1 : Int} (k : vw X d 82 0 [vR 68, vI l1, vN, vN, vN, vN, vN] [] M Q) : cq X (d + 1) 82 [vR 68, vI l1] M Q := wc_in (Nat.le_of_ble_eq_true rfl) (Nat.le_of_ble_eq_true rfl) k
theorem cd83 : vm_cd 83 = cX6_oneOfTwo := rfl
theorem d83_0 : decode (vm_cd 83) 0 = .ok (.aload_n 0, 1) := (congrArg (fun b => decode b 0) cd83).trans (by decide +kernel)
theorem d83_1 : decode (vm_cd 83) 1 = .ok (.bipush 102, 2) := (congrArg (fun b => decode b 1) cd83).trans (by decide +kernel)
theorem d83_3 : decode (vm_cd 83) 3 = .ok (.invokevirtual 83, 3) := (congrArg (fun b => decode b 3) cd83).trans (by decide +kernel)
theorem d83_6 : decode (vm_cd 83) 6 = .ok (.aload_n 0, 1) := (congrArg (fun b => decode b 6) cd83).trans (by decide +kernel)
theorem d83_7 : decode (vm_cd 83) 7 = .ok (.iload_n 1, 1) := (congrArg (fun b => decode b 7) cd83).trans (by decide +kernel)
theorem d83_8 : decode (vm_cd 83) 8 = .ok (.invokevirtual 76, 3) := (congrArg (fun b => decode b 8) cd83).trans (by decide +kernel)
theorem d83_11 : decode (vm_cd 83) 11 = .ok (.aload_n 0, 1) := (congrArg (fun b => decode b 11) cd83).trans (by decide +kernel)
theorem d83_12 : decode (vm_cd 83) 12 = .ok (.iload_n 1, 1) := (congrArg (fun b => decode b 12) cd83).trans (by decide +kernel)
theorem d83_13 : decode (vm_cd 83) 13 = .ok (.invokevirtual 80, 3) := (congrArg (fun b => decode b 13) cd83).trans (by decide +kernel)
theorem d83_16 : decode (vm_cd 83) 16 = .ok (.lstore_n 2, 1) := (congrArg (fun b => decode b 16) cd83).trans (by decide +kernel)
theorem d83_17 : decode (vm_cd 83) 17 = .ok (.aload_n 0, 1) := (congrArg (fun b => decode b 17) cd83).trans (by decide +kernel)
theorem d83_18 : decode (vm_cd 83) 18 = .ok (.bipush 60, 2) := (congrArg (fun b => decode b 18) cd83).trans (by decide +kernel)
theorem d83_20 : decode (vm_cd 83) 20 = .ok (.invokevirtual 83, 3) := (congrArg (fun b => decode b 20) cd83).trans (by decide +kernel)
theorem d83_23 : decode (vm_cd 83) 23 = .ok (.aload_n 0, 1) := (congrArg (fun b => decode b 23) cd83).trans (by decide +kernel)
theorem d83_24 : decode (vm_cd 83) 24 = .ok (.iload_n 1, 1) := (congrArg (fun b => decode b 24) cd83).trans (by decide +kernel)
theorem d83_25 : decode (vm_cd 83) 25 = .ok (.invokevirtual 80, 3) := (congrArg (fun b => decode b 25) cd83).trans (by decide +kernel)
theorem d83_28 : decode (vm_cd 83) 28 = .ok (.lstore 4, 2) := (congrArg (fun b => decode b 28) cd83).trans (by decide +kernel)
theorem d83_30 : decode (vm_cd 83) 30 = .ok (.aload_n 0, 1) := (congrArg (fun b => decode b 30) cd83).trans (by decide +kernel)
theorem d83_31 : decode (vm_cd 83) 31 = .ok (.bipush 44, 2) := (congrArg (fun b => decode b 31) cd83).trans (by decide +kernel)
theorem d83_33 : decode (vm_cd 83) 33 = .ok (.invokevirtual 83, 3) := (congrArg (fun b => decode b 33) cd83).trans (by decide +kernel)
theorem d83_36 : decode (vm_cd 83) 36 = .ok (.aload_n 0, 1) := (congrArg (fun b => decode b 36) cd83).trans (by decide +kernel)
theorem d83_37 : decode (vm_cd 83) 37 = .ok (.iload_n 1, 1) := (congrArg (fun b => decode b 37) cd83).trans (by decide +kernel)
theorem d83_38 : decode (vm_cd 83) 38 = .ok (.invokevirtual 80, 3) := (congrArg (fun b => decode b 38) cd83).trans (by decide +kernel)
theorem d83_41 : decode (vm_cd 83) 41 = .ok (.lstore 6, 2) := (congrArg (fun b => decode b 41) cd83).trans (by decide +kernel)
theorem d83_43 : decode (vm_cd 83) 43 = .ok (.aload_n 0, 1) := (congrArg (fun b => decode b 43) cd83).trans (by decide +kernel)
theorem d83_44 : decode (vm_cd 83) 44 = .ok (.bipush 44, 2) := (congrArg (fun b => decode b 44) cd83).trans (by decide +kernel)
theorem d83_46 : decode (vm_cd 83) 46 = .ok (.invokevirtual 83, 3) := (congrArg (fun b => decode b 46) cd83).trans (by decide +kernel)
theorem d83_49 : decode (vm_cd 83) 49 = .ok (.aload_n 0, 1) := (congrArg (fun b => decode b 49) cd83).trans (by decide +kernel)
theorem d83_50 : decode (vm_cd 83) 50 = .ok (.iload_n 1, 1) := (congrArg (fun b => decode b 50) cd83).trans (by decide +kernel)
theorem d83_51 : decode (vm_cd 83) 51 = .ok (.invokevirtual 80, 3) := (congrArg (fun b => decode b 51) cd83).trans (by decide +kernel)
theorem d83_54 : decode (vm_cd 83) 54 = .ok (.lstore 8, 2) := (congrArg (fun b => decode b 54) cd83).trans (by decide +kernel)
theorem d83_56 : decode (vm_cd 83) 56 = .ok (.aload_n 0, 1) := (congrArg (fun b => decode b 56) cd83).trans (by decide +kernel)
theorem d83_57 : decode (vm_cd 83) 57 = .ok (.bipush 41, 2) := (congrArg (fun b => decode b 57) cd83).trans (by decide +kernel)
theorem d83_59 : decode (vm_cd 83) 59 = .ok (.invokevirtual 83, 3) := (congrArg (fun b => decode b 59) cd83).trans (by decide +kernel)
theorem d83_62 : decode (vm_cd 83) 62 = .ok (.lload_n 2, 1) := (congrArg (fun b => decode b 62) cd83).trans (by decide +kernel)
theorem d83_63 : decode (vm_cd 83) 63 = .ok (.lload 4, 2) := (congrArg (fun b => decode b 63) cd83).trans (by decide +kernel)
theorem d83_65 : decode (vm_cd 83) 65 = .ok (.lcmp, 1) := (congrArg (fun b => decode b 65) cd83).trans (by decide +kernel)
theorem d83_66 : decode (vm_cd 83) 66 = .ok (.ifCond .ge 8, 3) := (congrArg (fun b => decode b 66) cd83).trans (by decide +kernel)
theorem d83_69 : decode (vm_cd 83) 69 = .ok (.lload 6, 2) := (congrArg (fun b => decode b 69) cd83).trans (by decide +kernel)
theorem d83_71 : decode (vm_cd 83) 71 = .ok (.goto 5, 3) := (congrArg (fun b => decode b 71) cd83).trans (by decide +kernel)
theorem d83_74 : decode (vm_cd 83) 74 = .ok (.lload 8, 2) := (congrArg (fun b => decode b 74) cd83).trans (by decide +kernel)
theorem d83_76 : decode (vm_cd 83) 76 = .ok (.lreturn, 1) := (congrArg (fun b => decode b 76) cd83).trans (by decide +kernel)
theorem c83_76 : vm_ml.lookup (vm_own 83, 76) = some (0, 80, 1, 806, 808, 28, 10) := vm_lk (by decide +kernel)
theorem c83_80 : vm_ml.lookup (vm_own 83, 80) = some (0, 81, 1, 810, 812, 29, 10) := vm_lk (by decide +kernel)
theorem c83_83 : vm_ml.lookup (vm_own 83, 83) = some (0, 74, 1, 798, 800, 26, 10) := vm_lk (by decide +kernel)
theorem r83 : vm_rt 83 = (some .long) := by decide +kernel
theorem B_Re_oneOfTwo_0 {X : vX} {d : Nat} {M : vM} {Q : Option vV → vM → Prop} {l1 : Int}  (k : cq X d 74 [vR 68, vI 102] M (fun r M1 => wp X d 83 6 [vR 68, vI l1, vN, vN, vN, vN, vN, vN, vN, vN] (r.toList ++ []) (vS0, M1) (vP Q))) : vw X d 83 0 [vR 68, vI l1, vN, vN, vN, vN, vN, vN, vN, vN] [] M Q := by
  refine w_aload_n d83_0 rfl ?_
  refine w_bi (v := 102) d83_1 rfl ?_
  exact w_inv0 (a := 68) (c := 5) d83_3 c83_83 rfl rfl rfl v74 (Nat.le_of_ble_eq_true rfl) (cq.cl (k))
theorem B_Re_oneOfTwo_6 {X : vX} {d : Nat} {M : vM} {Q : Option vV → vM → Prop} {l1 : Int}  (k : cq X d 80 [vR 68, vI l1] M (fun r M1 => wp X d 83 11 [vR 68, vI l1, vN, vN, vN, vN, vN, vN, vN, vN] (r.toList ++ []) (vS0, M1) (vP Q))) : vw X d 83 6 [vR 68, vI l1, vN, vN, vN, vN, vN, vN, vN, vN] [] M Q := by
  refine w_aload_n d83_6 rfl ?_
  refine w_iload_n d83_7 rfl ?_
  exact w_inv0 (a := 68) (c := 5) d83_8 c83_76 rfl rfl rfl v80 (Nat.le_of_ble_eq_true rfl) (cq.cl (k))
theorem B_Re_oneOfTwo_11 {X : vX} {d : Nat} {M : vM} {Q : Option vV → vM → Prop} {l1 : Int}  (k : cq X d 81 [vR 68, vI l1] M (fun r M1 => wp X d 83 16 [vR 68, vI l1, vN, vN, vN, vN, vN, vN, vN, vN] (r.toList ++ []) (vS0, M1) (vP Q))) : vw X d 83 11 [vR 68, vI l1, vN, vN, vN, vN, vN, vN, vN, vN] [] M Q := by
  refine w_aload_n d83_11 rfl ?_
  refine w_iload_n d83_12 rfl ?_
  exact w_inv0 (a := 68) (c := 5) d83_13 c83_80 rfl rfl rfl v81 (Nat.le_of_ble_eq_true rfl) (cq.cl (k))
theorem B_Re_oneOfTwo_16 {X : vX} {d : Nat} {M : vM} {Q : Option vV → vM → Prop} {l1 s0 : Int}  (k : cq X d 74 [vR 68, vI 60] M (fun r M1 => wp X d 83 23 [vR 68, vI l1, vL s0, vN, vN, vN, vN, vN, vN, vN] (r.toList ++ []) (vS0, M1) (vP Q))) : vw X d 83 16 [vR 68, vI l1, vN, vN, vN, vN, vN, vN, vN, vN] [vL s0] M Q := by
  refine w_lstore_nE (ls' := [vR 68, vI l1, vL s0, vN, vN, vN, vN, vN, vN, vN]) d83_16 (Nat.le_of_ble_eq_true rfl) rfl ?_
  refine w_aload_n d83_17 rfl ?_
  refine w_bi (v := 60) d83_18 rfl ?_
  exact w_inv0 (a := 68) (c := 5) d83_20 c83_83 rfl rfl rfl v74 (Nat.le_of_ble_eq_true rfl) (cq.cl (k))
theorem B_Re_oneOfTwo_23 {X : vX} {d : Nat} {M : vM} {Q : Option vV → vM → Prop} {l1 l2 : Int}  (k : cq X d 81 [vR 68, vI l1] M (fun r M1 => wp X d 83 28 [vR 68, vI l1, vL l2, vN, vN, vN, vN, vN, vN, vN] (r.toList ++ []) (vS0, M1) (vP Q))) : vw X d 83 23 [vR 68, vI l1, vL l2, vN, vN, vN, vN, vN, vN, vN] [] M Q := by
  refine w_aload_n d83_23 rfl ?_
  refine w_iload_n d83_24 rfl ?_
  exact w_inv0 (a := 68) (c := 5) d83_25 c83_80 rfl rfl rfl v81 (Nat.le_of_ble_eq_true rfl) (cq.cl (k))
theorem B_Re_oneOfTwo_28 {X : vX} {d : Nat} {M : vM} {Q : Option vV → vM → Prop} {l1 l2 s0 : Int}  (k : cq X d 74 [vR 68, vI 44] M (fun r M1 => wp X d 83 36 [vR 68, vI l1, vL l2, vN, vL s0, vN, vN, vN, vN, vN] (r.toList ++ []) (vS0, M1) (vP Q))) : vw X d 83 28 [vR 68, vI l1, vL l2, vN, vN, vN, vN, vN, vN, vN] [vL s0] M Q := by
  refine w_lstoreE (ls' := [vR 68, vI l1, vL l2, vN, vL s0, vN, vN, vN, vN, vN]) d83_28 (Nat.le_of_ble_eq_true rfl) rfl ?_
  refine w_aload_n d83_30 rfl ?_
  refine w_bi (v := 44) d83_31 rfl ?_
  exact w_inv0 (a := 68) (c := 5) d83_33 c83_83 rfl rfl rfl v74 (Nat.le_of_ble_eq_true rfl) (cq.cl (k))
theorem B_Re_oneOfTwo_36 {X : vX} {d : Nat} {M : vM} {Q : Option vV → vM → Prop} {l1 l2 l4 : Int}  (k : cq X d 81 [vR 68, vI l1] M (fun r M1 => wp X d 83 41 [vR 68, vI l1, vL l2, vN, vL l4, vN, vN, vN, vN, vN] (r.toList ++ []) (vS0, M1) (vP Q))) : vw X d 83 36 [vR 68, vI l1, vL l2, vN, vL l4, vN, vN, vN, vN, vN] [] M Q := by
  refine w_aload_n d83_36 rfl ?_
  refine w_iload_n d83_37 rfl ?_
  exact w_inv0 (a := 68) (c := 5) d83_38 c83_80 rfl rfl rfl v81 (Nat.le_of_ble_eq_true rfl) (cq.cl (k))
theorem B_Re_oneOfTwo_41 {X : vX} {d : Nat} {M : vM} {Q : Option vV → vM → Prop} {l1 l2 l4 s0 : Int}  (k : cq X d 74 [vR 68, vI 44] M (fun r M1 => wp X d 83 49 [vR 68, vI l1, vL l2, vN, vL l4, vN, vL s0, vN, vN, vN] (r.toList ++ []) (vS0, M1) (vP Q))) : vw X d 83 41 [vR 68, vI l1, vL l2, vN, vL l4, vN, vN, vN, vN, vN] [vL s0] M Q := by
  refine w_lstoreE (ls' := [vR 68, vI l1, vL l2, vN, vL l4, vN, vL s0, vN, vN, vN]) d83_41 (Nat.le_of_ble_eq_true rfl) rfl ?_
  refine w_aload_n d83_43 rfl ?_
  refine w_bi (v := 44) d83_44 rfl ?_
  exact w_inv0 (a := 68) (c := 5) d83_46 c83_83 rfl rfl rfl v74 (Nat.le_of_ble_eq_true rfl) (cq.cl (k))
theorem B_Re_oneOfTwo_49 {X : vX} {d : Nat} {M : vM} {Q : Option vV → vM → Prop} {l1 l2 l4 l6 : Int}  (k : cq X d 81 [vR 68, vI l1] M (fun r M1 => wp X d 83 54 [vR 68, vI l1, vL l2, vN, vL l4, vN, vL l6, vN, vN, vN] (r.toList ++ []) (vS0, M1) (vP Q))) : vw X d 83 49 [vR 68, vI l1, vL l2, vN, vL l4, vN, vL l6, vN, vN, vN] [] M Q := by
  refine w_aload_n d83_49 rfl ?_
  refine w_iload_n d83_50 rfl ?_
  exact w_inv0 (a := 68) (c := 5) d83_51 c83_80 rfl rfl rfl v81 (Nat.le_of_ble_eq_true rfl) (cq.cl (k))
theorem B_Re_oneOfTwo_54 {X : vX} {d : Nat} {M : vM} {Q : Option vV → vM → Prop} {l1 l2 l4 l6 s0 : Int}  (k : cq X d 74 [vR 68, vI 41] M (fun r M1 => wp X d 83 62 [vR 68, vI l1, vL l2, vN, vL l4, vN, vL l6, vN, vL s0, vN] (r.toList ++ []) (vS0, M1) (vP Q))) : vw X d 83 54 [vR 68, vI l1, vL l2, vN, vL l4, vN, vL l6, vN, vN, vN] [vL s0] M Q := by
  refine w_lstoreE (ls' := [vR 68, vI l1, vL l2, vN, vL l4, vN, vL l6, vN, vL s0, vN]) d83_54 (Nat.le_of_ble_eq_true rfl) rfl ?_
  refine w_aload_n d83_56 rfl ?_
  refine w_bi (v := 41) d83_57 rfl ?_
  exact w_inv0 (a := 68) (c := 5) d83_59 c83_83 rfl rfl rfl v74 (Nat.le_of_ble_eq_true rfl) (cq.cl (k))
theorem B_Re_oneOfTwo_62 {X : vX} {d : Nat} {M : vM} {Q : Option vV → vM → Prop} {l1 l2 l4 l6 l8 : Int}  (k1 : l4 ≤ l2 → vw X d 83 74 [vR 68, vI l1, vL l2, vN, vL l4, vN, vL l6, vN, vL l8, vN] [] M Q) (k2 : l2 < l4 → vw X d 83 69 [vR 68, vI l1, vL l2, vN, vL l4, vN, vL l6, vN, vL l8, vN] [] M Q) : vw X d 83 62 [vR 68, vI l1, vL l2, vN, vL l4, vN, vL l6, vN, vL l8, vN] [] M Q := by
  refine w_lload_n d83_62 rfl ?_
  refine w_lload d83_63 rfl ?_
  exact w_lc_ge d83_65 d83_66 rfl (fun h => k1 h) (fun h => k2 h)
theorem B_Re_oneOfTwo_69 {X : vX} {d : Nat} {M : vM} {Q : Option vV → vM → Prop} {l1 l2 l4 l6 l8 : Int}  (k : Q (some (vL l6)) M) : vw X d 83 69 [vR 68, vI l1, vL l2, vN, vL l4, vN, vL l6, vN, vL l8, vN] [] M Q := by
  refine w_lload d83_69 rfl ?_
  refine w_goto (tgt := 76) d83_71 rfl ?_
  exact w_lret d83_76 r83 ⟨_, rfl, k⟩
theorem B_Re_oneOfTwo_74 {X : vX} {d : Nat} {M : vM} {Q : Option vV → vM → Prop} {l1 l2 l4 l6 l8 : Int}  (k : Q (some (vL l8)) M) : vw X d 83 74 [vR 68, vI l1, vL l2, vN, vL l4, vN, vL l6, vN, vL l8, vN] [] M Q := by
  refine w_lload d83_74 rfl ?_
  exact w_lret d83_76 r83 ⟨_, rfl, k⟩
theorem E_Re_oneOfTwo {X : vX} {d : Nat} {M : vM} {Q : Option vV → vM → Prop} {l1 : Int} (k : vw X d 83 0 [vR 68, vI l1, vN, vN, vN, vN, vN, vN, vN, vN] [] M Q) : cq X (d + 1) 83 [vR 68, vI l1] M Q := wc_in (Nat.le_of_ble_eq_true rfl) (Nat.le_of_ble_eq_true rfl) k
theorem cd85 : vm_cd 85 = cX7_begin := rfl
theorem d85_0 : decode (vm_cd 85) 0 = .ok (.aload_n 0, 1) := (congrArg (fun b => decode b 0) cd85).trans (by decide +kernel)
theorem d85_1 : decode (vm_cd 85) 1 = .ok (.iconst 0, 1) := (congrArg (fun b => decode b 1) cd85).trans (by decide +kernel)
theorem d85_2 : decode (vm_cd 85) 2 = .ok (.iload_n 1, 1) := (congrArg (fun b => decode b 2) cd85).trans (by decide +kernel)
theorem d85_3 : decode (vm_cd 85) 3 = .ok (.iconst 4, 1) := (congrArg (fun b => decode b 3) cd85).trans (by decide +kernel)
theorem d85_4 : decode (vm_cd 85) 4 = .ok (.invokestatic 18, 3) := (congrArg (fun b => decode b 4) cd85).trans (by decide +kernel)
theorem d85_7 : decode (vm_cd 85) 7 = .ok (.invokestatic 24, 3) := (congrArg (fun b => decode b 7) cd85).trans (by decide +kernel)
theorem d85_10 : decode (vm_cd 85) 10 = .ok (.putfield 27, 3) := (congrArg (fun b => decode b 10) cd85).trans (by decide +kernel)
theorem d85_13 : decode (vm_cd 85) 13 = .ok (.aload_n 0, 1) := (congrArg (fun b => decode b 13) cd85).trans (by decide +kernel)
theorem d85_14 : decode (vm_cd 85) 14 = .ok (.iconst 0, 1) := (congrArg (fun b => decode b 14) cd85).trans (by decide +kernel)
theorem d85_15 : decode (vm_cd 85) 15 = .ok (.putfield 31, 3) := (congrArg (fun b => decode b 15) cd85).trans (by decide +kernel)
theorem d85_18 : decode (vm_cd 85) 18 = .ok (.iconst 0, 1) := (congrArg (fun b => decode b 18) cd85).trans (by decide +kernel)
theorem d85_19 : decode (vm_cd 85) 19 = .ok (.istore_n 2, 1) := (congrArg (fun b => decode b 19) cd85).trans (by decide +kernel)
theorem d85_20 : decode (vm_cd 85) 20 = .ok (.iload_n 2, 1) := (congrArg (fun b => decode b 20) cd85).trans (by decide +kernel)
theorem d85_21 : decode (vm_cd 85) 21 = .ok (.aload_n 0, 1) := (congrArg (fun b => decode b 21) cd85).trans (by decide +kernel)
theorem d85_22 : decode (vm_cd 85) 22 = .ok (.getfield 27, 3) := (congrArg (fun b => decode b 22) cd85).trans (by decide +kernel)
theorem d85_25 : decode (vm_cd 85) 25 = .ok (.if_icmp .gt 26, 3) := (congrArg (fun b => decode b 25) cd85).trans (by decide +kernel)
theorem d85_28 : decode (vm_cd 85) 28 = .ok (.aload_n 0, 1) := (congrArg (fun b => decode b 28) cd85).trans (by decide +kernel)
theorem d85_29 : decode (vm_cd 85) 29 = .ok (.invokevirtual 34, 3) := (congrArg (fun b => decode b 29) cd85).trans (by decide +kernel)
theorem d85_32 : decode (vm_cd 85) 32 = .ok (.iload_n 2, 1) := (congrArg (fun b => decode b 32) cd85).trans (by decide +kernel)
theorem d85_33 : decode (vm_cd 85) 33 = .ok (.ifCond .le 12, 3) := (congrArg (fun b => decode b 33) cd85).trans (by decide +kernel)
theorem d85_36 : decode (vm_cd 85) 36 = .ok (.aload_n 0, 1) := (congrArg (fun b => decode b 36) cd85).trans (by decide +kernel)
theorem d85_37 : decode (vm_cd 85) 37 = .ok (.getfield 11, 3) := (congrArg (fun b => decode b 37) cd85).trans (by decide +kernel)
theorem d85_40 : decode (vm_cd 85) 40 = .ok (.iload_n 2, 1) := (congrArg (fun b => decode b 40) cd85).trans (by decide +kernel)
theorem d85_41 : decode (vm_cd 85) 41 = .ok (.aaload, 1) := (congrArg (fun b => decode b 41) cd85).trans (by decide +kernel)
theorem d85_42 : decode (vm_cd 85) 42 = .ok (.iload_n 2, 1) := (congrArg (fun b => decode b 42) cd85).trans (by decide +kernel)
theorem d85_43 : decode (vm_cd 85) 43 = .ok (.lconst 1, 1) := (congrArg (fun b => decode b 43) cd85).trans (by decide +kernel)
theorem d85_44 : decode (vm_cd 85) 44 = .ok (.lastore, 1) := (congrArg (fun b => decode b 44) cd85).trans (by decide +kernel)
theorem d85_45 : decode (vm_cd 85) 45 = .ok (.iinc 2 1, 3) := (congrArg (fun b => decode b 45) cd85).trans (by decide +kernel)
theorem d85_48 : decode (vm_cd 85) 48 = .ok (.goto (-28), 3) := (congrArg (fun b => decode b 48) cd85).trans (by decide +kernel)
theorem d85_51 : decode (vm_cd 85) 51 = .ok (.aload_n 0, 1) := (congrArg (fun b => decode b 51) cd85).trans (by decide +kernel)
theorem d85_52 : decode (vm_cd 85) 52 = .ok (.lconst 1, 1) := (congrArg (fun b => decode b 52) cd85).trans (by decide +kernel)
theorem d85_53 : decode (vm_cd 85) 53 = .ok (.putfield 14, 3) := (congrArg (fun b => decode b 53) cd85).trans (by decide +kernel)
theorem d85_56 : decode (vm_cd 85) 56 = .ok (.return_, 1) := (congrArg (fun b => decode b 56) cd85).trans (by decide +kernel)
theorem f85_11 : vm_fl.lookup (vm_own 85, 11) = some (6, 0, 64) := by decide +kernel
theorem f85_14 : vm_fl.lookup (vm_own 85, 14) = some (6, 3, 67) := by decide +kernel
theorem f85_27 : vm_fl.lookup (vm_own 85, 27) = some (6, 1, 65) := by decide +kernel
theorem f85_31 : vm_fl.lookup (vm_own 85, 31) = some (6, 2, 66) := by decide +kernel
theorem c85_18 : vm_ml.lookup (vm_own 85, 18) = some (1, 286, 2, 406, 407, 0, 3) := vm_lk (by decide +kernel)
theorem c85_24 : vm_ml.lookup (vm_own 85, 24) = some (1, 284, 2, 409, 410, 0, 3) := vm_lk (by decide +kernel)
theorem c85_34 : vm_ml.lookup (vm_own 85, 34) = some (0, 86, 0, 412, 414, 2, 4) := vm_lk (by decide +kernel)
theorem r85 : vm_rt 85 = none := by decide +kernel
theorem B_So_begin_0 {X : vX} {d : Nat} {M : vM} {Q : Option vV → vM → Prop} {l1 : Int}  (k : cq X d 286 [vI l1, vI 4] M (fun r M1 => wp X d 85 7 [vR 13, vI l1, vN] (r.toList ++ [vI 0, vR 13]) (vS0, M1) (vP Q))) : vw X d 85 0 [vR 13, vI l1, vN] [] M Q := by
  refine w_aload_n d85_0 rfl ?_
  refine w_ic (v := 0) d85_1 rfl ?_
  refine w_iload_n d85_2 rfl ?_
  refine w_ic (v := 4) d85_3 rfl ?_
  exact w_inv1 d85_4 c85_18 (by decide) rfl (Nat.le_of_ble_eq_true rfl) (cq.cl (k))
theorem B_So_begin_7 {X : vX} {d : Nat} {M : vM} {Q : Option vV → vM → Prop} {l1 s1 s2 : Int}  (k : cq X d 284 [vI s1, vI s2] M (fun r M1 => wp X d 85 10 [vR 13, vI l1, vN] (r.toList ++ [vR 13]) (vS0, M1) (vP Q))) : vw X d 85 7 [vR 13, vI l1, vN] [vI s2, vI s1, vR 13] M Q := by
  exact w_inv1 d85_7 c85_24 (by decide) rfl (Nat.le_of_ble_eq_true rfl) (cq.cl (k))
theorem B_So_begin_10 {X : vX} {d : Nat} {M : vM} {Q : Option vV → vM → Prop} {l1 s1 : Int} (hR : vRefs M)  (k : vRefs (vm_up (vm_up M 13 1 s1) 13 2 0) → vw X d 85 20 [vR 13, vI l1, vI 0] [] (vm_up (vm_up M 13 1 s1) 13 2 0) Q) : vw X d 85 10 [vR 13, vI l1, vN] [vI s1, vR 13] M Q := by
  refine w_putf (a := 13) (x := s1) d85_10 f85_27 rfl rfl rfl (Or.inl rfl) ?_
  refine w_aload_n d85_13 rfl ?_
  refine w_ic (v := 0) d85_14 rfl ?_
  refine w_putf (a := 13) (x := 0) d85_15 f85_31 rfl rfl rfl (Or.inl rfl) ?_
  refine w_ic (v := 0) d85_18 rfl ?_
  refine w_istore_nE (ls' := [vR 13, vI l1, vI 0]) d85_19 (Nat.le_of_ble_eq_true rfl) rfl ?_
  exact k (vRefs_up (vRefs_up hR ⟨by decide, by decide⟩) ⟨by decide, by decide⟩)
theorem B_So_begin_20 {X : vX} {d : Nat} {M : vM} {Q : Option vV → vM → Prop} {l1 l2 : Int}  (k1 : (M 13 1) < l2 → vw X d 85 51 [vR 13, vI l1, vI l2] [] M Q) (k2 : l2 ≤ (M 13 1) → vw X d 85 28 [vR 13, vI l1, vI l2] [] M Q) : vw X d 85 20 [vR 13, vI l1, vI l2] [] M Q := by
  refine w_iload_n d85_20 rfl ?_
  refine w_aload_n d85_21 rfl ?_
  refine w_getf (a := 13) (v := vI (M 13 1)) d85_22 f85_27 rfl rfl rfl ?_
  exact w_icmp_gt d85_25 rfl (fun h => k1 h) (fun h => k2 h)
theorem B_So_begin_28 {X : vX} {d : Nat} {M : vM} {Q : Option vV → vM → Prop} {l1 l2 : Int}  (k : cq X d 86 [vR 13] M (fun r M1 => wp X d 85 32 [vR 13, vI l1, vI l2] (r.toList ++ []) (vS0, M1) (vP Q))) : vw X d 85 28 [vR 13, vI l1, vI l2] [] M Q := by
  refine w_aload_n d85_28 rfl ?_
  exact w_inv0 (a := 13) (c := 6) d85_29 c85_34 rfl rfl rfl v86 (Nat.le_of_ble_eq_true rfl) (cq.cl (k))
theorem B_So_begin_32 {X : vX} {d : Nat} {M : vM} {Q : Option vV → vM → Prop} {l1 l2 : Int}  (k1 : l2 ≤ 0 → vw X d 85 45 [vR 13, vI l1, vI l2] [] M Q) (k2 : 0 < l2 → vw X d 85 36 [vR 13, vI l1, vI l2] [] M Q) : vw X d 85 32 [vR 13, vI l1, vI l2] [] M Q := by
  refine w_iload_n d85_32 rfl ?_
  exact w_if_le d85_33 rfl (fun h => k1 h) (fun h => k2 h)
theorem B_So_begin_36 {X : vX} {d : Nat} {M : vM} {Q : Option vV → vM → Prop} {l1 l2 : Int} (hR : vRefs M) (h1 : 0 ≤ l2 ∧ l2 < (13 : Nat)) (h2 : 0 ≤ l2 ∧ l2 < (5 : Nat)) (k : vRefs (vm_up M ((15 + l2.toNat)) l2.toNat 1) → vw X d 85 20 [vR 13, vI l1, vI (w32 (l2 + 1))] [] (vm_up M ((15 + l2.toNat)) l2.toNat 1) Q) : vw X d 85 36 [vR 13, vI l1, vI l2] [] M Q := by
  refine w_aload_n d85_36 rfl ?_
  refine w_getf (a := 13) (v := vR 14) d85_37 f85_11 rfl rfl (congrArg vR (rf_13_0 hR)) ?_
  refine w_iload_n d85_40 rfl ?_
  refine w_aaldE (a := 14) (b := (15 + l2.toNat)) d85_41 rfl rfl (by decide) h1 (vrow_14 (i := l2) hR h1) ?_
  refine w_iload_n d85_42 rfl ?_
  refine w_lc (v := 1) d85_43 rfl ?_
  refine w_last (a := (15 + l2.toNat)) d85_44 rfl (vrs_14 (i := l2) h1) h2 ?_
  refine w_iincE (ls' := [vR 13, vI l1, vI (w32 (l2 + 1))]) d85_45 rfl rfl ?_
  refine w_goto (tgt := 20) d85_48 rfl ?_
  exact k (vRefs_free hR (vfr_14 (i := l2) h1))
theorem B_So_begin_45 {X : vX} {d : Nat} {M : vM} {Q : Option vV → vM → Prop} {l1 l2 : Int}  (k : vw X d 85 20 [vR 13, vI l1, vI (w32 (l2 + 1))] [] M Q) : vw X d 85 45 [vR 13, vI l1, vI l2] [] M Q := by
  refine w_iincE (ls' := [vR 13, vI l1, vI (w32 (l2 + 1))]) d85_45 rfl rfl ?_
  refine w_goto (tgt := 20) d85_48 rfl ?_
  exact k
theorem B_So_begin_51 {X : vX} {d : Nat} {M : vM} {Q : Option vV → vM → Prop} {l1 l2 : Int} (hR : vRefs M)  (k : vRefs (vm_up M 13 3 1) → Q none (vm_up M 13 3 1)) : vw X d 85 51 [vR 13, vI l1, vI l2] [] M Q := by
  refine w_aload_n d85_51 rfl ?_
  refine w_lc (v := 1) d85_52 rfl ?_
  refine w_putf (a := 13) (x := 1) d85_53 f85_14 rfl rfl rfl (Or.inl rfl) ?_
  exact w_vret d85_56 r85 ⟨_, rfl, k (vRefs_up hR ⟨by decide, by decide⟩)⟩
theorem E_So_begin {X : vX} {d : Nat} {M : vM} {Q : Option vV → vM → Prop} {l1 : Int} (k : vw X d 85 0 [vR 13, vI l1, vN] [] M Q) : cq X (d + 1) 85 [vR 13, vI l1] M Q := wc_in (Nat.le_of_ble_eq_true rfl) (Nat.le_of_ble_eq_true rfl) k
theorem cd86 : vm_cd 86 = cX7_addLine := rfl
theorem d86_0 : decode (vm_cd 86) 0 = .ok (.aload_n 0, 1) := (congrArg (fun b => decode b 0) cd86).trans (by decide +kernel)
theorem d86_1 : decode (vm_cd 86) 1 = .ok (.getfield 31, 3) := (congrArg (fun b => decode b 1) cd86).trans (by decide +kernel)
theorem d86_4 : decode (vm_cd 86) 4 = .ok (.bipush 13, 2) := (congrArg (fun b => decode b 4) cd86).trans (by decide +kernel)
theorem d86_6 : decode (vm_cd 86) 6 = .ok (.if_icmp .ge 38, 3) := (congrArg (fun b => decode b 6) cd86).trans (by decide +kernel)
theorem d86_9 : decode (vm_cd 86) 9 = .ok (.iconst 0, 1) := (congrArg (fun b => decode b 9) cd86).trans (by decide +kernel)
theorem d86_10 : decode (vm_cd 86) 10 = .ok (.istore_n 1, 1) := (congrArg (fun b => decode b 10) cd86).trans (by decide +kernel)
theorem d86_11 : decode (vm_cd 86) 11 = .ok (.iload_n 1, 1) := (congrArg (fun b => decode b 11) cd86).trans (by decide +kernel)
theorem d86_12 : decode (vm_cd 86) 12 = .ok (.iconst 4, 1) := (congrArg (fun b => decode b 12) cd86).trans (by decide +kernel)
theorem d86_13 : decode (vm_cd 86) 13 = .ok (.if_icmp .gt 21, 3) := (congrArg (fun b => decode b 13) cd86).trans (by decide +kernel)
theorem d86_16 : decode (vm_cd 86) 16 = .ok (.aload_n 0, 1) := (congrArg (fun b => decode b 16) cd86).trans (by decide +kernel)
theorem d86_17 : decode (vm_cd 86) 17 = .ok (.getfield 11, 3) := (congrArg (fun b => decode b 17) cd86).trans (by decide +kernel)
theorem d86_20 : decode (vm_cd 86) 20 = .ok (.aload_n 0, 1) := (congrArg (fun b => decode b 20) cd86).trans (by decide +kernel)
theorem d86_21 : decode (vm_cd 86) 21 = .ok (.getfield 31, 3) := (congrArg (fun b => decode b 21) cd86).trans (by decide +kernel)
theorem d86_24 : decode (vm_cd 86) 24 = .ok (.aaload, 1) := (congrArg (fun b => decode b 24) cd86).trans (by decide +kernel)
theorem d86_25 : decode (vm_cd 86) 25 = .ok (.iload_n 1, 1) := (congrArg (fun b => decode b 25) cd86).trans (by decide +kernel)
theorem d86_26 : decode (vm_cd 86) 26 = .ok (.lconst 0, 1) := (congrArg (fun b => decode b 26) cd86).trans (by decide +kernel)
theorem d86_27 : decode (vm_cd 86) 27 = .ok (.lastore, 1) := (congrArg (fun b => decode b 27) cd86).trans (by decide +kernel)
theorem d86_28 : decode (vm_cd 86) 28 = .ok (.iinc 1 1, 3) := (congrArg (fun b => decode b 28) cd86).trans (by decide +kernel)
theorem d86_31 : decode (vm_cd 86) 31 = .ok (.goto (-20), 3) := (congrArg (fun b => decode b 31) cd86).trans (by decide +kernel)
theorem d86_34 : decode (vm_cd 86) 34 = .ok (.aload_n 0, 1) := (congrArg (fun b => decode b 34) cd86).trans (by decide +kernel)
theorem d86_35 : decode (vm_cd 86) 35 = .ok (.dup, 1) := (congrArg (fun b => decode b 35) cd86).trans (by decide +kernel)
theorem d86_36 : decode (vm_cd 86) 36 = .ok (.getfield 31, 3) := (congrArg (fun b => decode b 36) cd86).trans (by decide +kernel)
theorem d86_39 : decode (vm_cd 86) 39 = .ok (.iconst 1, 1) := (congrArg (fun b => decode b 39) cd86).trans (by decide +kernel)
theorem d86_40 : decode (vm_cd 86) 40 = .ok (.iadd, 1) := (congrArg (fun b => decode b 40) cd86).trans (by decide +kernel)
theorem d86_41 : decode (vm_cd 86) 41 = .ok (.putfield 31, 3) := (congrArg (fun b => decode b 41) cd86).trans (by decide +kernel)
theorem d86_44 : decode (vm_cd 86) 44 = .ok (.return_, 1) := (congrArg (fun b => decode b 44) cd86).trans (by decide +kernel)
theorem f86_11 : vm_fl.lookup (vm_own 86, 11) = some (6, 0, 64) := by decide +kernel
theorem f86_31 : vm_fl.lookup (vm_own 86, 31) = some (6, 2, 66) := by decide +kernel
theorem r86 : vm_rt 86 = none := by decide +kernel
theorem B_So_addLine_0 {X : vX} {d : Nat} {M : vM} {Q : Option vV → vM → Prop}  (k1 : 13 ≤ (M 13 2) → vw X d 86 44 [vR 13, vN] [] M Q) (k2 : (M 13 2) < 13 → vw X d 86 9 [vR 13, vN] [] M Q) : vw X d 86 0 [vR 13, vN] [] M Q := by
  refine w_aload_n d86_0 rfl ?_
  refine w_getf (a := 13) (v := vI (M 13 2)) d86_1 f86_31 rfl rfl rfl ?_
  refine w_bi (v := 13) d86_4 rfl ?_
  exact w_icmp_ge d86_6 rfl (fun h => k1 h) (fun h => k2 h)
theorem B_So_addLine_9 {X : vX} {d : Nat} {M : vM} {Q : Option vV → vM → Prop}  (k : vw X d 86 11 [vR 13, vI 0] [] M Q) : vw X d 86 9 [vR 13, vN] [] M Q := by
  refine w_ic (v := 0) d86_9 rfl ?_
  refine w_istore_nE (ls' := [vR 13, vI 0]) d86_10 (Nat.le_of_ble_eq_true rfl) rfl ?_
  exact k
theorem B_So_addLine_11 {X : vX} {d : Nat} {M : vM} {Q : Option vV → vM → Prop} {l1 : Int}  (k1 : 4 < l1 → vw X d 86 34 [vR 13, vI l1] [] M Q) (k2 : l1 ≤ 4 → vw X d 86 16 [vR 13, vI l1] [] M Q) : vw X d 86 11 [vR 13, vI l1] [] M Q := by
  refine w_iload_n d86_11 rfl ?_
  refine w_ic (v := 4) d86_12 rfl ?_
  exact w_icmp_gt d86_13 rfl (fun h => k1 h) (fun h => k2 h)
theorem B_So_addLine_16 {X : vX} {d : Nat} {M : vM} {Q : Option vV → vM → Prop} {l1 : Int} (hR : vRefs M) (h1 : 0 ≤ (M 13 2) ∧ (M 13 2) < (13 : Nat)) (h2 : 0 ≤ l1 ∧ l1 < (5 : Nat)) (k : vRefs (vm_up M ((15 + (M 13 2).toNat)) l1.toNat 0) → vw X d 86 11 [vR 13, vI (w32 (l1 + 1))] [] (vm_up M ((15 + (M 13 2).toNat)) l1.toNat 0) Q) : vw X d 86 16 [vR 13, vI l1] [] M Q := by
  refine w_aload_n d86_16 rfl ?_
  refine w_getf (a := 13) (v := vR 14) d86_17 f86_11 rfl rfl (congrArg vR (rf_13_0 hR)) ?_
  refine w_aload_n d86_20 rfl ?_
  refine w_getf (a := 13) (v := vI (M 13 2)) d86_21 f86_31 rfl rfl rfl ?_
  refine w_aaldE (a := 14) (b := (15 + (M 13 2).toNat)) d86_24 rfl rfl (by decide) h1 (vrow_14 (i := (M 13 2)) hR h1) ?_
  refine w_iload_n d86_25 rfl ?_
  refine w_lc (v := 0) d86_26 rfl ?_
  refine w_last (a := (15 + (M 13 2).toNat)) d86_27 rfl (vrs_14 (i := (M 13 2)) h1) h2 ?_
  refine w_iincE (ls' := [vR 13, vI (w32 (l1 + 1))]) d86_28 rfl rfl ?_
  refine w_goto (tgt := 11) d86_31 rfl ?_
  exact k (vRefs_free hR (vfr_14 (i := (M 13 2)) h1))
theorem B_So_addLine_34 {X : vX} {d : Nat} {M : vM} {Q : Option vV → vM → Prop} {l1 : Int} (hR : vRefs M)  (k : vRefs (vm_up M 13 2 (w32 ((M 13 2) + 1))) → Q none (vm_up M 13 2 (w32 ((M 13 2) + 1)))) : vw X d 86 34 [vR 13, vI l1] [] M Q := by
  refine w_aload_n d86_34 rfl ?_
  refine w_dup d86_35 rfl ?_
  refine w_getf (a := 13) (v := vI (M 13 2)) d86_36 f86_31 rfl rfl rfl ?_
  refine w_ic (v := 1) d86_39 rfl ?_
  refine w_iadd d86_40 ?_
  refine w_putf (a := 13) (x := w32 ((M 13 2) + 1)) d86_41 f86_31 rfl rfl rfl (Or.inl rfl) ?_
  exact w_vret d86_44 r86 ⟨_, rfl, k (vRefs_up hR ⟨by decide, by decide⟩)⟩
theorem B_So_addLine_44 {X : vX} {d : Nat} {M : vM} {Q : Option vV → vM → Prop}  (k : Q none M) : vw X d 86 44 [vR 13, vN] [] M Q := by
  exact w_vret d86_44 r86 ⟨_, rfl, k⟩
theorem E_So_addLine {X : vX} {d : Nat} {M : vM} {Q : Option vV → vM → Prop} (k : vw X d 86 0 [vR 13, vN] [] M Q) : cq X (d + 1) 86 [vR 13] M Q := wc_in (Nat.le_of_ble_eq_true rfl) (Nat.le_of_ble_eq_true rfl) k
theorem cd87 : vm_cd 87 = cX7_addGoal := rfl
theorem d87_0 : decode (vm_cd 87) 0 = .ok (.iload_n 1, 1) := (congrArg (fun b => decode b 0) cd87).trans (by decide +kernel)
theorem d87_1 : decode (vm_cd 87) 1 = .ok (.iconst 0, 1) := (congrArg (fun b => decode b 1) cd87).trans (by decide +kernel)
theorem d87_2 : decode (vm_cd 87) 2 = .ok (.aload_n 0, 1) := (congrArg (fun b => decode b 2) cd87).trans (by decide +kernel)
theorem d87_3 : decode (vm_cd 87) 3 = .ok (.getfield 27, 3) := (congrArg (fun b => decode b 3) cd87).trans (by decide +kernel)
theorem d87_6 : decode (vm_cd 87) 6 = .ok (.iconst 1, 1) := (congrArg (fun b => decode b 6) cd87).trans (by decide +kernel)
theorem d87_7 : decode (vm_cd 87) 7 = .ok (.isub, 1) := (congrArg (fun b => decode b 7) cd87).trans (by decide +kernel)
theorem d87_8 : decode (vm_cd 87) 8 = .ok (.invokestatic 37, 3) := (congrArg (fun b => decode b 8) cd87).trans (by decide +kernel)
theorem d87_11 : decode (vm_cd 87) 11 = .ok (.ifCond .eq 18, 3) := (congrArg (fun b => decode b 11) cd87).trans (by decide +kernel)
theorem d87_14 : decode (vm_cd 87) 14 = .ok (.aload_n 0, 1) := (congrArg (fun b => decode b 14) cd87).trans (by decide +kernel)
theorem d87_15 : decode (vm_cd 87) 15 = .ok (.getfield 11, 3) := (congrArg (fun b => decode b 15) cd87).trans (by decide +kernel)
theorem d87_18 : decode (vm_cd 87) 18 = .ok (.iconst 0, 1) := (congrArg (fun b => decode b 18) cd87).trans (by decide +kernel)
theorem d87_19 : decode (vm_cd 87) 19 = .ok (.aaload, 1) := (congrArg (fun b => decode b 19) cd87).trans (by decide +kernel)
theorem d87_20 : decode (vm_cd 87) 20 = .ok (.iload_n 1, 1) := (congrArg (fun b => decode b 20) cd87).trans (by decide +kernel)
theorem d87_21 : decode (vm_cd 87) 21 = .ok (.iconst 1, 1) := (congrArg (fun b => decode b 21) cd87).trans (by decide +kernel)
theorem d87_22 : decode (vm_cd 87) 22 = .ok (.iadd, 1) := (congrArg (fun b => decode b 22) cd87).trans (by decide +kernel)
theorem d87_23 : decode (vm_cd 87) 23 = .ok (.dup2, 1) := (congrArg (fun b => decode b 23) cd87).trans (by decide +kernel)
theorem d87_24 : decode (vm_cd 87) 24 = .ok (.laload, 1) := (congrArg (fun b => decode b 24) cd87).trans (by decide +kernel)
theorem d87_25 : decode (vm_cd 87) 25 = .ok (.iload_n 2, 1) := (congrArg (fun b => decode b 25) cd87).trans (by decide +kernel)
theorem d87_26 : decode (vm_cd 87) 26 = .ok (.i2l, 1) := (congrArg (fun b => decode b 26) cd87).trans (by decide +kernel)
theorem d87_27 : decode (vm_cd 87) 27 = .ok (.ladd, 1) := (congrArg (fun b => decode b 27) cd87).trans (by decide +kernel)
theorem d87_28 : decode (vm_cd 87) 28 = .ok (.lastore, 1) := (congrArg (fun b => decode b 28) cd87).trans (by decide +kernel)
theorem d87_29 : decode (vm_cd 87) 29 = .ok (.return_, 1) := (congrArg (fun b => decode b 29) cd87).trans (by decide +kernel)
theorem f87_11 : vm_fl.lookup (vm_own 87, 11) = some (6, 0, 64) := by decide +kernel
theorem f87_27 : vm_fl.lookup (vm_own 87, 27) = some (6, 1, 65) := by decide +kernel
theorem c87_37 : vm_ml.lookup (vm_own 87, 37) = some (3, 179, 3, 420, 292, 0, 1) := vm_lk (by decide +kernel)
theorem r87 : vm_rt 87 = none := by decide +kernel
theorem B_So_addGoal_0 {X : vX} {d : Nat} {M : vM} {Q : Option vV → vM → Prop} {l1 l2 : Int}  (k : cq X d 179 [vI l1, vI 0, vI (w32 ((M 13 1) - 1))] M (fun r M1 => wp X d 87 11 [vR 13, vI l1, vI l2] (r.toList ++ []) (vS0, M1) (vP Q))) : vw X d 87 0 [vR 13, vI l1, vI l2] [] M Q := by
  refine w_iload_n d87_0 rfl ?_
  refine w_ic (v := 0) d87_1 rfl ?_
  refine w_aload_n d87_2 rfl ?_
  refine w_getf (a := 13) (v := vI (M 13 1)) d87_3 f87_27 rfl rfl rfl ?_
  refine w_ic (v := 1) d87_6 rfl ?_
  refine w_isub d87_7 ?_
  exact w_inv1 d87_8 c87_37 (by decide) rfl (Nat.le_of_ble_eq_true rfl) (cq.cl (k))
theorem B_So_addGoal_11 {X : vX} {d : Nat} {M : vM} {Q : Option vV → vM → Prop} {l1 l2 s0 : Int}  (k1 : s0 = 0 → vw X d 87 29 [vR 13, vI l1, vI l2] [] M Q) (k2 : ¬ s0 = 0 → vw X d 87 14 [vR 13, vI l1, vI l2] [] M Q) : vw X d 87 11 [vR 13, vI l1, vI l2] [vI s0] M Q := by
  exact w_if_eq d87_11 rfl (fun h => k1 h) (fun h => k2 h)
theorem B_So_addGoal_14 {X : vX} {d : Nat} {M : vM} {Q : Option vV → vM → Prop} {l1 l2 : Int} (hR : vRefs M) (h1 : 0 ≤ (w32 (l1 + 1)) ∧ (w32 (l1 + 1)) < (5 : Nat)) (h2 : 0 ≤ (w32 (l1 + 1)) ∧ (w32 (l1 + 1)) < (5 : Nat)) (k : vRefs (vm_up M ((15 + 0)) (w32 (l1 + 1)).toNat (w64 ((M ((15 + 0)) (w32 (l1 + 1)).toNat) + l2))) → Q none (vm_up M ((15 + 0)) (w32 (l1 + 1)).toNat (w64 ((M ((15 + 0)) (w32 (l1 + 1)).toNat) + l2)))) : vw X d 87 14 [vR 13, vI l1, vI l2] [] M Q := by
  refine w_aload_n d87_14 rfl ?_
  refine w_getf (a := 13) (v := vR 14) d87_15 f87_11 rfl rfl (congrArg vR (rf_13_0 hR)) ?_
  refine w_ic (v := 0) d87_18 rfl ?_
  refine w_aaldE (a := 14) (b := (15 + 0)) d87_19 rfl rfl (by decide) ⟨by decide, by decide⟩ (vrow_14 (i := 0) hR ⟨by decide, by decide⟩) ?_
  refine w_iload_n d87_20 rfl ?_
  refine w_ic (v := 1) d87_21 rfl ?_
  refine w_iadd d87_22 ?_
  refine w_dup2 d87_23 ⟨rfl, rfl⟩ ?_
  refine w_laload (a := (15 + 0)) d87_24 rfl (vrs_14 (i := 0) ⟨by decide, by decide⟩) h1 ?_
  refine w_iload_n d87_25 rfl ?_
  refine w_i2l d87_26 ?_
  refine w_ladd d87_27 ?_
  refine w_last (a := (15 + 0)) d87_28 rfl (vrs_14 (i := 0) ⟨by decide, by decide⟩) h2 ?_
  exact w_vret d87_29 r87 ⟨_, rfl, k (vRefs_free hR (vfr_14 (i := 0) ⟨by decide, by decide⟩))⟩
theorem B_So_addGoal_29 {X : vX} {d : Nat} {M : vM} {Q : Option vV → vM → Prop} {l1 l2 : Int}  (k : Q none M) : vw X d 87 29 [vR 13, vI l1, vI l2] [] M Q := by
  exact w_vret d87_29 r87 ⟨_, rfl, k⟩
theorem E_So_addGoal {X : vX} {d : Nat} {M : vM} {Q : Option vV → vM → Prop} {l1 l2 : Int} (k : vw X d 87 0 [vR 13, vI l1, vI l2] [] M Q) : cq X (d + 1) 87 [vR 13, vI l1, vI l2] M Q := wc_in (Nat.le_of_ble_eq_true rfl) (Nat.le_of_ble_eq_true rfl) k
theorem cd88 : vm_cd 88 = cX7_addRow := rfl
theorem d88_0 : decode (vm_cd 88) 0 = .ok (.aload_n 0, 1) := (congrArg (fun b => decode b 0) cd88).trans (by decide +kernel)
theorem d88_1 : decode (vm_cd 88) 1 = .ok (.invokevirtual 34, 3) := (congrArg (fun b => decode b 1) cd88).trans (by decide +kernel)
theorem d88_4 : decode (vm_cd 88) 4 = .ok (.aload_n 0, 1) := (congrArg (fun b => decode b 4) cd88).trans (by decide +kernel)
theorem d88_5 : decode (vm_cd 88) 5 = .ok (.getfield 11, 3) := (congrArg (fun b => decode b 5) cd88).trans (by decide +kernel)
theorem d88_8 : decode (vm_cd 88) 8 = .ok (.aload_n 0, 1) := (congrArg (fun b => decode b 8) cd88).trans (by decide +kernel)
theorem d88_9 : decode (vm_cd 88) 9 = .ok (.getfield 31, 3) := (congrArg (fun b => decode b 9) cd88).trans (by decide +kernel)
theorem d88_12 : decode (vm_cd 88) 12 = .ok (.iconst 1, 1) := (congrArg (fun b => decode b 12) cd88).trans (by decide +kernel)
theorem d88_13 : decode (vm_cd 88) 13 = .ok (.isub, 1) := (congrArg (fun b => decode b 13) cd88).trans (by decide +kernel)
theorem d88_14 : decode (vm_cd 88) 14 = .ok (.aaload, 1) := (congrArg (fun b => decode b 14) cd88).trans (by decide +kernel)
theorem d88_15 : decode (vm_cd 88) 15 = .ok (.iconst 0, 1) := (congrArg (fun b => decode b 15) cd88).trans (by decide +kernel)
theorem d88_16 : decode (vm_cd 88) 16 = .ok (.iload_n 1, 1) := (congrArg (fun b => decode b 16) cd88).trans (by decide +kernel)
theorem d88_17 : decode (vm_cd 88) 17 = .ok (.ineg, 1) := (congrArg (fun b => decode b 17) cd88).trans (by decide +kernel)
theorem d88_18 : decode (vm_cd 88) 18 = .ok (.i2l, 1) := (congrArg (fun b => decode b 18) cd88).trans (by decide +kernel)
theorem d88_19 : decode (vm_cd 88) 19 = .ok (.lastore, 1) := (congrArg (fun b => decode b 19) cd88).trans (by decide +kernel)
theorem d88_20 : decode (vm_cd 88) 20 = .ok (.return_, 1) := (congrArg (fun b => decode b 20) cd88).trans (by decide +kernel)
theorem f88_11 : vm_fl.lookup (vm_own 88, 11) = some (6, 0, 64) := by decide +kernel
theorem f88_31 : vm_fl.lookup (vm_own 88, 31) = some (6, 2, 66) := by decide +kernel
theorem c88_34 : vm_ml.lookup (vm_own 88, 34) = some (0, 86, 0, 412, 414, 2, 4) := vm_lk (by decide +kernel)
theorem r88 : vm_rt 88 = none := by decide +kernel
theorem B_So_addRow_0 {X : vX} {d : Nat} {M : vM} {Q : Option vV → vM → Prop} {l1 : Int}  (k : cq X d 86 [vR 13] M (fun r M1 => wp X d 88 4 [vR 13, vI l1] (r.toList ++ []) (vS0, M1) (vP Q))) : vw X d 88 0 [vR 13, vI l1] [] M Q := by
  refine w_aload_n d88_0 rfl ?_
  exact w_inv0 (a := 13) (c := 6) d88_1 c88_34 rfl rfl rfl v86 (Nat.le_of_ble_eq_true rfl) (cq.cl (k))
theorem B_So_addRow_4 {X : vX} {d : Nat} {M : vM} {Q : Option vV → vM → Prop} {l1 : Int} (hR : vRefs M) (h1 : 0 ≤ (w32 ((M 13 2) - 1)) ∧ (w32 ((M 13 2) - 1)) < (13 : Nat)) (k : vRefs (vm_up M ((15 + (w32 ((M 13 2) - 1)).toNat)) 0 (w32 (-l1))) → Q none (vm_up M ((15 + (w32 ((M 13 2) - 1)).toNat)) 0 (w32 (-l1)))) : vw X d 88 4 [vR 13, vI l1] [] M Q := by
  refine w_aload_n d88_4 rfl ?_
  refine w_getf (a := 13) (v := vR 14) d88_5 f88_11 rfl rfl (congrArg vR (rf_13_0 hR)) ?_
  refine w_aload_n d88_8 rfl ?_
  refine w_getf (a := 13) (v := vI (M 13 2)) d88_9 f88_31 rfl rfl rfl ?_
  refine w_ic (v := 1) d88_12 rfl ?_
  refine w_isub d88_13 ?_
  refine w_aaldE (a := 14) (b := (15 + (w32 ((M 13 2) - 1)).toNat)) d88_14 rfl rfl (by decide) h1 (vrow_14 (i := (w32 ((M 13 2) - 1))) hR h1) ?_
  refine w_ic (v := 0) d88_15 rfl ?_
  refine w_iload_n d88_16 rfl ?_
  refine w_ineg d88_17 ?_
  refine w_i2l d88_18 ?_
  refine w_last (a := (15 + (w32 ((M 13 2) - 1)).toNat)) d88_19 rfl (vrs_14 (i := (w32 ((M 13 2) - 1))) h1) ⟨by decide, by decide⟩ ?_
  exact w_vret d88_20 r88 ⟨_, rfl, k (vRefs_free hR (vfr_14 (i := (w32 ((M 13 2) - 1))) h1))⟩
theorem E_So_addRow {X : vX} {d : Nat} {M : vM} {Q : Option vV → vM → Prop} {l1 : Int} (k : vw X d 88 0 [vR 13, vI l1] [] M Q) : cq X (d + 1) 88 [vR 13, vI l1] M Q := wc_in (Nat.le_of_ble_eq_true rfl) (Nat.le_of_ble_eq_true rfl) k
theorem cd89 : vm_cd 89 = cX7_add := rfl
theorem d89_0 : decode (vm_cd 89) 0 = .ok (.aload_n 0, 1) := (congrArg (fun b => decode b 0) cd89).trans (by decide +kernel)
theorem d89_1 : decode (vm_cd 89) 1 = .ok (.getfield 31, 3) := (congrArg (fun b => decode b 1) cd89).trans (by decide +kernel)
theorem d89_4 : decode (vm_cd 89) 4 = .ok (.ifCond .le 37, 3) := (congrArg (fun b => decode b 4) cd89).trans (by decide +kernel)
theorem d89_7 : decode (vm_cd 89) 7 = .ok (.iload_n 1, 1) := (congrArg (fun b => decode b 7) cd89).trans (by decide +kernel)
theorem d89_8 : decode (vm_cd 89) 8 = .ok (.iconst 0, 1) := (congrArg (fun b => decode b 8) cd89).trans (by decide +kernel)
theorem d89_9 : decode (vm_cd 89) 9 = .ok (.aload_n 0, 1) := (congrArg (fun b => decode b 9) cd89).trans (by decide +kernel)
theorem d89_10 : decode (vm_cd 89) 10 = .ok (.getfield 27, 3) := (congrArg (fun b => decode b 10) cd89).trans (by decide +kernel)
theorem d89_13 : decode (vm_cd 89) 13 = .ok (.iconst 1, 1) := (congrArg (fun b => decode b 13) cd89).trans (by decide +kernel)
theorem d89_14 : decode (vm_cd 89) 14 = .ok (.isub, 1) := (congrArg (fun b => decode b 14) cd89).trans (by decide +kernel)
theorem d89_15 : decode (vm_cd 89) 15 = .ok (.invokestatic 37, 3) := (congrArg (fun b => decode b 15) cd89).trans (by decide +kernel)
theorem d89_18 : decode (vm_cd 89) 18 = .ok (.ifCond .eq 23, 3) := (congrArg (fun b => decode b 18) cd89).trans (by decide +kernel)
theorem d89_21 : decode (vm_cd 89) 21 = .ok (.aload_n 0, 1) := (congrArg (fun b => decode b 21) cd89).trans (by decide +kernel)
theorem d89_22 : decode (vm_cd 89) 22 = .ok (.getfield 11, 3) := (congrArg (fun b => decode b 22) cd89).trans (by decide +kernel)
theorem d89_25 : decode (vm_cd 89) 25 = .ok (.aload_n 0, 1) := (congrArg (fun b => decode b 25) cd89).trans (by decide +kernel)
theorem d89_26 : decode (vm_cd 89) 26 = .ok (.getfield 31, 3) := (congrArg (fun b => decode b 26) cd89).trans (by decide +kernel)
theorem d89_29 : decode (vm_cd 89) 29 = .ok (.iconst 1, 1) := (congrArg (fun b => decode b 29) cd89).trans (by decide +kernel)
theorem d89_30 : decode (vm_cd 89) 30 = .ok (.isub, 1) := (congrArg (fun b => decode b 30) cd89).trans (by decide +kernel)
theorem d89_31 : decode (vm_cd 89) 31 = .ok (.aaload, 1) := (congrArg (fun b => decode b 31) cd89).trans (by decide +kernel)
theorem d89_32 : decode (vm_cd 89) 32 = .ok (.iload_n 1, 1) := (congrArg (fun b => decode b 32) cd89).trans (by decide +kernel)
theorem d89_33 : decode (vm_cd 89) 33 = .ok (.iconst 1, 1) := (congrArg (fun b => decode b 33) cd89).trans (by decide +kernel)
theorem d89_34 : decode (vm_cd 89) 34 = .ok (.iadd, 1) := (congrArg (fun b => decode b 34) cd89).trans (by decide +kernel)
theorem d89_35 : decode (vm_cd 89) 35 = .ok (.dup2, 1) := (congrArg (fun b => decode b 35) cd89).trans (by decide +kernel)
theorem d89_36 : decode (vm_cd 89) 36 = .ok (.laload, 1) := (congrArg (fun b => decode b 36) cd89).trans (by decide +kernel)
theorem d89_37 : decode (vm_cd 89) 37 = .ok (.iload_n 2, 1) := (congrArg (fun b => decode b 37) cd89).trans (by decide +kernel)
theorem d89_38 : decode (vm_cd 89) 38 = .ok (.i2l, 1) := (congrArg (fun b => decode b 38) cd89).trans (by decide +kernel)
theorem d89_39 : decode (vm_cd 89) 39 = .ok (.ladd, 1) := (congrArg (fun b => decode b 39) cd89).trans (by decide +kernel)
theorem d89_40 : decode (vm_cd 89) 40 = .ok (.lastore, 1) := (congrArg (fun b => decode b 40) cd89).trans (by decide +kernel)
theorem d89_41 : decode (vm_cd 89) 41 = .ok (.return_, 1) := (congrArg (fun b => decode b 41) cd89).trans (by decide +kernel)
theorem f89_11 : vm_fl.lookup (vm_own 89, 11) = some (6, 0, 64) := by decide +kernel
theorem f89_27 : vm_fl.lookup (vm_own 89, 27) = some (6, 1, 65) := by decide +kernel
theorem f89_31 : vm_fl.lookup (vm_own 89, 31) = some (6, 2, 66) := by decide +kernel
theorem c89_37 : vm_ml.lookup (vm_own 89, 37) = some (3, 179, 3, 420, 292, 0, 1) := vm_lk (by decide +kernel)
theorem r89 : vm_rt 89 = none := by decide +kernel
theorem B_So_add_0 {X : vX} {d : Nat} {M : vM} {Q : Option vV → vM → Prop} {l1 l2 : Int}  (k1 : (M 13 2) ≤ 0 → vw X d 89 41 [vR 13, vI l1, vI l2] [] M Q) (k2 : 0 < (M 13 2) → vw X d 89 7 [vR 13, vI l1, vI l2] [] M Q) : vw X d 89 0 [vR 13, vI l1, vI l2] [] M Q := by
  refine w_aload_n d89_0 rfl ?_
  refine w_getf (a := 13) (v := vI (M 13 2)) d89_1 f89_31 rfl rfl rfl ?_
  exact w_if_le d89_4 rfl (fun h => k1 h) (fun h => k2 h)
theorem B_So_add_7 {X : vX} {d : Nat} {M : vM} {Q : Option vV → vM → Prop} {l1 l2 : Int}  (k : cq X d 179 [vI l1, vI 0, vI (w32 ((M 13 1) - 1))] M (fun r M1 => wp X d 89 18 [vR 13, vI l1, vI l2] (r.toList ++ []) (vS0, M1) (vP Q))) : vw X d 89 7 [vR 13, vI l1, vI l2] [] M Q := by
  refine w_iload_n d89_7 rfl ?_
  refine w_ic (v := 0) d89_8 rfl ?_
  refine w_aload_n d89_9 rfl ?_
  refine w_getf (a := 13) (v := vI (M 13 1)) d89_10 f89_27 rfl rfl rfl ?_
  refine w_ic (v := 1) d89_13 rfl ?_
  refine w_isub d89_14 ?_
  exact w_inv1 d89_15 c89_37 (by decide) rfl (Nat.le_of_ble_eq_true rfl) (cq.cl (k))
theorem B_So_add_18 {X : vX} {d : Nat} {M : vM} {Q : Option vV → vM → Prop} {l1 l2 s0 : Int}  (k1 : s0 = 0 → vw X d 89 41 [vR 13, vI l1, vI l2] [] M Q) (k2 : ¬ s0 = 0 → vw X d 89 21 [vR 13, vI l1, vI l2] [] M Q) : vw X d 89 18 [vR 13, vI l1, vI l2] [vI s0] M Q := by
  exact w_if_eq d89_18 rfl (fun h => k1 h) (fun h => k2 h)
theorem B_So_add_21 {X : vX} {d : Nat} {M : vM} {Q : Option vV → vM → Prop} {l1 l2 : Int} (hR : vRefs M) (h1 : 0 ≤ (w32 ((M 13 2) - 1)) ∧ (w32 ((M 13 2) - 1)) < (13 : Nat)) (h2 : 0 ≤ (w32 (l1 + 1)) ∧ (w32 (l1 + 1)) < (5 : Nat)) (h3 : 0 ≤ (w32 (l1 + 1)) ∧ (w32 (l1 + 1)) < (5 : Nat)) (k : vRefs (vm_up M ((15 + (w32 ((M 13 2) - 1)).toNat)) (w32 (l1 + 1)).toNat (w64 ((M ((15 + (w32 ((M 13 2) - 1)).toNat)) (w32 (l1 + 1)).toNat) + l2))) → Q none (vm_up M ((15 + (w32 ((M 13 2) - 1)).toNat)) (w32 (l1 + 1)).toNat (w64 ((M ((15 + (w32 ((M 13 2) - 1)).toNat)) (w32 (l1 + 1)).toNat) + l2)))) : vw X d 89 21 [vR 13, vI l1, vI l2] [] M Q := by
  refine w_aload_n d89_21 rfl ?_
  refine w_getf (a := 13) (v := vR 14) d89_22 f89_11 rfl rfl (congrArg vR (rf_13_0 hR)) ?_
  refine w_aload_n d89_25 rfl ?_
  refine w_getf (a := 13) (v := vI (M 13 2)) d89_26 f89_31 rfl rfl rfl ?_
  refine w_ic (v := 1) d89_29 rfl ?_
  refine w_isub d89_30 ?_
  refine w_aaldE (a := 14) (b := (15 + (w32 ((M 13 2) - 1)).toNat)) d89_31 rfl rfl (by decide) h1 (vrow_14 (i := (w32 ((M 13 2) - 1))) hR h1) ?_
  refine w_iload_n d89_32 rfl ?_
  refine w_ic (v := 1) d89_33 rfl ?_
  refine w_iadd d89_34 ?_
  refine w_dup2 d89_35 ⟨rfl, rfl⟩ ?_
  refine w_laload (a := (15 + (w32 ((M 13 2) - 1)).toNat)) d89_36 rfl (vrs_14 (i := (w32 ((M 13 2) - 1))) h1) h2 ?_
  refine w_iload_n d89_37 rfl ?_
  refine w_i2l d89_38 ?_
  refine w_ladd d89_39 ?_
  refine w_last (a := (15 + (w32 ((M 13 2) - 1)).toNat)) d89_40 rfl (vrs_14 (i := (w32 ((M 13 2) - 1))) h1) h3 ?_
  exact w_vret d89_41 r89 ⟨_, rfl, k (vRefs_free hR (vfr_14 (i := (w32 ((M 13 2) - 1))) h1))⟩
theorem B_So_add_41 {X : vX} {d : Nat} {M : vM} {Q : Option vV → vM → Prop} {l1 l2 : Int}  (k : Q none M) : vw X d 89 41 [vR 13, vI l1, vI l2] [] M Q := by
  exact w_vret d89_41 r89 ⟨_, rfl, k⟩
theorem E_So_add {X : vX} {d : Nat} {M : vM} {Q : Option vV → vM → Prop} {l1 l2 : Int} (k : vw X d 89 0 [vR 13, vI l1, vI l2] [] M Q) : cq X (d + 1) 89 [vR 13, vI l1, vI l2] M Q := wc_in (Nat.le_of_ble_eq_true rfl) (Nat.le_of_ble_eq_true rfl) k
theorem cd90 : vm_cd 90 = cX7_solves := rfl
theorem d90_0 : decode (vm_cd 90) 0 = .ok (.iconst 0, 1) := (congrArg (fun b => decode b 0) cd90).trans (by decide +kernel)
theorem d90_1 : decode (vm_cd 90) 1 = .ok (.istore_n 1, 1) := (congrArg (fun b => decode b 1) cd90).trans (by decide +kernel)
theorem d90_2 : decode (vm_cd 90) 2 = .ok (.iload_n 1, 1) := (congrArg (fun b => decode b 2) cd90).trans (by decide +kernel)
theorem d90_3 : decode (vm_cd 90) 3 = .ok (.ldc 43, 2) := (congrArg (fun b => decode b 3) cd90).trans (by decide +kernel)
theorem d90_5 : decode (vm_cd 90) 5 = .ok (.if_icmp .ge 38, 3) := (congrArg (fun b => decode b 5) cd90).trans (by decide +kernel)
theorem d90_8 : decode (vm_cd 90) 8 = .ok (.aload_n 0, 1) := (congrArg (fun b => decode b 8) cd90).trans (by decide +kernel)
theorem d90_9 : decode (vm_cd 90) 9 = .ok (.invokevirtual 44, 3) := (congrArg (fun b => decode b 9) cd90).trans (by decide +kernel)
theorem d90_12 : decode (vm_cd 90) 12 = .ok (.istore_n 2, 1) := (congrArg (fun b => decode b 12) cd90).trans (by decide +kernel)
theorem d90_13 : decode (vm_cd 90) 13 = .ok (.iload_n 2, 1) := (congrArg (fun b => decode b 13) cd90).trans (by decide +kernel)
theorem d90_14 : decode (vm_cd 90) 14 = .ok (.ifCond .ge 5, 3) := (congrArg (fun b => decode b 14) cd90).trans (by decide +kernel)
theorem d90_17 : decode (vm_cd 90) 17 = .ok (.iconst 1, 1) := (congrArg (fun b => decode b 17) cd90).trans (by decide +kernel)
theorem d90_18 : decode (vm_cd 90) 18 = .ok (.ireturn, 1) := (congrArg (fun b => decode b 18) cd90).trans (by decide +kernel)
theorem d90_19 : decode (vm_cd 90) 19 = .ok (.aload_n 0, 1) := (congrArg (fun b => decode b 19) cd90).trans (by decide +kernel)
theorem d90_20 : decode (vm_cd 90) 20 = .ok (.iload_n 2, 1) := (congrArg (fun b => decode b 20) cd90).trans (by decide +kernel)
theorem d90_21 : decode (vm_cd 90) 21 = .ok (.invokevirtual 48, 3) := (congrArg (fun b => decode b 21) cd90).trans (by decide +kernel)
theorem d90_24 : decode (vm_cd 90) 24 = .ok (.istore_n 3, 1) := (congrArg (fun b => decode b 24) cd90).trans (by decide +kernel)
theorem d90_25 : decode (vm_cd 90) 25 = .ok (.iload_n 3, 1) := (congrArg (fun b => decode b 25) cd90).trans (by decide +kernel)
theorem d90_26 : decode (vm_cd 90) 26 = .ok (.ifCond .ge 5, 3) := (congrArg (fun b => decode b 26) cd90).trans (by decide +kernel)
theorem d90_29 : decode (vm_cd 90) 29 = .ok (.iconst 0, 1) := (congrArg (fun b => decode b 29) cd90).trans (by decide +kernel)
theorem d90_30 : decode (vm_cd 90) 30 = .ok (.ireturn, 1) := (congrArg (fun b => decode b 30) cd90).trans (by decide +kernel)
theorem d90_31 : decode (vm_cd 90) 31 = .ok (.aload_n 0, 1) := (congrArg (fun b => decode b 31) cd90).trans (by decide +kernel)
theorem d90_32 : decode (vm_cd 90) 32 = .ok (.iload_n 2, 1) := (congrArg (fun b => decode b 32) cd90).trans (by decide +kernel)
theorem d90_33 : decode (vm_cd 90) 33 = .ok (.iload_n 3, 1) := (congrArg (fun b => decode b 33) cd90).trans (by decide +kernel)
theorem d90_34 : decode (vm_cd 90) 34 = .ok (.invokevirtual 52, 3) := (congrArg (fun b => decode b 34) cd90).trans (by decide +kernel)
theorem d90_37 : decode (vm_cd 90) 37 = .ok (.iinc 1 1, 3) := (congrArg (fun b => decode b 37) cd90).trans (by decide +kernel)
theorem d90_40 : decode (vm_cd 90) 40 = .ok (.goto (-38), 3) := (congrArg (fun b => decode b 40) cd90).trans (by decide +kernel)
theorem d90_43 : decode (vm_cd 90) 43 = .ok (.iconst 0, 1) := (congrArg (fun b => decode b 43) cd90).trans (by decide +kernel)
theorem d90_44 : decode (vm_cd 90) 44 = .ok (.ireturn, 1) := (congrArg (fun b => decode b 44) cd90).trans (by decide +kernel)
theorem c90_44 : vm_ml.lookup (vm_own 90, 44) = some (0, 91, 0, 438, 440, 4, 4) := vm_lk (by decide +kernel)
theorem c90_48 : vm_ml.lookup (vm_own 90, 48) = some (0, 92, 1, 442, 444, 5, 4) := vm_lk (by decide +kernel)
theorem c90_52 : vm_ml.lookup (vm_own 90, 52) = some (0, 94, 2, 450, 452, 7, 4) := vm_lk (by decide +kernel)
theorem g90_43 : vm_cn.lookup (vm_own 90, 43) = some ((0), (100000), (437)) := by decide +kernel
theorem r90 : vm_rt 90 = (some .boolean) := by decide +kernel
theorem B_So_solves_0 {X : vX} {d : Nat} {M : vM} {Q : Option vV → vM → Prop}  (k : vw X d 90 2 [vR 13, vI 0, vN, vN] [] M Q) : vw X d 90 0 [vR 13, vN, vN, vN] [] M Q := by
  refine w_ic (v := 0) d90_0 rfl ?_
  refine w_istore_nE (ls' := [vR 13, vI 0, vN, vN]) d90_1 (Nat.le_of_ble_eq_true rfl) rfl ?_
  exact k
theorem B_So_solves_2 {X : vX} {d : Nat} {M : vM} {Q : Option vV → vM → Prop} {l1 : Int} {w2 w3 : vV}  (k1 : 100000 ≤ l1 → vw X d 90 43 [vR 13, vI l1, w2, w3] [] M Q) (k2 : l1 < 100000 → vw X d 90 8 [vR 13, vI l1, w2, w3] [] M Q) : vw X d 90 2 [vR 13, vI l1, w2, w3] [] M Q := by
  refine w_iload_n d90_2 rfl ?_
  refine w_ldc (v := 100000) d90_3 g90_43 rfl ?_
  exact w_icmp_ge d90_5 rfl (fun h => k1 h) (fun h => k2 h)
theorem B_So_solves_8 {X : vX} {d : Nat} {M : vM} {Q : Option vV → vM → Prop} {l1 : Int} {w2 w3 : vV}  (k : cq X d 91 [vR 13] M (fun r M1 => wp X d 90 12 [vR 13, vI l1, w2, w3] (r.toList ++ []) (vS0, M1) (vP Q))) : vw X d 90 8 [vR 13, vI l1, w2, w3] [] M Q := by
  refine w_aload_n d90_8 rfl ?_
  exact w_inv0 (a := 13) (c := 6) d90_9 c90_44 rfl rfl rfl v91 (Nat.le_of_ble_eq_true rfl) (cq.cl (k))
theorem B_So_solves_12 {X : vX} {d : Nat} {M : vM} {Q : Option vV → vM → Prop} {l1 s0 : Int} {w2 w3 : vV}  (k1 : 0 ≤ s0 → vw X d 90 19 [vR 13, vI l1, vI s0, w3] [] M Q) (k2 : s0 < 0 → vw X d 90 17 [vR 13, vI l1, vI s0, w3] [] M Q) : vw X d 90 12 [vR 13, vI l1, w2, w3] [vI s0] M Q := by
  refine w_istore_nE (ls' := [vR 13, vI l1, vI s0, w3]) d90_12 (Nat.le_of_ble_eq_true rfl) rfl ?_
  refine w_iload_n d90_13 rfl ?_
  exact w_if_ge d90_14 rfl (fun h => k1 h) (fun h => k2 h)
theorem B_So_solves_17 {X : vX} {d : Nat} {M : vM} {Q : Option vV → vM → Prop} {l1 l2 : Int} {w3 : vV}  (k : Q (some (vI 1)) M) : vw X d 90 17 [vR 13, vI l1, vI l2, w3] [] M Q := by
  refine w_ic (v := 1) d90_17 rfl ?_
  exact w_zret d90_18 r90 (by decide) ⟨_, rfl, k⟩
theorem B_So_solves_19 {X : vX} {d : Nat} {M : vM} {Q : Option vV → vM → Prop} {l1 l2 : Int} {w3 : vV}  (k : cq X d 92 [vR 13, vI l2] M (fun r M1 => wp X d 90 24 [vR 13, vI l1, vI l2, w3] (r.toList ++ []) (vS0, M1) (vP Q))) : vw X d 90 19 [vR 13, vI l1, vI l2, w3] [] M Q := by
  refine w_aload_n d90_19 rfl ?_
  refine w_iload_n d90_20 rfl ?_
  exact w_inv0 (a := 13) (c := 6) d90_21 c90_48 rfl rfl rfl v92 (Nat.le_of_ble_eq_true rfl) (cq.cl (k))
theorem B_So_solves_24 {X : vX} {d : Nat} {M : vM} {Q : Option vV → vM → Prop} {l1 l2 s0 : Int} {w3 : vV}  (k1 : 0 ≤ s0 → vw X d 90 31 [vR 13, vI l1, vI l2, vI s0] [] M Q) (k2 : s0 < 0 → vw X d 90 29 [vR 13, vI l1, vI l2, vI s0] [] M Q) : vw X d 90 24 [vR 13, vI l1, vI l2, w3] [vI s0] M Q := by
  refine w_istore_nE (ls' := [vR 13, vI l1, vI l2, vI s0]) d90_24 (Nat.le_of_ble_eq_true rfl) rfl ?_
  refine w_iload_n d90_25 rfl ?_
  exact w_if_ge d90_26 rfl (fun h => k1 h) (fun h => k2 h)
theorem B_So_solves_29 {X : vX} {d : Nat} {M : vM} {Q : Option vV → vM → Prop} {l1 l2 l3 : Int}  (k : Q (some (vI 0)) M) : vw X d 90 29 [vR 13, vI l1, vI l2, vI l3] [] M Q := by
  refine w_ic (v := 0) d90_29 rfl ?_
  exact w_zret d90_30 r90 (by decide) ⟨_, rfl, k⟩
theorem B_So_solves_31 {X : vX} {d : Nat} {M : vM} {Q : Option vV → vM → Prop} {l1 l2 l3 : Int}  (k : cq X d 94 [vR 13, vI l2, vI l3] M (fun r M1 => wp X d 90 37 [vR 13, vI l1, vI l2, vI l3] (r.toList ++ []) (vS0, M1) (vP Q))) : vw X d 90 31 [vR 13, vI l1, vI l2, vI l3] [] M Q := by
  refine w_aload_n d90_31 rfl ?_
  refine w_iload_n d90_32 rfl ?_
  refine w_iload_n d90_33 rfl ?_
  exact w_inv0 (a := 13) (c := 6) d90_34 c90_52 rfl rfl rfl v94 (Nat.le_of_ble_eq_true rfl) (cq.cl (k))
theorem B_So_solves_37 {X : vX} {d : Nat} {M : vM} {Q : Option vV → vM → Prop} {l1 l2 l3 : Int}  (k : vw X d 90 2 [vR 13, vI (w32 (l1 + 1)), vI l2, vI l3] [] M Q) : vw X d 90 37 [vR 13, vI l1, vI l2, vI l3] [] M Q := by
  refine w_iincE (ls' := [vR 13, vI (w32 (l1 + 1)), vI l2, vI l3]) d90_37 rfl rfl ?_
  refine w_goto (tgt := 2) d90_40 rfl ?_
  exact k
theorem B_So_solves_43 {X : vX} {d : Nat} {M : vM} {Q : Option vV → vM → Prop} {l1 : Int} {w2 w3 : vV}  (k : Q (some (vI 0)) M) : vw X d 90 43 [vR 13, vI l1, w2, w3] [] M Q := by
  refine w_ic (v := 0) d90_43 rfl ?_
  exact w_zret d90_44 r90 (by decide) ⟨_, rfl, k⟩
theorem E_So_solves {X : vX} {d : Nat} {M : vM} {Q : Option vV → vM → Prop} (k : vw X d 90 0 [vR 13, vN, vN, vN] [] M Q) : cq X (d + 1) 90 [vR 13] M Q := wc_in (Nat.le_of_ble_eq_true rfl) (Nat.le_of_ble_eq_true rfl) k
theorem cd91 : vm_cd 91 = cX7_firstBroken := rfl
theorem d91_0 : decode (vm_cd 91) 0 = .ok (.iconst 1, 1) := (congrArg (fun b => decode b 0) cd91).trans (by decide +kernel)
theorem d91_1 : decode (vm_cd 91) 1 = .ok (.istore_n 1, 1) := (congrArg (fun b => decode b 1) cd91).trans (by decide +kernel)
theorem d91_2 : decode (vm_cd 91) 2 = .ok (.iload_n 1, 1) := (congrArg (fun b => decode b 2) cd91).trans (by decide +kernel)
theorem d91_3 : decode (vm_cd 91) 3 = .ok (.aload_n 0, 1) := (congrArg (fun b => decode b 3) cd91).trans (by decide +kernel)
theorem d91_4 : decode (vm_cd 91) 4 = .ok (.getfield 31, 3) := (congrArg (fun b => decode b 4) cd91).trans (by decide +kernel)
theorem d91_7 : decode (vm_cd 91) 7 = .ok (.if_icmp .ge 24, 3) := (congrArg (fun b => decode b 7) cd91).trans (by decide +kernel)
theorem d91_10 : decode (vm_cd 91) 10 = .ok (.aload_n 0, 1) := (congrArg (fun b => decode b 10) cd91).trans (by decide +kernel)
theorem d91_11 : decode (vm_cd 91) 11 = .ok (.getfield 11, 3) := (congrArg (fun b => decode b 11) cd91).trans (by decide +kernel)
theorem d91_14 : decode (vm_cd 91) 14 = .ok (.iload_n 1, 1) := (congrArg (fun b => decode b 14) cd91).trans (by decide +kernel)
theorem d91_15 : decode (vm_cd 91) 15 = .ok (.aaload, 1) := (congrArg (fun b => decode b 15) cd91).trans (by decide +kernel)
theorem d91_16 : decode (vm_cd 91) 16 = .ok (.iconst 0, 1) := (congrArg (fun b => decode b 16) cd91).trans (by decide +kernel)
theorem d91_17 : decode (vm_cd 91) 17 = .ok (.laload, 1) := (congrArg (fun b => decode b 17) cd91).trans (by decide +kernel)
theorem d91_18 : decode (vm_cd 91) 18 = .ok (.lconst 0, 1) := (congrArg (fun b => decode b 18) cd91).trans (by decide +kernel)
theorem d91_19 : decode (vm_cd 91) 19 = .ok (.lcmp, 1) := (congrArg (fun b => decode b 19) cd91).trans (by decide +kernel)
theorem d91_20 : decode (vm_cd 91) 20 = .ok (.ifCond .ge 5, 3) := (congrArg (fun b => decode b 20) cd91).trans (by decide +kernel)
theorem d91_23 : decode (vm_cd 91) 23 = .ok (.iload_n 1, 1) := (congrArg (fun b => decode b 23) cd91).trans (by decide +kernel)
theorem d91_24 : decode (vm_cd 91) 24 = .ok (.ireturn, 1) := (congrArg (fun b => decode b 24) cd91).trans (by decide +kernel)
theorem d91_25 : decode (vm_cd 91) 25 = .ok (.iinc 1 1, 3) := (congrArg (fun b => decode b 25) cd91).trans (by decide +kernel)
theorem d91_28 : decode (vm_cd 91) 28 = .ok (.goto (-26), 3) := (congrArg (fun b => decode b 28) cd91).trans (by decide +kernel)
theorem d91_31 : decode (vm_cd 91) 31 = .ok (.iconst (-1), 1) := (congrArg (fun b => decode b 31) cd91).trans (by decide +kernel)
theorem d91_32 : decode (vm_cd 91) 32 = .ok (.ireturn, 1) := (congrArg (fun b => decode b 32) cd91).trans (by decide +kernel)
theorem f91_11 : vm_fl.lookup (vm_own 91, 11) = some (6, 0, 64) := by decide +kernel
theorem f91_31 : vm_fl.lookup (vm_own 91, 31) = some (6, 2, 66) := by decide +kernel
theorem r91 : vm_rt 91 = (some .int) := by decide +kernel
theorem B_So_firstBroken_0 {X : vX} {d : Nat} {M : vM} {Q : Option vV → vM → Prop}  (k : vw X d 91 2 [vR 13, vI 1] [] M Q) : vw X d 91 0 [vR 13, vN] [] M Q := by
  refine w_ic (v := 1) d91_0 rfl ?_
  refine w_istore_nE (ls' := [vR 13, vI 1]) d91_1 (Nat.le_of_ble_eq_true rfl) rfl ?_
  exact k
theorem B_So_firstBroken_2 {X : vX} {d : Nat} {M : vM} {Q : Option vV → vM → Prop} {l1 : Int}  (k1 : (M 13 2) ≤ l1 → vw X d 91 31 [vR 13, vI l1] [] M Q) (k2 : l1 < (M 13 2) → vw X d 91 10 [vR 13, vI l1] [] M Q) : vw X d 91 2 [vR 13, vI l1] [] M Q := by
  refine w_iload_n d91_2 rfl ?_
  refine w_aload_n d91_3 rfl ?_
  refine w_getf (a := 13) (v := vI (M 13 2)) d91_4 f91_31 rfl rfl rfl ?_
  exact w_icmp_ge d91_7 rfl (fun h => k1 h) (fun h => k2 h)
theorem B_So_firstBroken_10 {X : vX} {d : Nat} {M : vM} {Q : Option vV → vM → Prop} {l1 : Int} (hR : vRefs M) (h1 : 0 ≤ l1 ∧ l1 < (13 : Nat)) (k1 : 0 ≤ (M ((15 + l1.toNat)) 0) → vw X d 91 25 [vR 13, vI l1] [] M Q) (k2 : (M ((15 + l1.toNat)) 0) < 0 → vw X d 91 23 [vR 13, vI l1] [] M Q) : vw X d 91 10 [vR 13, vI l1] [] M Q := by
  refine w_aload_n d91_10 rfl ?_
  refine w_getf (a := 13) (v := vR 14) d91_11 f91_11 rfl rfl (congrArg vR (rf_13_0 hR)) ?_
  refine w_iload_n d91_14 rfl ?_
  refine w_aaldE (a := 14) (b := (15 + l1.toNat)) d91_15 rfl rfl (by decide) h1 (vrow_14 (i := l1) hR h1) ?_
  refine w_ic (v := 0) d91_16 rfl ?_
  refine w_laload (a := (15 + l1.toNat)) d91_17 rfl (vrs_14 (i := l1) h1) ⟨by decide, by decide⟩ ?_
  refine w_lc (v := 0) d91_18 rfl ?_
  exact w_lc_ge d91_19 d91_20 rfl (fun h => k1 h) (fun h => k2 h)
theorem B_So_firstBroken_23 {X : vX} {d : Nat} {M : vM} {Q : Option vV → vM → Prop} {l1 : Int}  (k : Q (some (vI l1)) M) : vw X d 91 23 [vR 13, vI l1] [] M Q := by
  refine w_iload_n d91_23 rfl ?_
  exact w_iret d91_24 r91 ⟨_, rfl, k⟩
theorem B_So_firstBroken_25 {X : vX} {d : Nat} {M : vM} {Q : Option vV → vM → Prop} {l1 : Int}  (k : vw X d 91 2 [vR 13, vI (w32 (l1 + 1))] [] M Q) : vw X d 91 25 [vR 13, vI l1] [] M Q := by
  refine w_iincE (ls' := [vR 13, vI (w32 (l1 + 1))]) d91_25 rfl rfl ?_
  refine w_goto (tgt := 2) d91_28 rfl ?_
  exact k
theorem B_So_firstBroken_31 {X : vX} {d : Nat} {M : vM} {Q : Option vV → vM → Prop} {l1 : Int}  (k : Q (some (vI ((-1)))) M) : vw X d 91 31 [vR 13, vI l1] [] M Q := by
  refine w_ic (v := (-1)) d91_31 rfl ?_
  exact w_iret d91_32 r91 ⟨_, rfl, k⟩
theorem E_So_firstBroken {X : vX} {d : Nat} {M : vM} {Q : Option vV → vM → Prop} (k : vw X d 91 0 [vR 13, vN] [] M Q) : cq X (d + 1) 91 [vR 13] M Q := wc_in (Nat.le_of_ble_eq_true rfl) (Nat.le_of_ble_eq_true rfl) k
theorem cd92 : vm_cd 92 = cX7_mending := rfl
theorem d92_0 : decode (vm_cd 92) 0 = .ok (.iconst (-1), 1) := (congrArg (fun b => decode b 0) cd92).trans (by decide +kernel)
theorem d92_1 : decode (vm_cd 92) 1 = .ok (.istore_n 2, 1) := (congrArg (fun b => decode b 1) cd92).trans (by decide +kernel)
theorem d92_2 : decode (vm_cd 92) 2 = .ok (.iconst 1, 1) := (congrArg (fun b => decode b 2) cd92).trans (by decide +kernel)
theorem d92_3 : decode (vm_cd 92) 3 = .ok (.istore_n 3, 1) := (congrArg (fun b => decode b 3) cd92).trans (by decide +kernel)
theorem d92_4 : decode (vm_cd 92) 4 = .ok (.iload_n 3, 1) := (congrArg (fun b => decode b 4) cd92).trans (by decide +kernel)
theorem d92_5 : decode (vm_cd 92) 5 = .ok (.aload_n 0, 1) := (congrArg (fun b => decode b 5) cd92).trans (by decide +kernel)
theorem d92_6 : decode (vm_cd 92) 6 = .ok (.getfield 27, 3) := (congrArg (fun b => decode b 6) cd92).trans (by decide +kernel)
theorem d92_9 : decode (vm_cd 92) 9 = .ok (.if_icmp .gt 38, 3) := (congrArg (fun b => decode b 9) cd92).trans (by decide +kernel)
theorem d92_12 : decode (vm_cd 92) 12 = .ok (.aload_n 0, 1) := (congrArg (fun b => decode b 12) cd92).trans (by decide +kernel)
theorem d92_13 : decode (vm_cd 92) 13 = .ok (.getfield 11, 3) := (congrArg (fun b => decode b 13) cd92).trans (by decide +kernel)
theorem d92_16 : decode (vm_cd 92) 16 = .ok (.iload_n 1, 1) := (congrArg (fun b => decode b 16) cd92).trans (by decide +kernel)
theorem d92_17 : decode (vm_cd 92) 17 = .ok (.aaload, 1) := (congrArg (fun b => decode b 17) cd92).trans (by decide +kernel)
theorem d92_18 : decode (vm_cd 92) 18 = .ok (.iload_n 3, 1) := (congrArg (fun b => decode b 18) cd92).trans (by decide +kernel)
theorem d92_19 : decode (vm_cd 92) 19 = .ok (.laload, 1) := (congrArg (fun b => decode b 19) cd92).trans (by decide +kernel)
theorem d92_20 : decode (vm_cd 92) 20 = .ok (.lconst 0, 1) := (congrArg (fun b => decode b 20) cd92).trans (by decide +kernel)
theorem d92_21 : decode (vm_cd 92) 21 = .ok (.lcmp, 1) := (congrArg (fun b => decode b 21) cd92).trans (by decide +kernel)
theorem d92_22 : decode (vm_cd 92) 22 = .ok (.ifCond .le 19, 3) := (congrArg (fun b => decode b 22) cd92).trans (by decide +kernel)
theorem d92_25 : decode (vm_cd 92) 25 = .ok (.iload_n 2, 1) := (congrArg (fun b => decode b 25) cd92).trans (by decide +kernel)
theorem d92_26 : decode (vm_cd 92) 26 = .ok (.ifCond .lt 13, 3) := (congrArg (fun b => decode b 26) cd92).trans (by decide +kernel)
theorem d92_29 : decode (vm_cd 92) 29 = .ok (.aload_n 0, 1) := (congrArg (fun b => decode b 29) cd92).trans (by decide +kernel)
theorem d92_30 : decode (vm_cd 92) 30 = .ok (.iload_n 3, 1) := (congrArg (fun b => decode b 30) cd92).trans (by decide +kernel)
theorem d92_31 : decode (vm_cd 92) 31 = .ok (.iload_n 2, 1) := (congrArg (fun b => decode b 31) cd92).trans (by decide +kernel)
theorem d92_32 : decode (vm_cd 92) 32 = .ok (.iload_n 1, 1) := (congrArg (fun b => decode b 32) cd92).trans (by decide +kernel)
theorem d92_33 : decode (vm_cd 92) 33 = .ok (.invokevirtual 56, 3) := (congrArg (fun b => decode b 33) cd92).trans (by decide +kernel)
theorem d92_36 : decode (vm_cd 92) 36 = .ok (.ifCond .eq 5, 3) := (congrArg (fun b => decode b 36) cd92).trans (by decide +kernel)
theorem d92_39 : decode (vm_cd 92) 39 = .ok (.iload_n 3, 1) := (congrArg (fun b => decode b 39) cd92).trans (by decide +kernel)
theorem d92_40 : decode (vm_cd 92) 40 = .ok (.istore_n 2, 1) := (congrArg (fun b => decode b 40) cd92).trans (by decide +kernel)
theorem d92_41 : decode (vm_cd 92) 41 = .ok (.iinc 3 1, 3) := (congrArg (fun b => decode b 41) cd92).trans (by decide +kernel)
theorem d92_44 : decode (vm_cd 92) 44 = .ok (.goto (-40), 3) := (congrArg (fun b => decode b 44) cd92).trans (by decide +kernel)
theorem d92_47 : decode (vm_cd 92) 47 = .ok (.iload_n 2, 1) := (congrArg (fun b => decode b 47) cd92).trans (by decide +kernel)
theorem d92_48 : decode (vm_cd 92) 48 = .ok (.ireturn, 1) := (congrArg (fun b => decode b 48) cd92).trans (by decide +kernel)
theorem f92_11 : vm_fl.lookup (vm_own 92, 11) = some (6, 0, 64) := by decide +kernel
theorem f92_27 : vm_fl.lookup (vm_own 92, 27) = some (6, 1, 65) := by decide +kernel
theorem c92_56 : vm_ml.lookup (vm_own 92, 56) = some (0, 93, 3, 446, 448, 6, 4) := vm_lk (by decide +kernel)
theorem r92 : vm_rt 92 = (some .int) := by decide +kernel
theorem B_So_mending_0 {X : vX} {d : Nat} {M : vM} {Q : Option vV → vM → Prop} {l1 : Int}  (k : vw X d 92 4 [vR 13, vI l1, vI ((-1)), vI 1] [] M Q) : vw X d 92 0 [vR 13, vI l1, vN, vN] [] M Q := by
  refine w_ic (v := (-1)) d92_0 rfl ?_
  refine w_istore_nE (ls' := [vR 13, vI l1, vI ((-1)), vN]) d92_1 (Nat.le_of_ble_eq_true rfl) rfl ?_
  refine w_ic (v := 1) d92_2 rfl ?_
  refine w_istore_nE (ls' := [vR 13, vI l1, vI ((-1)), vI 1]) d92_3 (Nat.le_of_ble_eq_true rfl) rfl ?_
  exact k
theorem B_So_mending_4 {X : vX} {d : Nat} {M : vM} {Q : Option vV → vM → Prop} {l1 l2 l3 : Int}  (k1 : (M 13 1) < l3 → vw X d 92 47 [vR 13, vI l1, vI l2, vI l3] [] M Q) (k2 : l3 ≤ (M 13 1) → vw X d 92 12 [vR 13, vI l1, vI l2, vI l3] [] M Q) : vw X d 92 4 [vR 13, vI l1, vI l2, vI l3] [] M Q := by
  refine w_iload_n d92_4 rfl ?_
  refine w_aload_n d92_5 rfl ?_
  refine w_getf (a := 13) (v := vI (M 13 1)) d92_6 f92_27 rfl rfl rfl ?_
  exact w_icmp_gt d92_9 rfl (fun h => k1 h) (fun h => k2 h)
theorem B_So_mending_12 {X : vX} {d : Nat} {M : vM} {Q : Option vV → vM → Prop} {l1 l2 l3 : Int} (hR : vRefs M) (h1 : 0 ≤ l1 ∧ l1 < (13 : Nat)) (h2 : 0 ≤ l3 ∧ l3 < (5 : Nat)) (k1 : (M ((15 + l1.toNat)) l3.toNat) ≤ 0 → vw X d 92 41 [vR 13, vI l1, vI l2, vI l3] [] M Q) (k2 : 0 < (M ((15 + l1.toNat)) l3.toNat) → vw X d 92 25 [vR 13, vI l1, vI l2, vI l3] [] M Q) : vw X d 92 12 [vR 13, vI l1, vI l2, vI l3] [] M Q := by
  refine w_aload_n d92_12 rfl ?_
  refine w_getf (a := 13) (v := vR 14) d92_13 f92_11 rfl rfl (congrArg vR (rf_13_0 hR)) ?_
  refine w_iload_n d92_16 rfl ?_
  refine w_aaldE (a := 14) (b := (15 + l1.toNat)) d92_17 rfl rfl (by decide) h1 (vrow_14 (i := l1) hR h1) ?_
  refine w_iload_n d92_18 rfl ?_
  refine w_laload (a := (15 + l1.toNat)) d92_19 rfl (vrs_14 (i := l1) h1) h2 ?_
  refine w_lc (v := 0) d92_20 rfl ?_
  exact w_lc_le d92_21 d92_22 rfl (fun h => k1 h) (fun h => k2 h)
theorem B_So_mending_25 {X : vX} {d : Nat} {M : vM} {Q : Option vV → vM → Prop} {l1 l2 l3 : Int}  (k1 : l2 < 0 → vw X d 92 39 [vR 13, vI l1, vI l2, vI l3] [] M Q) (k2 : 0 ≤ l2 → vw X d 92 29 [vR 13, vI l1, vI l2, vI l3] [] M Q) : vw X d 92 25 [vR 13, vI l1, vI l2, vI l3] [] M Q := by
  refine w_iload_n d92_25 rfl ?_
  exact w_if_lt d92_26 rfl (fun h => k1 h) (fun h => k2 h)
theorem B_So_mending_29 {X : vX} {d : Nat} {M : vM} {Q : Option vV → vM → Prop} {l1 l2 l3 : Int}  (k : cq X d 93 [vR 13, vI l3, vI l2, vI l1] M (fun r M1 => wp X d 92 36 [vR 13, vI l1, vI l2, vI l3] (r.toList ++ []) (vS0, M1) (vP Q))) : vw X d 92 29 [vR 13, vI l1, vI l2, vI l3] [] M Q := by
  refine w_aload_n d92_29 rfl ?_
  refine w_iload_n d92_30 rfl ?_
  refine w_iload_n d92_31 rfl ?_
  refine w_iload_n d92_32 rfl ?_
  exact w_inv0 (a := 13) (c := 6) d92_33 c92_56 rfl rfl rfl v93 (Nat.le_of_ble_eq_true rfl) (cq.cl (k))
theorem B_So_mending_36 {X : vX} {d : Nat} {M : vM} {Q : Option vV → vM → Prop} {l1 l2 l3 s0 : Int}  (k1 : s0 = 0 → vw X d 92 41 [vR 13, vI l1, vI l2, vI l3] [] M Q) (k2 : ¬ s0 = 0 → vw X d 92 39 [vR 13, vI l1, vI l2, vI l3] [] M Q) : vw X d 92 36 [vR 13, vI l1, vI l2, vI l3] [vI s0] M Q := by
  exact w_if_eq d92_36 rfl (fun h => k1 h) (fun h => k2 h)
theorem B_So_mending_39 {X : vX} {d : Nat} {M : vM} {Q : Option vV → vM → Prop} {l1 l2 l3 : Int}  (k : vw X d 92 4 [vR 13, vI l1, vI l3, vI (w32 (l3 + 1))] [] M Q) : vw X d 92 39 [vR 13, vI l1, vI l2, vI l3] [] M Q := by
  refine w_iload_n d92_39 rfl ?_
  refine w_istore_nE (ls' := [vR 13, vI l1, vI l3, vI l3]) d92_40 (Nat.le_of_ble_eq_true rfl) rfl ?_
  refine w_iincE (ls' := [vR 13, vI l1, vI l3, vI (w32 (l3 + 1))]) d92_41 rfl rfl ?_
  refine w_goto (tgt := 4) d92_44 rfl ?_
  exact k
theorem B_So_mending_41 {X : vX} {d : Nat} {M : vM} {Q : Option vV → vM → Prop} {l1 l2 l3 : Int}  (k : vw X d 92 4 [vR 13, vI l1, vI l2, vI (w32 (l3 + 1))] [] M Q) : vw X d 92 41 [vR 13, vI l1, vI l2, vI l3] [] M Q := by
  refine w_iincE (ls' := [vR 13, vI l1, vI l2, vI (w32 (l3 + 1))]) d92_41 rfl rfl ?_
  refine w_goto (tgt := 4) d92_44 rfl ?_
  exact k
theorem B_So_mending_47 {X : vX} {d : Nat} {M : vM} {Q : Option vV → vM → Prop} {l1 l2 l3 : Int}  (k : Q (some (vI l2)) M) : vw X d 92 47 [vR 13, vI l1, vI l2, vI l3] [] M Q := by
  refine w_iload_n d92_47 rfl ?_
  exact w_iret d92_48 r92 ⟨_, rfl, k⟩
theorem E_So_mending {X : vX} {d : Nat} {M : vM} {Q : Option vV → vM → Prop} {l1 : Int} (k : vw X d 92 0 [vR 13, vI l1, vN, vN] [] M Q) : cq X (d + 1) 92 [vR 13, vI l1] M Q := wc_in (Nat.le_of_ble_eq_true rfl) (Nat.le_of_ble_eq_true rfl) k
theorem cd93 : vm_cd 93 = cX7_growsLess := rfl
theorem d93_0 : decode (vm_cd 93) 0 = .ok (.iconst 0, 1) := (congrArg (fun b => decode b 0) cd93).trans (by decide +kernel)
theorem d93_1 : decode (vm_cd 93) 1 = .ok (.istore 4, 2) := (congrArg (fun b => decode b 1) cd93).trans (by decide +kernel)
theorem d93_3 : decode (vm_cd 93) 3 = .ok (.iload 4, 2) := (congrArg (fun b => decode b 3) cd93).trans (by decide +kernel)
theorem d93_5 : decode (vm_cd 93) 5 = .ok (.aload_n 0, 1) := (congrArg (fun b => decode b 5) cd93).trans (by decide +kernel)
theorem d93_6 : decode (vm_cd 93) 6 = .ok (.getfield 27, 3) := (congrArg (fun b => decode b 6) cd93).trans (by decide +kernel)
theorem d93_9 : decode (vm_cd 93) 9 = .ok (.if_icmp .gt 71, 3) := (congrArg (fun b => decode b 9) cd93).trans (by decide +kernel)
theorem d93_12 : decode (vm_cd 93) 12 = .ok (.aload_n 0, 1) := (congrArg (fun b => decode b 12) cd93).trans (by decide +kernel)
theorem d93_13 : decode (vm_cd 93) 13 = .ok (.getfield 11, 3) := (congrArg (fun b => decode b 13) cd93).trans (by decide +kernel)
theorem d93_16 : decode (vm_cd 93) 16 = .ok (.iload 4, 2) := (congrArg (fun b => decode b 16) cd93).trans (by decide +kernel)
theorem d93_18 : decode (vm_cd 93) 18 = .ok (.aaload, 1) := (congrArg (fun b => decode b 18) cd93).trans (by decide +kernel)
theorem d93_19 : decode (vm_cd 93) 19 = .ok (.iload_n 1, 1) := (congrArg (fun b => decode b 19) cd93).trans (by decide +kernel)
theorem d93_20 : decode (vm_cd 93) 20 = .ok (.laload, 1) := (congrArg (fun b => decode b 20) cd93).trans (by decide +kernel)
theorem d93_21 : decode (vm_cd 93) 21 = .ok (.aload_n 0, 1) := (congrArg (fun b => decode b 21) cd93).trans (by decide +kernel)
theorem d93_22 : decode (vm_cd 93) 22 = .ok (.getfield 11, 3) := (congrArg (fun b => decode b 22) cd93).trans (by decide +kernel)
theorem d93_25 : decode (vm_cd 93) 25 = .ok (.iload_n 3, 1) := (congrArg (fun b => decode b 25) cd93).trans (by decide +kernel)
theorem d93_26 : decode (vm_cd 93) 26 = .ok (.aaload, 1) := (congrArg (fun b => decode b 26) cd93).trans (by decide +kernel)
theorem d93_27 : decode (vm_cd 93) 27 = .ok (.iload_n 2, 1) := (congrArg (fun b => decode b 27) cd93).trans (by decide +kernel)
theorem d93_28 : decode (vm_cd 93) 28 = .ok (.laload, 1) := (congrArg (fun b => decode b 28) cd93).trans (by decide +kernel)
theorem d93_29 : decode (vm_cd 93) 29 = .ok (.lmul, 1) := (congrArg (fun b => decode b 29) cd93).trans (by decide +kernel)
theorem d93_30 : decode (vm_cd 93) 30 = .ok (.lstore 5, 2) := (congrArg (fun b => decode b 30) cd93).trans (by decide +kernel)
theorem d93_32 : decode (vm_cd 93) 32 = .ok (.aload_n 0, 1) := (congrArg (fun b => decode b 32) cd93).trans (by decide +kernel)
theorem d93_33 : decode (vm_cd 93) 33 = .ok (.getfield 11, 3) := (congrArg (fun b => decode b 33) cd93).trans (by decide +kernel)
theorem d93_36 : decode (vm_cd 93) 36 = .ok (.iload 4, 2) := (congrArg (fun b => decode b 36) cd93).trans (by decide +kernel)
theorem d93_38 : decode (vm_cd 93) 38 = .ok (.aaload, 1) := (congrArg (fun b => decode b 38) cd93).trans (by decide +kernel)
theorem d93_39 : decode (vm_cd 93) 39 = .ok (.iload_n 2, 1) := (congrArg (fun b => decode b 39) cd93).trans (by decide +kernel)
theorem d93_40 : decode (vm_cd 93) 40 = .ok (.laload, 1) := (congrArg (fun b => decode b 40) cd93).trans (by decide +kernel)
theorem d93_41 : decode (vm_cd 93) 41 = .ok (.aload_n 0, 1) := (congrArg (fun b => decode b 41) cd93).trans (by decide +kernel)
theorem d93_42 : decode (vm_cd 93) 42 = .ok (.getfield 11, 3) := (congrArg (fun b => decode b 42) cd93).trans (by decide +kernel)
theorem d93_45 : decode (vm_cd 93) 45 = .ok (.iload_n 3, 1) := (congrArg (fun b => decode b 45) cd93).trans (by decide +kernel)
theorem d93_46 : decode (vm_cd 93) 46 = .ok (.aaload, 1) := (congrArg (fun b => decode b 46) cd93).trans (by decide +kernel)
theorem d93_47 : decode (vm_cd 93) 47 = .ok (.iload_n 1, 1) := (congrArg (fun b => decode b 47) cd93).trans (by decide +kernel)
theorem d93_48 : decode (vm_cd 93) 48 = .ok (.laload, 1) := (congrArg (fun b => decode b 48) cd93).trans (by decide +kernel)
theorem d93_49 : decode (vm_cd 93) 49 = .ok (.lmul, 1) := (congrArg (fun b => decode b 49) cd93).trans (by decide +kernel)
theorem d93_50 : decode (vm_cd 93) 50 = .ok (.lstore 7, 2) := (congrArg (fun b => decode b 50) cd93).trans (by decide +kernel)
theorem d93_52 : decode (vm_cd 93) 52 = .ok (.lload 5, 2) := (congrArg (fun b => decode b 52) cd93).trans (by decide +kernel)
theorem d93_54 : decode (vm_cd 93) 54 = .ok (.lload 7, 2) := (congrArg (fun b => decode b 54) cd93).trans (by decide +kernel)
theorem d93_56 : decode (vm_cd 93) 56 = .ok (.lcmp, 1) := (congrArg (fun b => decode b 56) cd93).trans (by decide +kernel)
theorem d93_57 : decode (vm_cd 93) 57 = .ok (.ifCond .eq 17, 3) := (congrArg (fun b => decode b 57) cd93).trans (by decide +kernel)
theorem d93_60 : decode (vm_cd 93) 60 = .ok (.lload 5, 2) := (congrArg (fun b => decode b 60) cd93).trans (by decide +kernel)
theorem d93_62 : decode (vm_cd 93) 62 = .ok (.lload 7, 2) := (congrArg (fun b => decode b 62) cd93).trans (by decide +kernel)
theorem d93_64 : decode (vm_cd 93) 64 = .ok (.lcmp, 1) := (congrArg (fun b => decode b 64) cd93).trans (by decide +kernel)
theorem d93_65 : decode (vm_cd 93) 65 = .ok (.ifCond .ge 7, 3) := (congrArg (fun b => decode b 65) cd93).trans (by decide +kernel)
theorem d93_68 : decode (vm_cd 93) 68 = .ok (.iconst 1, 1) := (congrArg (fun b => decode b 68) cd93).trans (by decide +kernel)
theorem d93_69 : decode (vm_cd 93) 69 = .ok (.goto 4, 3) := (congrArg (fun b => decode b 69) cd93).trans (by decide +kernel)
theorem d93_72 : decode (vm_cd 93) 72 = .ok (.iconst 0, 1) := (congrArg (fun b => decode b 72) cd93).trans (by decide +kernel)
theorem d93_73 : decode (vm_cd 93) 73 = .ok (.ireturn, 1) := (congrArg (fun b => decode b 73) cd93).trans (by decide +kernel)
theorem d93_74 : decode (vm_cd 93) 74 = .ok (.iinc 4 1, 3) := (congrArg (fun b => decode b 74) cd93).trans (by decide +kernel)
theorem d93_77 : decode (vm_cd 93) 77 = .ok (.goto (-74), 3) := (congrArg (fun b => decode b 77) cd93).trans (by decide +kernel)
theorem d93_80 : decode (vm_cd 93) 80 = .ok (.iconst 0, 1) := (congrArg (fun b => decode b 80) cd93).trans (by decide +kernel)
theorem d93_81 : decode (vm_cd 93) 81 = .ok (.ireturn, 1) := (congrArg (fun b => decode b 81) cd93).trans (by decide +kernel)
theorem f93_11 : vm_fl.lookup (vm_own 93, 11) = some (6, 0, 64) := by decide +kernel
theorem f93_27 : vm_fl.lookup (vm_own 93, 27) = some (6, 1, 65) := by decide +kernel
theorem r93 : vm_rt 93 = (some .boolean) := by decide +kernel
theorem B_So_growsLess_0 {X : vX} {d : Nat} {M : vM} {Q : Option vV → vM → Prop} {l1 l2 l3 : Int}  (k : vw X d 93 3 [vR 13, vI l1, vI l2, vI l3, vI 0, vN, vN, vN, vN] [] M Q) : vw X d 93 0 [vR 13, vI l1, vI l2, vI l3, vN, vN, vN, vN, vN] [] M Q := by
  refine w_ic (v := 0) d93_0 rfl ?_
  refine w_istoreE (ls' := [vR 13, vI l1, vI l2, vI l3, vI 0, vN, vN, vN, vN]) d93_1 (Nat.le_of_ble_eq_true rfl) rfl ?_
  exact k
theorem B_So_growsLess_3 {X : vX} {d : Nat} {M : vM} {Q : Option vV → vM → Prop} {l1 l2 l3 l4 : Int} {w5 w7 : vV}  (k1 : (M 13 1) < l4 → vw X d 93 80 [vR 13, vI l1, vI l2, vI l3, vI l4, w5, vN, w7, vN] [] M Q) (k2 : l4 ≤ (M 13 1) → vw X d 93 12 [vR 13, vI l1, vI l2, vI l3, vI l4, w5, vN, w7, vN] [] M Q) : vw X d 93 3 [vR 13, vI l1, vI l2, vI l3, vI l4, w5, vN, w7, vN] [] M Q := by
  refine w_iload d93_3 rfl ?_
  refine w_aload_n d93_5 rfl ?_
  refine w_getf (a := 13) (v := vI (M 13 1)) d93_6 f93_27 rfl rfl rfl ?_
  exact w_icmp_gt d93_9 rfl (fun h => k1 h) (fun h => k2 h)
theorem B_So_growsLess_12 {X : vX} {d : Nat} {M : vM} {Q : Option vV → vM → Prop} {l1 l2 l3 l4 : Int} {w5 w7 : vV} (hR : vRefs M) (h1 : 0 ≤ l4 ∧ l4 < (13 : Nat)) (h2 : 0 ≤ l1 ∧ l1 < (5 : Nat)) (h3 : 0 ≤ l3 ∧ l3 < (13 : Nat)) (h4 : 0 ≤ l2 ∧ l2 < (5 : Nat)) (h5 : 0 ≤ l4 ∧ l4 < (13 : Nat)) (h6 : 0 ≤ l2 ∧ l2 < (5 : Nat)) (h7 : 0 ≤ l3 ∧ l3 < (13 : Nat)) (h8 : 0 ≤ l1 ∧ l1 < (5 : Nat)) (k1 : (w64 ((M ((15 + l4.toNat)) l1.toNat) * (M ((15 + l3.toNat)) l2.toNat))) = (w64 ((M ((15 + l4.toNat)) l2.toNat) * (M ((15 + l3.toNat)) l1.toNat))) → vw X d 93 74 [vR 13, vI l1, vI l2, vI l3, vI l4, vL (w64 ((M ((15 + l4.toNat)) l1.toNat) * (M ((15 + l3.toNat)) l2.toNat))), vN, vL (w64 ((M ((15 + l4.toNat)) l2.toNat) * (M ((15 + l3.toNat)) l1.toNat))), vN] [] M Q) (k2 : ¬ (w64 ((M ((15 + l4.toNat)) l1.toNat) * (M ((15 + l3.toNat)) l2.toNat))) = (w64 ((M ((15 + l4.toNat)) l2.toNat) * (M ((15 + l3.toNat)) l1.toNat))) → vw X d 93 60 [vR 13, vI l1, vI l2, vI l3, vI l4, vL (w64 ((M ((15 + l4.toNat)) l1.toNat) * (M ((15 + l3.toNat)) l2.toNat))), vN, vL (w64 ((M ((15 + l4.toNat)) l2.toNat) * (M ((15 + l3.toNat)) l1.toNat))), vN] [] M Q) : vw X d 93 12 [vR 13, vI l1, vI l2, vI l3, vI l4, w5, vN, w7, vN] [] M Q := by
  refine w_aload_n d93_12 rfl ?_
  refine w_getf (a := 13) (v := vR 14) d93_13 f93_11 rfl rfl (congrArg vR (rf_13_0 hR)) ?_
  refine w_iload d93_16 rfl ?_
  refine w_aaldE (a := 14) (b := (15 + l4.toNat)) d93_18 rfl rfl (by decide) h1 (vrow_14 (i := l4) hR h1) ?_
  refine w_iload_n d93_19 rfl ?_
  refine w_laload (a := (15 + l4.toNat)) d93_20 rfl (vrs_14 (i := l4) h1) h2 ?_
  refine w_aload_n d93_21 rfl ?_
  refine w_getf (a := 13) (v := vR 14) d93_22 f93_11 rfl rfl (congrArg vR (rf_13_0 hR)) ?_
  refine w_iload_n d93_25 rfl ?_
  refine w_aaldE (a := 14) (b := (15 + l3.toNat)) d93_26 rfl rfl (by decide) h3 (vrow_14 (i := l3) hR h3) ?_
  refine w_iload_n d93_27 rfl ?_
  refine w_laload (a := (15 + l3.toNat)) d93_28 rfl (vrs_14 (i := l3) h3) h4 ?_
  refine w_lmul d93_29 ?_
  refine w_lstoreE (ls' := [vR 13, vI l1, vI l2, vI l3, vI l4, vL (w64 ((M ((15 + l4.toNat)) l1.toNat) * (M ((15 + l3.toNat)) l2.toNat))), vN, w7, vN]) d93_30 (Nat.le_of_ble_eq_true rfl) rfl ?_
  refine w_aload_n d93_32 rfl ?_
  refine w_getf (a := 13) (v := vR 14) d93_33 f93_11 rfl rfl (congrArg vR (rf_13_0 hR)) ?_
  refine w_iload d93_36 rfl ?_
  refine w_aaldE (a := 14) (b := (15 + l4.toNat)) d93_38 rfl rfl (by decide) h5 (vrow_14 (i := l4) hR h5) ?_
  refine w_iload_n d93_39 rfl ?_
  refine w_laload (a := (15 + l4.toNat)) d93_40 rfl (vrs_14 (i := l4) h5) h6 ?_
  refine w_aload_n d93_41 rfl ?_
  refine w_getf (a := 13) (v := vR 14) d93_42 f93_11 rfl rfl (congrArg vR (rf_13_0 hR)) ?_
  refine w_iload_n d93_45 rfl ?_
  refine w_aaldE (a := 14) (b := (15 + l3.toNat)) d93_46 rfl rfl (by decide) h7 (vrow_14 (i := l3) hR h7) ?_
  refine w_iload_n d93_47 rfl ?_
  refine w_laload (a := (15 + l3.toNat)) d93_48 rfl (vrs_14 (i := l3) h7) h8 ?_
  refine w_lmul d93_49 ?_
  refine w_lstoreE (ls' := [vR 13, vI l1, vI l2, vI l3, vI l4, vL (w64 ((M ((15 + l4.toNat)) l1.toNat) * (M ((15 + l3.toNat)) l2.toNat))), vN, vL (w64 ((M ((15 + l4.toNat)) l2.toNat) * (M ((15 + l3.toNat)) l1.toNat))), vN]) d93_50 (Nat.le_of_ble_eq_true rfl) rfl ?_
  refine w_lload d93_52 rfl ?_
  refine w_lload d93_54 rfl ?_
  exact w_lc_eq d93_56 d93_57 rfl (fun h => k1 h) (fun h => k2 h)
theorem B_So_growsLess_60 {X : vX} {d : Nat} {M : vM} {Q : Option vV → vM → Prop} {l1 l2 l3 l4 l5 l7 : Int}  (k1 : l7 ≤ l5 → vw X d 93 72 [vR 13, vI l1, vI l2, vI l3, vI l4, vL l5, vN, vL l7, vN] [] M Q) (k2 : l5 < l7 → vw X d 93 68 [vR 13, vI l1, vI l2, vI l3, vI l4, vL l5, vN, vL l7, vN] [] M Q) : vw X d 93 60 [vR 13, vI l1, vI l2, vI l3, vI l4, vL l5, vN, vL l7, vN] [] M Q := by
  refine w_lload d93_60 rfl ?_
  refine w_lload d93_62 rfl ?_
  exact w_lc_ge d93_64 d93_65 rfl (fun h => k1 h) (fun h => k2 h)
theorem B_So_growsLess_68 {X : vX} {d : Nat} {M : vM} {Q : Option vV → vM → Prop} {l1 l2 l3 l4 l5 l7 : Int}  (k : Q (some (vI 1)) M) : vw X d 93 68 [vR 13, vI l1, vI l2, vI l3, vI l4, vL l5, vN, vL l7, vN] [] M Q := by
  refine w_ic (v := 1) d93_68 rfl ?_
  refine w_goto (tgt := 73) d93_69 rfl ?_
  exact w_zret d93_73 r93 (by decide) ⟨_, rfl, k⟩
theorem B_So_growsLess_72 {X : vX} {d : Nat} {M : vM} {Q : Option vV → vM → Prop} {l1 l2 l3 l4 l5 l7 : Int}  (k : Q (some (vI 0)) M) : vw X d 93 72 [vR 13, vI l1, vI l2, vI l3, vI l4, vL l5, vN, vL l7, vN] [] M Q := by
  refine w_ic (v := 0) d93_72 rfl ?_
  exact w_zret d93_73 r93 (by decide) ⟨_, rfl, k⟩
theorem B_So_growsLess_74 {X : vX} {d : Nat} {M : vM} {Q : Option vV → vM → Prop} {l1 l2 l3 l4 l5 l7 : Int}  (k : vw X d 93 3 [vR 13, vI l1, vI l2, vI l3, vI (w32 (l4 + 1)), vL l5, vN, vL l7, vN] [] M Q) : vw X d 93 74 [vR 13, vI l1, vI l2, vI l3, vI l4, vL l5, vN, vL l7, vN] [] M Q := by
  refine w_iincE (ls' := [vR 13, vI l1, vI l2, vI l3, vI (w32 (l4 + 1)), vL l5, vN, vL l7, vN]) d93_74 rfl rfl ?_
  refine w_goto (tgt := 3) d93_77 rfl ?_
  exact k
theorem B_So_growsLess_80 {X : vX} {d : Nat} {M : vM} {Q : Option vV → vM → Prop} {l1 l2 l3 l4 : Int} {w5 w7 : vV}  (k : Q (some (vI 0)) M) : vw X d 93 80 [vR 13, vI l1, vI l2, vI l3, vI l4, w5, vN, w7, vN] [] M Q := by
  refine w_ic (v := 0) d93_80 rfl ?_
  exact w_zret d93_81 r93 (by decide) ⟨_, rfl, k⟩
theorem E_So_growsLess {X : vX} {d : Nat} {M : vM} {Q : Option vV → vM → Prop} {l1 l2 l3 : Int} (k : vw X d 93 0 [vR 13, vI l1, vI l2, vI l3, vN, vN, vN, vN, vN] [] M Q) : cq X (d + 1) 93 [vR 13, vI l1, vI l2, vI l3] M Q := wc_in (Nat.le_of_ble_eq_true rfl) (Nat.le_of_ble_eq_true rfl) k
theorem cd94 : vm_cd 94 = cX7_exchange := rfl
theorem d94_0 : decode (vm_cd 94) 0 = .ok (.aload_n 0, 1) := (congrArg (fun b => decode b 0) cd94).trans (by decide +kernel)
theorem d94_1 : decode (vm_cd 94) 1 = .ok (.getfield 11, 3) := (congrArg (fun b => decode b 1) cd94).trans (by decide +kernel)
theorem d94_4 : decode (vm_cd 94) 4 = .ok (.iload_n 1, 1) := (congrArg (fun b => decode b 4) cd94).trans (by decide +kernel)
theorem d94_5 : decode (vm_cd 94) 5 = .ok (.aaload, 1) := (congrArg (fun b => decode b 5) cd94).trans (by decide +kernel)
theorem d94_6 : decode (vm_cd 94) 6 = .ok (.iload_n 2, 1) := (congrArg (fun b => decode b 6) cd94).trans (by decide +kernel)
theorem d94_7 : decode (vm_cd 94) 7 = .ok (.laload, 1) := (congrArg (fun b => decode b 7) cd94).trans (by decide +kernel)
theorem d94_8 : decode (vm_cd 94) 8 = .ok (.lstore_n 3, 1) := (congrArg (fun b => decode b 8) cd94).trans (by decide +kernel)
theorem d94_9 : decode (vm_cd 94) 9 = .ok (.aload_n 0, 1) := (congrArg (fun b => decode b 9) cd94).trans (by decide +kernel)
theorem d94_10 : decode (vm_cd 94) 10 = .ok (.getfield 14, 3) := (congrArg (fun b => decode b 10) cd94).trans (by decide +kernel)
theorem d94_13 : decode (vm_cd 94) 13 = .ok (.lconst 0, 1) := (congrArg (fun b => decode b 13) cd94).trans (by decide +kernel)
theorem d94_14 : decode (vm_cd 94) 14 = .ok (.lcmp, 1) := (congrArg (fun b => decode b 14) cd94).trans (by decide +kernel)
theorem d94_15 : decode (vm_cd 94) 15 = .ok (.ifCond .le 9, 3) := (congrArg (fun b => decode b 15) cd94).trans (by decide +kernel)
theorem d94_18 : decode (vm_cd 94) 18 = .ok (.lload_n 3, 1) := (congrArg (fun b => decode b 18) cd94).trans (by decide +kernel)
theorem d94_19 : decode (vm_cd 94) 19 = .ok (.lconst 0, 1) := (congrArg (fun b => decode b 19) cd94).trans (by decide +kernel)
theorem d94_20 : decode (vm_cd 94) 20 = .ok (.lcmp, 1) := (congrArg (fun b => decode b 20) cd94).trans (by decide +kernel)
theorem d94_21 : decode (vm_cd 94) 21 = .ok (.ifCond .gt 4, 3) := (congrArg (fun b => decode b 21) cd94).trans (by decide +kernel)
theorem d94_24 : decode (vm_cd 94) 24 = .ok (.return_, 1) := (congrArg (fun b => decode b 24) cd94).trans (by decide +kernel)
theorem d94_25 : decode (vm_cd 94) 25 = .ok (.iconst 0, 1) := (congrArg (fun b => decode b 25) cd94).trans (by decide +kernel)
theorem d94_26 : decode (vm_cd 94) 26 = .ok (.istore 5, 2) := (congrArg (fun b => decode b 26) cd94).trans (by decide +kernel)
theorem d94_28 : decode (vm_cd 94) 28 = .ok (.iload 5, 2) := (congrArg (fun b => decode b 28) cd94).trans (by decide +kernel)
theorem d94_30 : decode (vm_cd 94) 30 = .ok (.aload_n 0, 1) := (congrArg (fun b => decode b 30) cd94).trans (by decide +kernel)
theorem d94_31 : decode (vm_cd 94) 31 = .ok (.getfield 31, 3) := (congrArg (fun b => decode b 31) cd94).trans (by decide +kernel)
theorem d94_34 : decode (vm_cd 94) 34 = .ok (.if_icmp .ge 90, 3) := (congrArg (fun b => decode b 34) cd94).trans (by decide +kernel)
theorem d94_37 : decode (vm_cd 94) 37 = .ok (.iload 5, 2) := (congrArg (fun b => decode b 37) cd94).trans (by decide +kernel)
theorem d94_39 : decode (vm_cd 94) 39 = .ok (.iload_n 1, 1) := (congrArg (fun b => decode b 39) cd94).trans (by decide +kernel)
theorem d94_40 : decode (vm_cd 94) 40 = .ok (.if_icmp .eq 78, 3) := (congrArg (fun b => decode b 40) cd94).trans (by decide +kernel)
theorem d94_43 : decode (vm_cd 94) 43 = .ok (.aload_n 0, 1) := (congrArg (fun b => decode b 43) cd94).trans (by decide +kernel)
theorem d94_44 : decode (vm_cd 94) 44 = .ok (.getfield 11, 3) := (congrArg (fun b => decode b 44) cd94).trans (by decide +kernel)
theorem d94_47 : decode (vm_cd 94) 47 = .ok (.iload 5, 2) := (congrArg (fun b => decode b 47) cd94).trans (by decide +kernel)
theorem d94_49 : decode (vm_cd 94) 49 = .ok (.aaload, 1) := (congrArg (fun b => decode b 49) cd94).trans (by decide +kernel)
theorem d94_50 : decode (vm_cd 94) 50 = .ok (.iload_n 2, 1) := (congrArg (fun b => decode b 50) cd94).trans (by decide +kernel)
theorem d94_51 : decode (vm_cd 94) 51 = .ok (.laload, 1) := (congrArg (fun b => decode b 51) cd94).trans (by decide +kernel)
theorem d94_52 : decode (vm_cd 94) 52 = .ok (.lstore 6, 2) := (congrArg (fun b => decode b 52) cd94).trans (by decide +kernel)
theorem d94_54 : decode (vm_cd 94) 54 = .ok (.iconst 0, 1) := (congrArg (fun b => decode b 54) cd94).trans (by decide +kernel)
theorem d94_55 : decode (vm_cd 94) 55 = .ok (.istore 8, 2) := (congrArg (fun b => decode b 55) cd94).trans (by decide +kernel)
theorem d94_57 : decode (vm_cd 94) 57 = .ok (.iload 8, 2) := (congrArg (fun b => decode b 57) cd94).trans (by decide +kernel)
theorem d94_59 : decode (vm_cd 94) 59 = .ok (.aload_n 0, 1) := (congrArg (fun b => decode b 59) cd94).trans (by decide +kernel)
theorem d94_60 : decode (vm_cd 94) 60 = .ok (.getfield 27, 3) := (congrArg (fun b => decode b 60) cd94).trans (by decide +kernel)
theorem d94_63 : decode (vm_cd 94) 63 = .ok (.if_icmp .gt 55, 3) := (congrArg (fun b => decode b 63) cd94).trans (by decide +kernel)
theorem d94_66 : decode (vm_cd 94) 66 = .ok (.iload 8, 2) := (congrArg (fun b => decode b 66) cd94).trans (by decide +kernel)
theorem d94_68 : decode (vm_cd 94) 68 = .ok (.iload_n 2, 1) := (congrArg (fun b => decode b 68) cd94).trans (by decide +kernel)
theorem d94_69 : decode (vm_cd 94) 69 = .ok (.if_icmp .eq 43, 3) := (congrArg (fun b => decode b 69) cd94).trans (by decide +kernel)
theorem d94_72 : decode (vm_cd 94) 72 = .ok (.aload_n 0, 1) := (congrArg (fun b => decode b 72) cd94).trans (by decide +kernel)
theorem d94_73 : decode (vm_cd 94) 73 = .ok (.getfield 11, 3) := (congrArg (fun b => decode b 73) cd94).trans (by decide +kernel)
theorem d94_76 : decode (vm_cd 94) 76 = .ok (.iload 5, 2) := (congrArg (fun b => decode b 76) cd94).trans (by decide +kernel)
theorem d94_78 : decode (vm_cd 94) 78 = .ok (.aaload, 1) := (congrArg (fun b => decode b 78) cd94).trans (by decide +kernel)
theorem d94_79 : decode (vm_cd 94) 79 = .ok (.iload 8, 2) := (congrArg (fun b => decode b 79) cd94).trans (by decide +kernel)
theorem d94_81 : decode (vm_cd 94) 81 = .ok (.aload_n 0, 1) := (congrArg (fun b => decode b 81) cd94).trans (by decide +kernel)
theorem d94_82 : decode (vm_cd 94) 82 = .ok (.getfield 11, 3) := (congrArg (fun b => decode b 82) cd94).trans (by decide +kernel)
theorem d94_85 : decode (vm_cd 94) 85 = .ok (.iload 5, 2) := (congrArg (fun b => decode b 85) cd94).trans (by decide +kernel)
theorem d94_87 : decode (vm_cd 94) 87 = .ok (.aaload, 1) := (congrArg (fun b => decode b 87) cd94).trans (by decide +kernel)
theorem d94_88 : decode (vm_cd 94) 88 = .ok (.iload 8, 2) := (congrArg (fun b => decode b 88) cd94).trans (by decide +kernel)
theorem d94_90 : decode (vm_cd 94) 90 = .ok (.laload, 1) := (congrArg (fun b => decode b 90) cd94).trans (by decide +kernel)
theorem d94_91 : decode (vm_cd 94) 91 = .ok (.lload_n 3, 1) := (congrArg (fun b => decode b 91) cd94).trans (by decide +kernel)
theorem d94_92 : decode (vm_cd 94) 92 = .ok (.lmul, 1) := (congrArg (fun b => decode b 92) cd94).trans (by decide +kernel)
theorem d94_93 : decode (vm_cd 94) 93 = .ok (.lload 6, 2) := (congrArg (fun b => decode b 93) cd94).trans (by decide +kernel)
theorem d94_95 : decode (vm_cd 94) 95 = .ok (.aload_n 0, 1) := (congrArg (fun b => decode b 95) cd94).trans (by decide +kernel)
theorem d94_96 : decode (vm_cd 94) 96 = .ok (.getfield 11, 3) := (congrArg (fun b => decode b 96) cd94).trans (by decide +kernel)
theorem d94_99 : decode (vm_cd 94) 99 = .ok (.iload_n 1, 1) := (congrArg (fun b => decode b 99) cd94).trans (by decide +kernel)
theorem d94_100 : decode (vm_cd 94) 100 = .ok (.aaload, 1) := (congrArg (fun b => decode b 100) cd94).trans (by decide +kernel)
theorem d94_101 : decode (vm_cd 94) 101 = .ok (.iload 8, 2) := (congrArg (fun b => decode b 101) cd94).trans (by decide +kernel)
theorem d94_103 : decode (vm_cd 94) 103 = .ok (.laload, 1) := (congrArg (fun b => decode b 103) cd94).trans (by decide +kernel)
theorem d94_104 : decode (vm_cd 94) 104 = .ok (.lmul, 1) := (congrArg (fun b => decode b 104) cd94).trans (by decide +kernel)
theorem d94_105 : decode (vm_cd 94) 105 = .ok (.lsub, 1) := (congrArg (fun b => decode b 105) cd94).trans (by decide +kernel)
theorem d94_106 : decode (vm_cd 94) 106 = .ok (.aload_n 0, 1) := (congrArg (fun b => decode b 106) cd94).trans (by decide +kernel)
theorem d94_107 : decode (vm_cd 94) 107 = .ok (.getfield 14, 3) := (congrArg (fun b => decode b 107) cd94).trans (by decide +kernel)
theorem d94_110 : decode (vm_cd 94) 110 = .ok (.ldiv, 1) := (congrArg (fun b => decode b 110) cd94).trans (by decide +kernel)
theorem d94_111 : decode (vm_cd 94) 111 = .ok (.lastore, 1) := (congrArg (fun b => decode b 111) cd94).trans (by decide +kernel)
theorem d94_112 : decode (vm_cd 94) 112 = .ok (.iinc 8 1, 3) := (congrArg (fun b => decode b 112) cd94).trans (by decide +kernel)
theorem d94_115 : decode (vm_cd 94) 115 = .ok (.goto (-58), 3) := (congrArg (fun b => decode b 115) cd94).trans (by decide +kernel)
theorem d94_118 : decode (vm_cd 94) 118 = .ok (.iinc 5 1, 3) := (congrArg (fun b => decode b 118) cd94).trans (by decide +kernel)
theorem d94_121 : decode (vm_cd 94) 121 = .ok (.goto (-93), 3) := (congrArg (fun b => decode b 121) cd94).trans (by decide +kernel)
theorem d94_124 : decode (vm_cd 94) 124 = .ok (.iconst 0, 1) := (congrArg (fun b => decode b 124) cd94).trans (by decide +kernel)
theorem d94_125 : decode (vm_cd 94) 125 = .ok (.istore 5, 2) := (congrArg (fun b => decode b 125) cd94).trans (by decide +kernel)
theorem d94_127 : decode (vm_cd 94) 127 = .ok (.iload 5, 2) := (congrArg (fun b => decode b 127) cd94).trans (by decide +kernel)
theorem d94_129 : decode (vm_cd 94) 129 = .ok (.aload_n 0, 1) := (congrArg (fun b => decode b 129) cd94).trans (by decide +kernel)
theorem d94_130 : decode (vm_cd 94) 130 = .ok (.getfield 27, 3) := (congrArg (fun b => decode b 130) cd94).trans (by decide +kernel)
theorem d94_133 : decode (vm_cd 94) 133 = .ok (.if_icmp .gt 29, 3) := (congrArg (fun b => decode b 133) cd94).trans (by decide +kernel)
theorem d94_136 : decode (vm_cd 94) 136 = .ok (.aload_n 0, 1) := (congrArg (fun b => decode b 136) cd94).trans (by decide +kernel)
theorem d94_137 : decode (vm_cd 94) 137 = .ok (.getfield 11, 3) := (congrArg (fun b => decode b 137) cd94).trans (by decide +kernel)
theorem d94_140 : decode (vm_cd 94) 140 = .ok (.iload_n 1, 1) := (congrArg (fun b => decode b 140) cd94).trans (by decide +kernel)
theorem d94_141 : decode (vm_cd 94) 141 = .ok (.aaload, 1) := (congrArg (fun b => decode b 141) cd94).trans (by decide +kernel)
theorem d94_142 : decode (vm_cd 94) 142 = .ok (.iload 5, 2) := (congrArg (fun b => decode b 142) cd94).trans (by decide +kernel)
theorem d94_144 : decode (vm_cd 94) 144 = .ok (.iload 5, 2) := (congrArg (fun b => decode b 144) cd94).trans (by decide +kernel)
theorem d94_146 : decode (vm_cd 94) 146 = .ok (.iload_n 2, 1) := (congrArg (fun b => decode b 146) cd94).trans (by decide +kernel)
theorem d94_147 : decode (vm_cd 94) 147 = .ok (.if_icmp .ne 7, 3) := (congrArg (fun b => decode b 147) cd94).trans (by decide +kernel)
theorem d94_150 : decode (vm_cd 94) 150 = .ok (.lload_n 3, 1) := (congrArg (fun b => decode b 150) cd94).trans (by decide +kernel)
theorem d94_151 : decode (vm_cd 94) 151 = .ok (.goto 4, 3) := (congrArg (fun b => decode b 151) cd94).trans (by decide +kernel)
theorem d94_154 : decode (vm_cd 94) 154 = .ok (.lconst 0, 1) := (congrArg (fun b => decode b 154) cd94).trans (by decide +kernel)
theorem d94_155 : decode (vm_cd 94) 155 = .ok (.lastore, 1) := (congrArg (fun b => decode b 155) cd94).trans (by decide +kernel)
theorem d94_156 : decode (vm_cd 94) 156 = .ok (.iinc 5 1, 3) := (congrArg (fun b => decode b 156) cd94).trans (by decide +kernel)
theorem d94_159 : decode (vm_cd 94) 159 = .ok (.goto (-32), 3) := (congrArg (fun b => decode b 159) cd94).trans (by decide +kernel)
theorem d94_162 : decode (vm_cd 94) 162 = .ok (.aload_n 0, 1) := (congrArg (fun b => decode b 162) cd94).trans (by decide +kernel)
theorem d94_163 : decode (vm_cd 94) 163 = .ok (.lload_n 3, 1) := (congrArg (fun b => decode b 163) cd94).trans (by decide +kernel)
theorem d94_164 : decode (vm_cd 94) 164 = .ok (.putfield 14, 3) := (congrArg (fun b => decode b 164) cd94).trans (by decide +kernel)
theorem d94_167 : decode (vm_cd 94) 167 = .ok (.return_, 1) := (congrArg (fun b => decode b 167) cd94).trans (by decide +kernel)
theorem f94_11 : vm_fl.lookup (vm_own 94, 11) = some (6, 0, 64) := by decide +kernel
theorem f94_14 : vm_fl.lookup (vm_own 94, 14) = some (6, 3, 67) := by decide +kernel
theorem f94_27 : vm_fl.lookup (vm_own 94, 27) = some (6, 1, 65) := by decide +kernel
theorem f94_31 : vm_fl.lookup (vm_own 94, 31) = some (6, 2, 66) := by decide +kernel
theorem r94 : vm_rt 94 = none := by decide +kernel
theorem B_So_exchange_0 {X : vX} {d : Nat} {M : vM} {Q : Option vV → vM → Prop} {l1 l2 : Int} (hR : vRefs M) (h1 : 0 ≤ l1 ∧ l1 < (13 : Nat)) (h2 : 0 ≤ l2 ∧ l2 < (5 : Nat)) (k1 : (M 13 3) ≤ 0 → vw X d 94 24 [vR 13, vI l1, vI l2, vL (M ((15 + l1.toNat)) l2.toNat), vN, vN, vN, vN, vN] [] M Q) (k2 : 0 < (M 13 3) → vw X d 94 18 [vR 13, vI l1, vI l2, vL (M ((15 + l1.toNat)) l2.toNat), vN, vN, vN, vN, vN] [] M Q) : vw X d 94 0 [vR 13, vI l1, vI l2, vN, vN, vN, vN, vN, vN] [] M Q := by
  refine w_aload_n d94_0 rfl ?_
  refine w_getf (a := 13) (v := vR 14) d94_1 f94_11 rfl rfl (congrArg vR (rf_13_0 hR)) ?_
  refine w_iload_n d94_4 rfl ?_
  refine w_aaldE (a := 14) (b := (15 + l1.toNat)) d94_5 rfl rfl (by decide) h1 (vrow_14 (i := l1) hR h1) ?_
  refine w_iload_n d94_6 rfl ?_
  refine w_laload (a := (15 + l1.toNat)) d94_7 rfl (vrs_14 (i := l1) h1) h2 ?_
  refine w_lstore_nE (ls' := [vR 13, vI l1, vI l2, vL (M ((15 + l1.toNat)) l2.toNat), vN, vN, vN, vN, vN]) d94_8 (Nat.le_of_ble_eq_true rfl) rfl ?_
  refine w_aload_n d94_9 rfl ?_
  refine w_getf (a := 13) (v := vL (M 13 3)) d94_10 f94_14 rfl rfl rfl ?_
  refine w_lc (v := 0) d94_13 rfl ?_
  exact w_lc_le d94_14 d94_15 rfl (fun h => k1 h) (fun h => k2 h)
theorem B_So_exchange_18 {X : vX} {d : Nat} {M : vM} {Q : Option vV → vM → Prop} {l1 l2 l3 : Int}  (k1 : 0 < l3 → vw X d 94 25 [vR 13, vI l1, vI l2, vL l3, vN, vN, vN, vN, vN] [] M Q) (k2 : l3 ≤ 0 → vw X d 94 24 [vR 13, vI l1, vI l2, vL l3, vN, vN, vN, vN, vN] [] M Q) : vw X d 94 18 [vR 13, vI l1, vI l2, vL l3, vN, vN, vN, vN, vN] [] M Q := by
  refine w_lload_n d94_18 rfl ?_
  refine w_lc (v := 0) d94_19 rfl ?_
  exact w_lc_gt d94_20 d94_21 rfl (fun h => k1 h) (fun h => k2 h)
theorem B_So_exchange_24 {X : vX} {d : Nat} {M : vM} {Q : Option vV → vM → Prop} {l1 l2 l3 : Int}  (k : Q none M) : vw X d 94 24 [vR 13, vI l1, vI l2, vL l3, vN, vN, vN, vN, vN] [] M Q := by
  exact w_vret d94_24 r94 ⟨_, rfl, k⟩
theorem B_So_exchange_25 {X : vX} {d : Nat} {M : vM} {Q : Option vV → vM → Prop} {l1 l2 l3 : Int}  (k : vw X d 94 28 [vR 13, vI l1, vI l2, vL l3, vN, vI 0, vN, vN, vN] [] M Q) : vw X d 94 25 [vR 13, vI l1, vI l2, vL l3, vN, vN, vN, vN, vN] [] M Q := by
  refine w_ic (v := 0) d94_25 rfl ?_
  refine w_istoreE (ls' := [vR 13, vI l1, vI l2, vL l3, vN, vI 0, vN, vN, vN]) d94_26 (Nat.le_of_ble_eq_true rfl) rfl ?_
  exact k
theorem B_So_exchange_28 {X : vX} {d : Nat} {M : vM} {Q : Option vV → vM → Prop} {l1 l2 l3 l5 : Int} {w6 w8 : vV}  (k1 : (M 13 2) ≤ l5 → vw X d 94 124 [vR 13, vI l1, vI l2, vL l3, vN, vI l5, w6, vN, w8] [] M Q) (k2 : l5 < (M 13 2) → vw X d 94 37 [vR 13, vI l1, vI l2, vL l3, vN, vI l5, w6, vN, w8] [] M Q) : vw X d 94 28 [vR 13, vI l1, vI l2, vL l3, vN, vI l5, w6, vN, w8] [] M Q := by
  refine w_iload d94_28 rfl ?_
  refine w_aload_n d94_30 rfl ?_
  refine w_getf (a := 13) (v := vI (M 13 2)) d94_31 f94_31 rfl rfl rfl ?_
  exact w_icmp_ge d94_34 rfl (fun h => k1 h) (fun h => k2 h)
theorem B_So_exchange_37 {X : vX} {d : Nat} {M : vM} {Q : Option vV → vM → Prop} {l1 l2 l3 l5 : Int} {w6 w8 : vV}  (k1 : l5 = l1 → vw X d 94 118 [vR 13, vI l1, vI l2, vL l3, vN, vI l5, w6, vN, w8] [] M Q) (k2 : ¬ l5 = l1 → vw X d 94 43 [vR 13, vI l1, vI l2, vL l3, vN, vI l5, w6, vN, w8] [] M Q) : vw X d 94 37 [vR 13, vI l1, vI l2, vL l3, vN, vI l5, w6, vN, w8] [] M Q := by
  refine w_iload d94_37 rfl ?_
  refine w_iload_n d94_39 rfl ?_
  exact w_icmp_eq d94_40 rfl (fun h => k1 h) (fun h => k2 h)
theorem B_So_exchange_43 {X : vX} {d : Nat} {M : vM} {Q : Option vV → vM → Prop} {l1 l2 l3 l5 : Int} {w6 w8 : vV} (hR : vRefs M) (h1 : 0 ≤ l5 ∧ l5 < (13 : Nat)) (h2 : 0 ≤ l2 ∧ l2 < (5 : Nat)) (k : vw X d 94 57 [vR 13, vI l1, vI l2, vL l3, vN, vI l5, vL (M ((15 + l5.toNat)) l2.toNat), vN, vI 0] [] M Q) : vw X d 94 43 [vR 13, vI l1, vI l2, vL l3, vN, vI l5, w6, vN, w8] [] M Q := by
  refine w_aload_n d94_43 rfl ?_
  refine w_getf (a := 13) (v := vR 14) d94_44 f94_11 rfl rfl (congrArg vR (rf_13_0 hR)) ?_
  refine w_iload d94_47 rfl ?_
  refine w_aaldE (a := 14) (b := (15 + l5.toNat)) d94_49 rfl rfl (by decide) h1 (vrow_14 (i := l5) hR h1) ?_
  refine w_iload_n d94_50 rfl ?_
  refine w_laload (a := (15 + l5.toNat)) d94_51 rfl (vrs_14 (i := l5) h1) h2 ?_
  refine w_lstoreE (ls' := [vR 13, vI l1, vI l2, vL l3, vN, vI l5, vL (M ((15 + l5.toNat)) l2.toNat), vN, w8]) d94_52 (Nat.le_of_ble_eq_true rfl) rfl ?_
  refine w_ic (v := 0) d94_54 rfl ?_
  refine w_istoreE (ls' := [vR 13, vI l1, vI l2, vL l3, vN, vI l5, vL (M ((15 + l5.toNat)) l2.toNat), vN, vI 0]) d94_55 (Nat.le_of_ble_eq_true rfl) rfl ?_
  exact k
theorem B_So_exchange_57 {X : vX} {d : Nat} {M : vM} {Q : Option vV → vM → Prop} {l1 l2 l3 l5 l6 l8 : Int}  (k1 : (M 13 1) < l8 → vw X d 94 118 [vR 13, vI l1, vI l2, vL l3, vN, vI l5, vL l6, vN, vI l8] [] M Q) (k2 : l8 ≤ (M 13 1) → vw X d 94 66 [vR 13, vI l1, vI l2, vL l3, vN, vI l5, vL l6, vN, vI l8] [] M Q) : vw X d 94 57 [vR 13, vI l1, vI l2, vL l3, vN, vI l5, vL l6, vN, vI l8] [] M Q := by
  refine w_iload d94_57 rfl ?_
  refine w_aload_n d94_59 rfl ?_
  refine w_getf (a := 13) (v := vI (M 13 1)) d94_60 f94_27 rfl rfl rfl ?_
  exact w_icmp_gt d94_63 rfl (fun h => k1 h) (fun h => k2 h)
theorem B_So_exchange_66 {X : vX} {d : Nat} {M : vM} {Q : Option vV → vM → Prop} {l1 l2 l3 l5 l6 l8 : Int}  (k1 : l8 = l2 → vw X d 94 112 [vR 13, vI l1, vI l2, vL l3, vN, vI l5, vL l6, vN, vI l8] [] M Q) (k2 : ¬ l8 = l2 → vw X d 94 72 [vR 13, vI l1, vI l2, vL l3, vN, vI l5, vL l6, vN, vI l8] [] M Q) : vw X d 94 66 [vR 13, vI l1, vI l2, vL l3, vN, vI l5, vL l6, vN, vI l8] [] M Q := by
  refine w_iload d94_66 rfl ?_
  refine w_iload_n d94_68 rfl ?_
  exact w_icmp_eq d94_69 rfl (fun h => k1 h) (fun h => k2 h)
theorem B_So_exchange_72 {X : vX} {d : Nat} {M : vM} {Q : Option vV → vM → Prop} {l1 l2 l3 l5 l6 l8 : Int} (hR : vRefs M) (h1 : 0 ≤ l5 ∧ l5 < (13 : Nat)) (h2 : 0 ≤ l5 ∧ l5 < (13 : Nat)) (h3 : 0 ≤ l8 ∧ l8 < (5 : Nat)) (h4 : 0 ≤ l1 ∧ l1 < (13 : Nat)) (h5 : 0 ≤ l8 ∧ l8 < (5 : Nat)) (h6 : (M 13 3) ≠ 0) (h7 : 0 ≤ l8 ∧ l8 < (5 : Nat)) (k : vRefs (vm_up M ((15 + l5.toNat)) l8.toNat (j_ldiv (w64 ((w64 ((M ((15 + l5.toNat)) l8.toNat) * l3)) - (w64 (l6 * (M ((15 + l1.toNat)) l8.toNat))))) (M 13 3))) → vw X d 94 57 [vR 13, vI l1, vI l2, vL l3, vN, vI l5, vL l6, vN, vI (w32 (l8 + 1))] [] (vm_up M ((15 + l5.toNat)) l8.toNat (j_ldiv (w64 ((w64 ((M ((15 + l5.toNat)) l8.toNat) * l3)) - (w64 (l6 * (M ((15 + l1.toNat)) l8.toNat))))) (M 13 3))) Q) : vw X d 94 72 [vR 13, vI l1, vI l2, vL l3, vN, vI l5, vL l6, vN, vI l8] [] M Q := by
  refine w_aload_n d94_72 rfl ?_
  refine w_getf (a := 13) (v := vR 14) d94_73 f94_11 rfl rfl (congrArg vR (rf_13_0 hR)) ?_
  refine w_iload d94_76 rfl ?_
  refine w_aaldE (a := 14) (b := (15 + l5.toNat)) d94_78 rfl rfl (by decide) h1 (vrow_14 (i := l5) hR h1) ?_
  refine w_iload d94_79 rfl ?_
  refine w_aload_n d94_81 rfl ?_
  refine w_getf (a := 13) (v := vR 14) d94_82 f94_11 rfl rfl (congrArg vR (rf_13_0 hR)) ?_
  refine w_iload d94_85 rfl ?_
  refine w_aaldE (a := 14) (b := (15 + l5.toNat)) d94_87 rfl rfl (by decide) h2 (vrow_14 (i := l5) hR h2) ?_
  refine w_iload d94_88 rfl ?_
  refine w_laload (a := (15 + l5.toNat)) d94_90 rfl (vrs_14 (i := l5) h2) h3 ?_
  refine w_lload_n d94_91 rfl ?_
  refine w_lmul d94_92 ?_
  refine w_lload d94_93 rfl ?_
  refine w_aload_n d94_95 rfl ?_
  refine w_getf (a := 13) (v := vR 14) d94_96 f94_11 rfl rfl (congrArg vR (rf_13_0 hR)) ?_
  refine w_iload_n d94_99 rfl ?_
  refine w_aaldE (a := 14) (b := (15 + l1.toNat)) d94_100 rfl rfl (by decide) h4 (vrow_14 (i := l1) hR h4) ?_
  refine w_iload d94_101 rfl ?_
  refine w_laload (a := (15 + l1.toNat)) d94_103 rfl (vrs_14 (i := l1) h4) h5 ?_
  refine w_lmul d94_104 ?_
  refine w_lsub d94_105 ?_
  refine w_aload_n d94_106 rfl ?_
  refine w_getf (a := 13) (v := vL (M 13 3)) d94_107 f94_14 rfl rfl rfl ?_
  refine w_ldiv d94_110 h6 ?_
  refine w_last (a := (15 + l5.toNat)) d94_111 rfl (vrs_14 (i := l5) h1) h7 ?_
  refine w_iincE (ls' := [vR 13, vI l1, vI l2, vL l3, vN, vI l5, vL l6, vN, vI (w32 (l8 + 1))]) d94_112 rfl rfl ?_
  refine w_goto (tgt := 57) d94_115 rfl ?_
  exact k (vRefs_free hR (vfr_14 (i := l5) h1))
theorem B_So_exchange_112 {X : vX} {d : Nat} {M : vM} {Q : Option vV → vM → Prop} {l1 l2 l3 l5 l6 l8 : Int}  (k : vw X d 94 57 [vR 13, vI l1, vI l2, vL l3, vN, vI l5, vL l6, vN, vI (w32 (l8 + 1))] [] M Q) : vw X d 94 112 [vR 13, vI l1, vI l2, vL l3, vN, vI l5, vL l6, vN, vI l8] [] M Q := by
  refine w_iincE (ls' := [vR 13, vI l1, vI l2, vL l3, vN, vI l5, vL l6, vN, vI (w32 (l8 + 1))]) d94_112 rfl rfl ?_
  refine w_goto (tgt := 57) d94_115 rfl ?_
  exact k
theorem B_So_exchange_118 {X : vX} {d : Nat} {M : vM} {Q : Option vV → vM → Prop} {l1 l2 l3 l5 : Int} {w6 w8 : vV}  (k : vw X d 94 28 [vR 13, vI l1, vI l2, vL l3, vN, vI (w32 (l5 + 1)), w6, vN, w8] [] M Q) : vw X d 94 118 [vR 13, vI l1, vI l2, vL l3, vN, vI l5, w6, vN, w8] [] M Q := by
  refine w_iincE (ls' := [vR 13, vI l1, vI l2, vL l3, vN, vI (w32 (l5 + 1)), w6, vN, w8]) d94_118 rfl rfl ?_
  refine w_goto (tgt := 28) d94_121 rfl ?_
  exact k
theorem B_So_exchange_124 {X : vX} {d : Nat} {M : vM} {Q : Option vV → vM → Prop} {l1 l2 l3 l5 : Int} {w6 w8 : vV}  (k : vw X d 94 127 [vR 13, vI l1, vI l2, vL l3, vN, vI 0, w6, vN, w8] [] M Q) : vw X d 94 124 [vR 13, vI l1, vI l2, vL l3, vN, vI l5, w6, vN, w8] [] M Q := by
  refine w_ic (v := 0) d94_124 rfl ?_
  refine w_istoreE (ls' := [vR 13, vI l1, vI l2, vL l3, vN, vI 0, w6, vN, w8]) d94_125 (Nat.le_of_ble_eq_true rfl) rfl ?_
  exact k
theorem B_So_exchange_127 {X : vX} {d : Nat} {M : vM} {Q : Option vV → vM → Prop} {l1 l2 l3 l5 : Int} {w6 w8 : vV}  (k1 : (M 13 1) < l5 → vw X d 94 162 [vR 13, vI l1, vI l2, vL l3, vN, vI l5, w6, vN, w8] [] M Q) (k2 : l5 ≤ (M 13 1) → vw X d 94 136 [vR 13, vI l1, vI l2, vL l3, vN, vI l5, w6, vN, w8] [] M Q) : vw X d 94 127 [vR 13, vI l1, vI l2, vL l3, vN, vI l5, w6, vN, w8] [] M Q := by
  refine w_iload d94_127 rfl ?_
  refine w_aload_n d94_129 rfl ?_
  refine w_getf (a := 13) (v := vI (M 13 1)) d94_130 f94_27 rfl rfl rfl ?_
  exact w_icmp_gt d94_133 rfl (fun h => k1 h) (fun h => k2 h)
theorem B_So_exchange_136 {X : vX} {d : Nat} {M : vM} {Q : Option vV → vM → Prop} {l1 l2 l3 l5 : Int} {w6 w8 : vV} (hR : vRefs M) (h1 : 0 ≤ l1 ∧ l1 < (13 : Nat)) (k1 : ¬ l5 = l2 → vw X d 94 154 [vR 13, vI l1, vI l2, vL l3, vN, vI l5, w6, vN, w8] [vI l5, vR ((15 + l1.toNat : Nat) : Int)] M Q) (k2 : l5 = l2 → vw X d 94 150 [vR 13, vI l1, vI l2, vL l3, vN, vI l5, w6, vN, w8] [vI l5, vR ((15 + l1.toNat : Nat) : Int)] M Q) : vw X d 94 136 [vR 13, vI l1, vI l2, vL l3, vN, vI l5, w6, vN, w8] [] M Q := by
  refine w_aload_n d94_136 rfl ?_
  refine w_getf (a := 13) (v := vR 14) d94_137 f94_11 rfl rfl (congrArg vR (rf_13_0 hR)) ?_
  refine w_iload_n d94_140 rfl ?_
  refine w_aaldE (a := 14) (b := (15 + l1.toNat)) d94_141 rfl rfl (by decide) h1 (vrow_14 (i := l1) hR h1) ?_
  refine w_iload d94_142 rfl ?_
  refine w_iload d94_144 rfl ?_
  refine w_iload_n d94_146 rfl ?_
  exact w_icmp_ne d94_147 rfl (fun h => k1 h) (fun h => k2 h)
theorem B_So_exchange_150 {X : vX} {d : Nat} {M : vM} {Q : Option vV → vM → Prop} {l1 l2 l3 l5 s1 : Int} {w6 w8 : vV} {qs0 : Nat} (hqs0 : vS0[qs0]? = some (.inr (1, 5))) (hfqs0 : vFree qs0) (hR : vRefs M) (h1 : 0 ≤ s1 ∧ s1 < (5 : Nat)) (k : vRefs (vm_up M qs0 s1.toNat l3) → vw X d 94 127 [vR 13, vI l1, vI l2, vL l3, vN, vI (w32 (l5 + 1)), w6, vN, w8] [] (vm_up M qs0 s1.toNat l3) Q) : vw X d 94 150 [vR 13, vI l1, vI l2, vL l3, vN, vI l5, w6, vN, w8] [vI s1, vR (qs0 : Int)] M Q := by
  refine w_lload_n d94_150 rfl ?_
  refine w_goto (tgt := 155) d94_151 rfl ?_
  refine w_last (a := qs0) d94_155 rfl hqs0 h1 ?_
  refine w_iincE (ls' := [vR 13, vI l1, vI l2, vL l3, vN, vI (w32 (l5 + 1)), w6, vN, w8]) d94_156 rfl rfl ?_
  refine w_goto (tgt := 127) d94_159 rfl ?_
  exact k (vRefs_free hR hfqs0)
theorem B_So_exchange_154 {X : vX} {d : Nat} {M : vM} {Q : Option vV → vM → Prop} {l1 l2 l3 l5 s1 : Int} {w6 w8 : vV} {qs0 : Nat} (hqs0 : vS0[qs0]? = some (.inr (1, 5))) (hfqs0 : vFree qs0) (hR : vRefs M) (h1 : 0 ≤ s1 ∧ s1 < (5 : Nat)) (k : vRefs (vm_up M qs0 s1.toNat 0) → vw X d 94 127 [vR 13, vI l1, vI l2, vL l3, vN, vI (w32 (l5 + 1)), w6, vN, w8] [] (vm_up M qs0 s1.toNat 0) Q) : vw X d 94 154 [vR 13, vI l1, vI l2, vL l3, vN, vI l5, w6, vN, w8] [vI s1, vR (qs0 : Int)] M Q := by
  refine w_lc (v := 0) d94_154 rfl ?_
  refine w_last (a := qs0) d94_155 rfl hqs0 h1 ?_
  refine w_iincE (ls' := [vR 13, vI l1, vI l2, vL l3, vN, vI (w32 (l5 + 1)), w6, vN, w8]) d94_156 rfl rfl ?_
  refine w_goto (tgt := 127) d94_159 rfl ?_
  exact k (vRefs_free hR hfqs0)
theorem B_So_exchange_162 {X : vX} {d : Nat} {M : vM} {Q : Option vV → vM → Prop} {l1 l2 l3 l5 : Int} {w6 w8 : vV} (hR : vRefs M)  (k : vRefs (vm_up M 13 3 l3) → Q none (vm_up M 13 3 l3)) : vw X d 94 162 [vR 13, vI l1, vI l2, vL l3, vN, vI l5, w6, vN, w8] [] M Q := by
  refine w_aload_n d94_162 rfl ?_
  refine w_lload_n d94_163 rfl ?_
  refine w_putf (a := 13) (x := l3) d94_164 f94_14 rfl rfl rfl (Or.inl rfl) ?_
  exact w_vret d94_167 r94 ⟨_, rfl, k (vRefs_up hR ⟨by decide, by decide⟩)⟩
theorem E_So_exchange {X : vX} {d : Nat} {M : vM} {Q : Option vV → vM → Prop} {l1 l2 : Int} (k : vw X d 94 0 [vR 13, vI l1, vI l2, vN, vN, vN, vN, vN, vN] [] M Q) : cq X (d + 1) 94 [vR 13, vI l1, vI l2] M Q := wc_in (Nat.le_of_ble_eq_true rfl) (Nat.le_of_ble_eq_true rfl) k
theorem cd95 : vm_cd 95 = cX7_goal := rfl
theorem d95_0 : decode (vm_cd 95) 0 = .ok (.aload_n 0, 1) := (congrArg (fun b => decode b 0) cd95).trans (by decide +kernel)
theorem d95_1 : decode (vm_cd 95) 1 = .ok (.getfield 11, 3) := (congrArg (fun b => decode b 1) cd95).trans (by decide +kernel)
theorem d95_4 : decode (vm_cd 95) 4 = .ok (.iconst 0, 1) := (congrArg (fun b => decode b 4) cd95).trans (by decide +kernel)
theorem d95_5 : decode (vm_cd 95) 5 = .ok (.aaload, 1) := (congrArg (fun b => decode b 5) cd95).trans (by decide +kernel)
theorem d95_6 : decode (vm_cd 95) 6 = .ok (.iconst 0, 1) := (congrArg (fun b => decode b 6) cd95).trans (by decide +kernel)
theorem d95_7 : decode (vm_cd 95) 7 = .ok (.laload, 1) := (congrArg (fun b => decode b 7) cd95).trans (by decide +kernel)
theorem d95_8 : decode (vm_cd 95) 8 = .ok (.lreturn, 1) := (congrArg (fun b => decode b 8) cd95).trans (by decide +kernel)
theorem f95_11 : vm_fl.lookup (vm_own 95, 11) = some (6, 0, 64) := by decide +kernel
theorem r95 : vm_rt 95 = (some .long) := by decide +kernel
theorem B_So_goal_0 {X : vX} {d : Nat} {M : vM} {Q : Option vV → vM → Prop} (hR : vRefs M)  (k : Q (some (vL (M ((15 + 0)) 0))) M) : vw X d 95 0 [vR 13] [] M Q := by
  refine w_aload_n d95_0 rfl ?_
  refine w_getf (a := 13) (v := vR 14) d95_1 f95_11 rfl rfl (congrArg vR (rf_13_0 hR)) ?_
  refine w_ic (v := 0) d95_4 rfl ?_
  refine w_aaldE (a := 14) (b := (15 + 0)) d95_5 rfl rfl (by decide) ⟨by decide, by decide⟩ (vrow_14 (i := 0) hR ⟨by decide, by decide⟩) ?_
  refine w_ic (v := 0) d95_6 rfl ?_
  refine w_laload (a := (15 + 0)) d95_7 rfl (vrs_14 (i := 0) ⟨by decide, by decide⟩) ⟨by decide, by decide⟩ ?_
  exact w_lret d95_8 r95 ⟨_, rfl, k⟩
theorem E_So_goal {X : vX} {d : Nat} {M : vM} {Q : Option vV → vM → Prop} (k : vw X d 95 0 [vR 13] [] M Q) : cq X (d + 1) 95 [vR 13] M Q := wc_in (Nat.le_of_ble_eq_true rfl) (Nat.le_of_ble_eq_true rfl) k
theorem cd96 : vm_cd 96 = cX7_unknown := rfl
theorem d96_0 : decode (vm_cd 96) 0 = .ok (.iload_n 1, 1) := (congrArg (fun b => decode b 0) cd96).trans (by decide +kernel)
theorem d96_1 : decode (vm_cd 96) 1 = .ok (.iconst 0, 1) := (congrArg (fun b => decode b 1) cd96).trans (by decide +kernel)
theorem d96_2 : decode (vm_cd 96) 2 = .ok (.aload_n 0, 1) := (congrArg (fun b => decode b 2) cd96).trans (by decide +kernel)
theorem d96_3 : decode (vm_cd 96) 3 = .ok (.getfield 27, 3) := (congrArg (fun b => decode b 3) cd96).trans (by decide +kernel)
theorem d96_6 : decode (vm_cd 96) 6 = .ok (.iconst 1, 1) := (congrArg (fun b => decode b 6) cd96).trans (by decide +kernel)
theorem d96_7 : decode (vm_cd 96) 7 = .ok (.isub, 1) := (congrArg (fun b => decode b 7) cd96).trans (by decide +kernel)
theorem d96_8 : decode (vm_cd 96) 8 = .ok (.invokestatic 37, 3) := (congrArg (fun b => decode b 8) cd96).trans (by decide +kernel)
theorem d96_11 : decode (vm_cd 96) 11 = .ok (.ifCond .eq 16, 3) := (congrArg (fun b => decode b 11) cd96).trans (by decide +kernel)
theorem d96_14 : decode (vm_cd 96) 14 = .ok (.aload_n 0, 1) := (congrArg (fun b => decode b 14) cd96).trans (by decide +kernel)
theorem d96_15 : decode (vm_cd 96) 15 = .ok (.getfield 11, 3) := (congrArg (fun b => decode b 15) cd96).trans (by decide +kernel)
theorem d96_18 : decode (vm_cd 96) 18 = .ok (.iload_n 1, 1) := (congrArg (fun b => decode b 18) cd96).trans (by decide +kernel)
theorem d96_19 : decode (vm_cd 96) 19 = .ok (.iconst 1, 1) := (congrArg (fun b => decode b 19) cd96).trans (by decide +kernel)
theorem d96_20 : decode (vm_cd 96) 20 = .ok (.iadd, 1) := (congrArg (fun b => decode b 20) cd96).trans (by decide +kernel)
theorem d96_21 : decode (vm_cd 96) 21 = .ok (.aaload, 1) := (congrArg (fun b => decode b 21) cd96).trans (by decide +kernel)
theorem d96_22 : decode (vm_cd 96) 22 = .ok (.iconst 0, 1) := (congrArg (fun b => decode b 22) cd96).trans (by decide +kernel)
theorem d96_23 : decode (vm_cd 96) 23 = .ok (.laload, 1) := (congrArg (fun b => decode b 23) cd96).trans (by decide +kernel)
theorem d96_24 : decode (vm_cd 96) 24 = .ok (.goto 4, 3) := (congrArg (fun b => decode b 24) cd96).trans (by decide +kernel)
theorem d96_27 : decode (vm_cd 96) 27 = .ok (.lconst 0, 1) := (congrArg (fun b => decode b 27) cd96).trans (by decide +kernel)
theorem d96_28 : decode (vm_cd 96) 28 = .ok (.lreturn, 1) := (congrArg (fun b => decode b 28) cd96).trans (by decide +kernel)
theorem f96_11 : vm_fl.lookup (vm_own 96, 11) = some (6, 0, 64) := by decide +kernel
theorem f96_27 : vm_fl.lookup (vm_own 96, 27) = some (6, 1, 65) := by decide +kernel
theorem c96_37 : vm_ml.lookup (vm_own 96, 37) = some (3, 179, 3, 420, 292, 0, 1) := vm_lk (by decide +kernel)
theorem r96 : vm_rt 96 = (some .long) := by decide +kernel
theorem B_So_unknown_0 {X : vX} {d : Nat} {M : vM} {Q : Option vV → vM → Prop} {l1 : Int}  (k : cq X d 179 [vI l1, vI 0, vI (w32 ((M 13 1) - 1))] M (fun r M1 => wp X d 96 11 [vR 13, vI l1] (r.toList ++ []) (vS0, M1) (vP Q))) : vw X d 96 0 [vR 13, vI l1] [] M Q := by
  refine w_iload_n d96_0 rfl ?_
  refine w_ic (v := 0) d96_1 rfl ?_
  refine w_aload_n d96_2 rfl ?_
  refine w_getf (a := 13) (v := vI (M 13 1)) d96_3 f96_27 rfl rfl rfl ?_
  refine w_ic (v := 1) d96_6 rfl ?_
  refine w_isub d96_7 ?_
  exact w_inv1 d96_8 c96_37 (by decide) rfl (Nat.le_of_ble_eq_true rfl) (cq.cl (k))
theorem B_So_unknown_11 {X : vX} {d : Nat} {M : vM} {Q : Option vV → vM → Prop} {l1 s0 : Int}  (k1 : s0 = 0 → vw X d 96 27 [vR 13, vI l1] [] M Q) (k2 : ¬ s0 = 0 → vw X d 96 14 [vR 13, vI l1] [] M Q) : vw X d 96 11 [vR 13, vI l1] [vI s0] M Q := by
  exact w_if_eq d96_11 rfl (fun h => k1 h) (fun h => k2 h)
theorem B_So_unknown_14 {X : vX} {d : Nat} {M : vM} {Q : Option vV → vM → Prop} {l1 : Int} (hR : vRefs M) (h1 : 0 ≤ (w32 (l1 + 1)) ∧ (w32 (l1 + 1)) < (13 : Nat)) (k : Q (some (vL (M ((15 + (w32 (l1 + 1)).toNat)) 0))) M) : vw X d 96 14 [vR 13, vI l1] [] M Q := by
  refine w_aload_n d96_14 rfl ?_
  refine w_getf (a := 13) (v := vR 14) d96_15 f96_11 rfl rfl (congrArg vR (rf_13_0 hR)) ?_
  refine w_iload_n d96_18 rfl ?_
  refine w_ic (v := 1) d96_19 rfl ?_
  refine w_iadd d96_20 ?_
  refine w_aaldE (a := 14) (b := (15 + (w32 (l1 + 1)).toNat)) d96_21 rfl rfl (by decide) h1 (vrow_14 (i := (w32 (l1 + 1))) hR h1) ?_
  refine w_ic (v := 0) d96_22 rfl ?_
  refine w_laload (a := (15 + (w32 (l1 + 1)).toNat)) d96_23 rfl (vrs_14 (i := (w32 (l1 + 1))) h1) ⟨by decide, by decide⟩ ?_
  refine w_goto (tgt := 28) d96_24 rfl ?_
  exact w_lret d96_28 r96 ⟨_, rfl, k⟩
theorem B_So_unknown_27 {X : vX} {d : Nat} {M : vM} {Q : Option vV → vM → Prop} {l1 : Int}  (k : Q (some (vL 0)) M) : vw X d 96 27 [vR 13, vI l1] [] M Q := by
  refine w_lc (v := 0) d96_27 rfl ?_
  exact w_lret d96_28 r96 ⟨_, rfl, k⟩
theorem E_So_unknown {X : vX} {d : Nat} {M : vM} {Q : Option vV → vM → Prop} {l1 : Int} (k : vw X d 96 0 [vR 13, vI l1] [] M Q) : cq X (d + 1) 96 [vR 13, vI l1] M Q := wc_in (Nat.le_of_ble_eq_true rfl) (Nat.le_of_ble_eq_true rfl) k
theorem cd97 : vm_cd 97 = cX7_below := rfl
theorem d97_0 : decode (vm_cd 97) 0 = .ok (.aload_n 0, 1) := (congrArg (fun b => decode b 0) cd97).trans (by decide +kernel)
theorem d97_1 : decode (vm_cd 97) 1 = .ok (.getfield 14, 3) := (congrArg (fun b => decode b 1) cd97).trans (by decide +kernel)
theorem d97_4 : decode (vm_cd 97) 4 = .ok (.lreturn, 1) := (congrArg (fun b => decode b 4) cd97).trans (by decide +kernel)
theorem f97_14 : vm_fl.lookup (vm_own 97, 14) = some (6, 3, 67) := by decide +kernel
theorem r97 : vm_rt 97 = (some .long) := by decide +kernel
theorem B_So_below_0 {X : vX} {d : Nat} {M : vM} {Q : Option vV → vM → Prop}  (k : Q (some (vL (M 13 3))) M) : vw X d 97 0 [vR 13] [] M Q := by
  refine w_aload_n d97_0 rfl ?_
  refine w_getf (a := 13) (v := vL (M 13 3)) d97_1 f97_14 rfl rfl rfl ?_
  exact w_lret d97_4 r97 ⟨_, rfl, k⟩
theorem E_So_below {X : vX} {d : Nat} {M : vM} {Q : Option vV → vM → Prop} (k : vw X d 97 0 [vR 13] [] M Q) : cq X (d + 1) 97 [vR 13] M Q := wc_in (Nat.le_of_ble_eq_true rfl) (Nat.le_of_ble_eq_true rfl) k
