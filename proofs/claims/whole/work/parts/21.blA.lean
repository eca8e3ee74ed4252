/-! BLOCK LEMMAS, written by gen4.py out of the decode rows: what each stretch of a method does -/
theorem cd1 : vm_cd 1 = cX0_howMany := rfl
theorem d1_0 : decode (vm_cd 1) 0 = .ok (.aload_n 0, 1) := (congrArg (fun b => decode b 0) cd1).trans (by decide +kernel)
theorem d1_1 : decode (vm_cd 1) 1 = .ok (.getfield 27, 3) := (congrArg (fun b => decode b 1) cd1).trans (by decide +kernel)
theorem d1_4 : decode (vm_cd 1) 4 = .ok (.ireturn, 1) := (congrArg (fun b => decode b 4) cd1).trans (by decide +kernel)
theorem f1_27 : vm_fl.lookup (vm_own 1, 27) = some (0, 4, 40) := by decide +kernel
theorem r1 : vm_rt 1 = (some .int) := by decide +kernel
theorem B_Ac_howMany_0 {X : vX} {d : Nat} {M : vM} {Q : Option vV → vM → Prop}  (k : Q (some (vI (M 1 4))) M) : vw X d 1 0 [vR 1] [] M Q := by
  refine w_aload_n d1_0 rfl ?_
  refine w_getf (a := 1) (v := vI (M 1 4)) d1_1 f1_27 rfl rfl rfl ?_
  exact w_iret d1_4 r1 ⟨_, rfl, k⟩
theorem E_Ac_howMany {X : vX} {d : Nat} {M : vM} {Q : Option vV → vM → Prop} (k : vw X d 1 0 [vR 1] [] M Q) : cq X (d + 1) 1 [vR 1] M Q := wc_in (Nat.le_of_ble_eq_true rfl) (Nat.le_of_ble_eq_true rfl) k
theorem cd2 : vm_cd 2 = cX0_howManySights := rfl
theorem d2_0 : decode (vm_cd 2) 0 = .ok (.aload_n 0, 1) := (congrArg (fun b => decode b 0) cd2).trans (by decide +kernel)
theorem d2_1 : decode (vm_cd 2) 1 = .ok (.getfield 23, 3) := (congrArg (fun b => decode b 1) cd2).trans (by decide +kernel)
theorem d2_4 : decode (vm_cd 2) 4 = .ok (.ireturn, 1) := (congrArg (fun b => decode b 4) cd2).trans (by decide +kernel)
theorem f2_23 : vm_fl.lookup (vm_own 2, 23) = some (0, 0, 36) := by decide +kernel
theorem r2 : vm_rt 2 = (some .int) := by decide +kernel
theorem B_Ac_howManySights_0 {X : vX} {d : Nat} {M : vM} {Q : Option vV → vM → Prop}  (k : Q (some (vI (M 1 0))) M) : vw X d 2 0 [vR 1] [] M Q := by
  refine w_aload_n d2_0 rfl ?_
  refine w_getf (a := 1) (v := vI (M 1 0)) d2_1 f2_23 rfl rfl rfl ?_
  exact w_iret d2_4 r2 ⟨_, rfl, k⟩
theorem E_Ac_howManySights {X : vX} {d : Nat} {M : vM} {Q : Option vV → vM → Prop} (k : vw X d 2 0 [vR 1] [] M Q) : cq X (d + 1) 2 [vR 1] M Q := wc_in (Nat.le_of_ble_eq_true rfl) (Nat.le_of_ble_eq_true rfl) k
theorem cd3 : vm_cd 3 = cX0_reserved := rfl
theorem d3_0 : decode (vm_cd 3) 0 = .ok (.aload_n 0, 1) := (congrArg (fun b => decode b 0) cd3).trans (by decide +kernel)
theorem d3_1 : decode (vm_cd 3) 1 = .ok (.getfield 30, 3) := (congrArg (fun b => decode b 1) cd3).trans (by decide +kernel)
theorem d3_4 : decode (vm_cd 3) 4 = .ok (.ireturn, 1) := (congrArg (fun b => decode b 4) cd3).trans (by decide +kernel)
theorem f3_30 : vm_fl.lookup (vm_own 3, 30) = some (0, 5, 41) := by decide +kernel
theorem r3 : vm_rt 3 = (some .int) := by decide +kernel
theorem B_Ac_reserved_0 {X : vX} {d : Nat} {M : vM} {Q : Option vV → vM → Prop}  (k : Q (some (vI (M 1 5))) M) : vw X d 3 0 [vR 1] [] M Q := by
  refine w_aload_n d3_0 rfl ?_
  refine w_getf (a := 1) (v := vI (M 1 5)) d3_1 f3_30 rfl rfl rfl ?_
  exact w_iret d3_4 r3 ⟨_, rfl, k⟩
theorem E_Ac_reserved {X : vX} {d : Nat} {M : vM} {Q : Option vV → vM → Prop} (k : vw X d 3 0 [vR 1] [] M Q) : cq X (d + 1) 3 [vR 1] M Q := wc_in (Nat.le_of_ble_eq_true rfl) (Nat.le_of_ble_eq_true rfl) k
theorem cd4 : vm_cd 4 = cX0_isFull := rfl
theorem d4_0 : decode (vm_cd 4) 0 = .ok (.aload_n 0, 1) := (congrArg (fun b => decode b 0) cd4).trans (by decide +kernel)
theorem d4_1 : decode (vm_cd 4) 1 = .ok (.getfield 27, 3) := (congrArg (fun b => decode b 1) cd4).trans (by decide +kernel)
theorem d4_4 : decode (vm_cd 4) 4 = .ok (.iconst 4, 1) := (congrArg (fun b => decode b 4) cd4).trans (by decide +kernel)
theorem d4_5 : decode (vm_cd 4) 5 = .ok (.if_icmp .lt 7, 3) := (congrArg (fun b => decode b 5) cd4).trans (by decide +kernel)
theorem d4_8 : decode (vm_cd 4) 8 = .ok (.iconst 1, 1) := (congrArg (fun b => decode b 8) cd4).trans (by decide +kernel)
theorem d4_9 : decode (vm_cd 4) 9 = .ok (.goto 4, 3) := (congrArg (fun b => decode b 9) cd4).trans (by decide +kernel)
theorem d4_12 : decode (vm_cd 4) 12 = .ok (.iconst 0, 1) := (congrArg (fun b => decode b 12) cd4).trans (by decide +kernel)
theorem d4_13 : decode (vm_cd 4) 13 = .ok (.ireturn, 1) := (congrArg (fun b => decode b 13) cd4).trans (by decide +kernel)
theorem f4_27 : vm_fl.lookup (vm_own 4, 27) = some (0, 4, 40) := by decide +kernel
theorem r4 : vm_rt 4 = (some .boolean) := by decide +kernel
theorem B_Ac_isFull_0 {X : vX} {d : Nat} {M : vM} {Q : Option vV → vM → Prop}  (k1 : (M 1 4) < 4 → vw X d 4 12 [vR 1] [] M Q) (k2 : 4 ≤ (M 1 4) → vw X d 4 8 [vR 1] [] M Q) : vw X d 4 0 [vR 1] [] M Q := by
  refine w_aload_n d4_0 rfl ?_
  refine w_getf (a := 1) (v := vI (M 1 4)) d4_1 f4_27 rfl rfl rfl ?_
  refine w_ic (v := 4) d4_4 rfl ?_
  exact w_icmp_lt d4_5 rfl (fun h => k1 h) (fun h => k2 h)
theorem B_Ac_isFull_8 {X : vX} {d : Nat} {M : vM} {Q : Option vV → vM → Prop}  (k : Q (some (vI 1)) M) : vw X d 4 8 [vR 1] [] M Q := by
  refine w_ic (v := 1) d4_8 rfl ?_
  refine w_goto (tgt := 13) d4_9 rfl ?_
  exact w_zret d4_13 r4 (by decide) ⟨_, rfl, k⟩
theorem B_Ac_isFull_12 {X : vX} {d : Nat} {M : vM} {Q : Option vV → vM → Prop}  (k : Q (some (vI 0)) M) : vw X d 4 12 [vR 1] [] M Q := by
  refine w_ic (v := 0) d4_12 rfl ?_
  exact w_zret d4_13 r4 (by decide) ⟨_, rfl, k⟩
theorem E_Ac_isFull {X : vX} {d : Nat} {M : vM} {Q : Option vV → vM → Prop} (k : vw X d 4 0 [vR 1] [] M Q) : cq X (d + 1) 4 [vR 1] M Q := wc_in (Nat.le_of_ble_eq_true rfl) (Nat.le_of_ble_eq_true rfl) k
theorem cd5 : vm_cd 5 = cX0_isAct := rfl
theorem d5_0 : decode (vm_cd 5) 0 = .ok (.iload_n 1, 1) := (congrArg (fun b => decode b 0) cd5).trans (by decide +kernel)
theorem d5_1 : decode (vm_cd 5) 1 = .ok (.ifCond .lt 15, 3) := (congrArg (fun b => decode b 1) cd5).trans (by decide +kernel)
theorem d5_4 : decode (vm_cd 5) 4 = .ok (.iload_n 1, 1) := (congrArg (fun b => decode b 4) cd5).trans (by decide +kernel)
theorem d5_5 : decode (vm_cd 5) 5 = .ok (.aload_n 0, 1) := (congrArg (fun b => decode b 5) cd5).trans (by decide +kernel)
theorem d5_6 : decode (vm_cd 5) 6 = .ok (.getfield 27, 3) := (congrArg (fun b => decode b 6) cd5).trans (by decide +kernel)
theorem d5_9 : decode (vm_cd 5) 9 = .ok (.if_icmp .ge 7, 3) := (congrArg (fun b => decode b 9) cd5).trans (by decide +kernel)
theorem d5_12 : decode (vm_cd 5) 12 = .ok (.iconst 1, 1) := (congrArg (fun b => decode b 12) cd5).trans (by decide +kernel)
theorem d5_13 : decode (vm_cd 5) 13 = .ok (.goto 4, 3) := (congrArg (fun b => decode b 13) cd5).trans (by decide +kernel)
theorem d5_16 : decode (vm_cd 5) 16 = .ok (.iconst 0, 1) := (congrArg (fun b => decode b 16) cd5).trans (by decide +kernel)
theorem d5_17 : decode (vm_cd 5) 17 = .ok (.ireturn, 1) := (congrArg (fun b => decode b 17) cd5).trans (by decide +kernel)
theorem f5_27 : vm_fl.lookup (vm_own 5, 27) = some (0, 4, 40) := by decide +kernel
theorem r5 : vm_rt 5 = (some .boolean) := by decide +kernel
theorem B_Ac_isAct_0 {X : vX} {d : Nat} {M : vM} {Q : Option vV → vM → Prop} {l1 : Int}  (k1 : l1 < 0 → vw X d 5 16 [vR 1, vI l1] [] M Q) (k2 : 0 ≤ l1 → vw X d 5 4 [vR 1, vI l1] [] M Q) : vw X d 5 0 [vR 1, vI l1] [] M Q := by
  refine w_iload_n d5_0 rfl ?_
  exact w_if_lt d5_1 rfl (fun h => k1 h) (fun h => k2 h)
theorem B_Ac_isAct_4 {X : vX} {d : Nat} {M : vM} {Q : Option vV → vM → Prop} {l1 : Int}  (k1 : (M 1 4) ≤ l1 → vw X d 5 16 [vR 1, vI l1] [] M Q) (k2 : l1 < (M 1 4) → vw X d 5 12 [vR 1, vI l1] [] M Q) : vw X d 5 4 [vR 1, vI l1] [] M Q := by
  refine w_iload_n d5_4 rfl ?_
  refine w_aload_n d5_5 rfl ?_
  refine w_getf (a := 1) (v := vI (M 1 4)) d5_6 f5_27 rfl rfl rfl ?_
  exact w_icmp_ge d5_9 rfl (fun h => k1 h) (fun h => k2 h)
theorem B_Ac_isAct_12 {X : vX} {d : Nat} {M : vM} {Q : Option vV → vM → Prop} {l1 : Int}  (k : Q (some (vI 1)) M) : vw X d 5 12 [vR 1, vI l1] [] M Q := by
  refine w_ic (v := 1) d5_12 rfl ?_
  refine w_goto (tgt := 17) d5_13 rfl ?_
  exact w_zret d5_17 r5 (by decide) ⟨_, rfl, k⟩
theorem B_Ac_isAct_16 {X : vX} {d : Nat} {M : vM} {Q : Option vV → vM → Prop} {l1 : Int}  (k : Q (some (vI 0)) M) : vw X d 5 16 [vR 1, vI l1] [] M Q := by
  refine w_ic (v := 0) d5_16 rfl ?_
  exact w_zret d5_17 r5 (by decide) ⟨_, rfl, k⟩
theorem E_Ac_isAct {X : vX} {d : Nat} {M : vM} {Q : Option vV → vM → Prop} {l1 : Int} (k : vw X d 5 0 [vR 1, vI l1] [] M Q) : cq X (d + 1) 5 [vR 1, vI l1] M Q := wc_in (Nat.le_of_ble_eq_true rfl) (Nat.le_of_ble_eq_true rfl) k
theorem cd6 : vm_cd 6 = cX0_isSight := rfl
theorem d6_0 : decode (vm_cd 6) 0 = .ok (.iload_n 1, 1) := (congrArg (fun b => decode b 0) cd6).trans (by decide +kernel)
theorem d6_1 : decode (vm_cd 6) 1 = .ok (.ifCond .lt 15, 3) := (congrArg (fun b => decode b 1) cd6).trans (by decide +kernel)
theorem d6_4 : decode (vm_cd 6) 4 = .ok (.iload_n 1, 1) := (congrArg (fun b => decode b 4) cd6).trans (by decide +kernel)
theorem d6_5 : decode (vm_cd 6) 5 = .ok (.aload_n 0, 1) := (congrArg (fun b => decode b 5) cd6).trans (by decide +kernel)
theorem d6_6 : decode (vm_cd 6) 6 = .ok (.getfield 23, 3) := (congrArg (fun b => decode b 6) cd6).trans (by decide +kernel)
theorem d6_9 : decode (vm_cd 6) 9 = .ok (.if_icmp .ge 7, 3) := (congrArg (fun b => decode b 9) cd6).trans (by decide +kernel)
theorem d6_12 : decode (vm_cd 6) 12 = .ok (.iconst 1, 1) := (congrArg (fun b => decode b 12) cd6).trans (by decide +kernel)
theorem d6_13 : decode (vm_cd 6) 13 = .ok (.goto 4, 3) := (congrArg (fun b => decode b 13) cd6).trans (by decide +kernel)
theorem d6_16 : decode (vm_cd 6) 16 = .ok (.iconst 0, 1) := (congrArg (fun b => decode b 16) cd6).trans (by decide +kernel)
theorem d6_17 : decode (vm_cd 6) 17 = .ok (.ireturn, 1) := (congrArg (fun b => decode b 17) cd6).trans (by decide +kernel)
theorem f6_23 : vm_fl.lookup (vm_own 6, 23) = some (0, 0, 36) := by decide +kernel
theorem r6 : vm_rt 6 = (some .boolean) := by decide +kernel
theorem B_Ac_isSight_0 {X : vX} {d : Nat} {M : vM} {Q : Option vV → vM → Prop} {l1 : Int}  (k1 : l1 < 0 → vw X d 6 16 [vR 1, vI l1] [] M Q) (k2 : 0 ≤ l1 → vw X d 6 4 [vR 1, vI l1] [] M Q) : vw X d 6 0 [vR 1, vI l1] [] M Q := by
  refine w_iload_n d6_0 rfl ?_
  exact w_if_lt d6_1 rfl (fun h => k1 h) (fun h => k2 h)
theorem B_Ac_isSight_4 {X : vX} {d : Nat} {M : vM} {Q : Option vV → vM → Prop} {l1 : Int}  (k1 : (M 1 0) ≤ l1 → vw X d 6 16 [vR 1, vI l1] [] M Q) (k2 : l1 < (M 1 0) → vw X d 6 12 [vR 1, vI l1] [] M Q) : vw X d 6 4 [vR 1, vI l1] [] M Q := by
  refine w_iload_n d6_4 rfl ?_
  refine w_aload_n d6_5 rfl ?_
  refine w_getf (a := 1) (v := vI (M 1 0)) d6_6 f6_23 rfl rfl rfl ?_
  exact w_icmp_ge d6_9 rfl (fun h => k1 h) (fun h => k2 h)
theorem B_Ac_isSight_12 {X : vX} {d : Nat} {M : vM} {Q : Option vV → vM → Prop} {l1 : Int}  (k : Q (some (vI 1)) M) : vw X d 6 12 [vR 1, vI l1] [] M Q := by
  refine w_ic (v := 1) d6_12 rfl ?_
  refine w_goto (tgt := 17) d6_13 rfl ?_
  exact w_zret d6_17 r6 (by decide) ⟨_, rfl, k⟩
theorem B_Ac_isSight_16 {X : vX} {d : Nat} {M : vM} {Q : Option vV → vM → Prop} {l1 : Int}  (k : Q (some (vI 0)) M) : vw X d 6 16 [vR 1, vI l1] [] M Q := by
  refine w_ic (v := 0) d6_16 rfl ?_
  exact w_zret d6_17 r6 (by decide) ⟨_, rfl, k⟩
theorem E_Ac_isSight {X : vX} {d : Nat} {M : vM} {Q : Option vV → vM → Prop} {l1 : Int} (k : vw X d 6 0 [vR 1, vI l1] [] M Q) : cq X (d + 1) 6 [vR 1, vI l1] M Q := wc_in (Nat.le_of_ble_eq_true rfl) (Nat.le_of_ble_eq_true rfl) k
theorem cd7 : vm_cd 7 = cX0_add := rfl
theorem d7_0 : decode (vm_cd 7) 0 = .ok (.aload_n 0, 1) := (congrArg (fun b => decode b 0) cd7).trans (by decide +kernel)
theorem d7_1 : decode (vm_cd 7) 1 = .ok (.getfield 27, 3) := (congrArg (fun b => decode b 1) cd7).trans (by decide +kernel)
theorem d7_4 : decode (vm_cd 7) 4 = .ok (.istore_n 2, 1) := (congrArg (fun b => decode b 4) cd7).trans (by decide +kernel)
theorem d7_5 : decode (vm_cd 7) 5 = .ok (.aload_n 0, 1) := (congrArg (fun b => decode b 5) cd7).trans (by decide +kernel)
theorem d7_6 : decode (vm_cd 7) 6 = .ok (.getfield 9, 3) := (congrArg (fun b => decode b 6) cd7).trans (by decide +kernel)
theorem d7_9 : decode (vm_cd 7) 9 = .ok (.iload_n 2, 1) := (congrArg (fun b => decode b 9) cd7).trans (by decide +kernel)
theorem d7_10 : decode (vm_cd 7) 10 = .ok (.iload_n 1, 1) := (congrArg (fun b => decode b 10) cd7).trans (by decide +kernel)
theorem d7_11 : decode (vm_cd 7) 11 = .ok (.iastore, 1) := (congrArg (fun b => decode b 11) cd7).trans (by decide +kernel)
theorem d7_12 : decode (vm_cd 7) 12 = .ok (.iconst 0, 1) := (congrArg (fun b => decode b 12) cd7).trans (by decide +kernel)
theorem d7_13 : decode (vm_cd 7) 13 = .ok (.istore_n 3, 1) := (congrArg (fun b => decode b 13) cd7).trans (by decide +kernel)
theorem d7_14 : decode (vm_cd 7) 14 = .ok (.iload_n 3, 1) := (congrArg (fun b => decode b 14) cd7).trans (by decide +kernel)
theorem d7_15 : decode (vm_cd 7) 15 = .ok (.iconst 2, 1) := (congrArg (fun b => decode b 15) cd7).trans (by decide +kernel)
theorem d7_16 : decode (vm_cd 7) 16 = .ok (.if_icmp .ge 23, 3) := (congrArg (fun b => decode b 16) cd7).trans (by decide +kernel)
theorem d7_19 : decode (vm_cd 7) 19 = .ok (.aload_n 0, 1) := (congrArg (fun b => decode b 19) cd7).trans (by decide +kernel)
theorem d7_20 : decode (vm_cd 7) 20 = .ok (.getfield 17, 3) := (congrArg (fun b => decode b 20) cd7).trans (by decide +kernel)
theorem d7_23 : decode (vm_cd 7) 23 = .ok (.iload_n 2, 1) := (congrArg (fun b => decode b 23) cd7).trans (by decide +kernel)
theorem d7_24 : decode (vm_cd 7) 24 = .ok (.iconst 2, 1) := (congrArg (fun b => decode b 24) cd7).trans (by decide +kernel)
theorem d7_25 : decode (vm_cd 7) 25 = .ok (.imul, 1) := (congrArg (fun b => decode b 25) cd7).trans (by decide +kernel)
theorem d7_26 : decode (vm_cd 7) 26 = .ok (.iload_n 3, 1) := (congrArg (fun b => decode b 26) cd7).trans (by decide +kernel)
theorem d7_27 : decode (vm_cd 7) 27 = .ok (.iadd, 1) := (congrArg (fun b => decode b 27) cd7).trans (by decide +kernel)
theorem d7_28 : decode (vm_cd 7) 28 = .ok (.aaload, 1) := (congrArg (fun b => decode b 28) cd7).trans (by decide +kernel)
theorem d7_29 : decode (vm_cd 7) 29 = .ok (.iconst 0, 1) := (congrArg (fun b => decode b 29) cd7).trans (by decide +kernel)
theorem d7_30 : decode (vm_cd 7) 30 = .ok (.bipush 12, 2) := (congrArg (fun b => decode b 30) cd7).trans (by decide +kernel)
theorem d7_32 : decode (vm_cd 7) 32 = .ok (.iastore, 1) := (congrArg (fun b => decode b 32) cd7).trans (by decide +kernel)
theorem d7_33 : decode (vm_cd 7) 33 = .ok (.iinc 3 1, 3) := (congrArg (fun b => decode b 33) cd7).trans (by decide +kernel)
theorem d7_36 : decode (vm_cd 7) 36 = .ok (.goto (-22), 3) := (congrArg (fun b => decode b 36) cd7).trans (by decide +kernel)
theorem d7_39 : decode (vm_cd 7) 39 = .ok (.aload_n 0, 1) := (congrArg (fun b => decode b 39) cd7).trans (by decide +kernel)
theorem d7_40 : decode (vm_cd 7) 40 = .ok (.iload_n 2, 1) := (congrArg (fun b => decode b 40) cd7).trans (by decide +kernel)
theorem d7_41 : decode (vm_cd 7) 41 = .ok (.iconst 1, 1) := (congrArg (fun b => decode b 41) cd7).trans (by decide +kernel)
theorem d7_42 : decode (vm_cd 7) 42 = .ok (.iadd, 1) := (congrArg (fun b => decode b 42) cd7).trans (by decide +kernel)
theorem d7_43 : decode (vm_cd 7) 43 = .ok (.putfield 27, 3) := (congrArg (fun b => decode b 43) cd7).trans (by decide +kernel)
theorem d7_46 : decode (vm_cd 7) 46 = .ok (.iload_n 2, 1) := (congrArg (fun b => decode b 46) cd7).trans (by decide +kernel)
theorem d7_47 : decode (vm_cd 7) 47 = .ok (.ireturn, 1) := (congrArg (fun b => decode b 47) cd7).trans (by decide +kernel)
theorem f7_9 : vm_fl.lookup (vm_own 7, 9) = some (0, 1, 37) := by decide +kernel
theorem f7_17 : vm_fl.lookup (vm_own 7, 17) = some (0, 2, 38) := by decide +kernel
theorem f7_27 : vm_fl.lookup (vm_own 7, 27) = some (0, 4, 40) := by decide +kernel
theorem r7 : vm_rt 7 = (some .int) := by decide +kernel
theorem B_Ac_add_0 {X : vX} {d : Nat} {M : vM} {Q : Option vV → vM → Prop} {l1 : Int} (hR : vRefs M) (h1 : 0 ≤ (M 1 4) ∧ (M 1 4) < (4 : Nat)) (k : vRefs (vm_up M 2 (M 1 4).toNat l1) → vw X d 7 14 [vR 1, vI l1, vI (M 1 4), vI 0] [] (vm_up M 2 (M 1 4).toNat l1) Q) : vw X d 7 0 [vR 1, vI l1, vN, vN] [] M Q := by
  refine w_aload_n d7_0 rfl ?_
  refine w_getf (a := 1) (v := vI (M 1 4)) d7_1 f7_27 rfl rfl rfl ?_
  refine w_istore_nE (ls' := [vR 1, vI l1, vI (M 1 4), vN]) d7_4 (Nat.le_of_ble_eq_true rfl) rfl ?_
  refine w_aload_n d7_5 rfl ?_
  refine w_getf (a := 1) (v := vR 2) d7_6 f7_9 rfl rfl (congrArg vR (rf_1_1 hR)) ?_
  refine w_iload_n d7_9 rfl ?_
  refine w_iload_n d7_10 rfl ?_
  refine w_iast (a := 2) d7_11 rfl rfl h1 ?_
  refine w_ic (v := 0) d7_12 rfl ?_
  refine w_istore_nE (ls' := [vR 1, vI l1, vI (M 1 4), vI 0]) d7_13 (Nat.le_of_ble_eq_true rfl) rfl ?_
  exact k (vRefs_free hR ⟨by decide, by decide⟩)
theorem B_Ac_add_14 {X : vX} {d : Nat} {M : vM} {Q : Option vV → vM → Prop} {l1 l2 l3 : Int}  (k1 : 2 ≤ l3 → vw X d 7 39 [vR 1, vI l1, vI l2, vI l3] [] M Q) (k2 : l3 < 2 → vw X d 7 19 [vR 1, vI l1, vI l2, vI l3] [] M Q) : vw X d 7 14 [vR 1, vI l1, vI l2, vI l3] [] M Q := by
  refine w_iload_n d7_14 rfl ?_
  refine w_ic (v := 2) d7_15 rfl ?_
  exact w_icmp_ge d7_16 rfl (fun h => k1 h) (fun h => k2 h)
theorem B_Ac_add_19 {X : vX} {d : Nat} {M : vM} {Q : Option vV → vM → Prop} {l1 l2 l3 : Int} (hR : vRefs M) (h1 : 0 ≤ (w32 ((w32 (l2 * 2)) + l3)) ∧ (w32 ((w32 (l2 * 2)) + l3)) < (8 : Nat)) (k : vRefs (vm_up M ((4 + (w32 ((w32 (l2 * 2)) + l3)).toNat)) 0 12) → vw X d 7 14 [vR 1, vI l1, vI l2, vI (w32 (l3 + 1))] [] (vm_up M ((4 + (w32 ((w32 (l2 * 2)) + l3)).toNat)) 0 12) Q) : vw X d 7 19 [vR 1, vI l1, vI l2, vI l3] [] M Q := by
  refine w_aload_n d7_19 rfl ?_
  refine w_getf (a := 1) (v := vR 3) d7_20 f7_17 rfl rfl (congrArg vR (rf_1_2 hR)) ?_
  refine w_iload_n d7_23 rfl ?_
  refine w_ic (v := 2) d7_24 rfl ?_
  refine w_imul d7_25 ?_
  refine w_iload_n d7_26 rfl ?_
  refine w_iadd d7_27 ?_
  refine w_aaldE (a := 3) (b := (4 + (w32 ((w32 (l2 * 2)) + l3)).toNat)) d7_28 rfl rfl (by decide) h1 (vrow_3 (i := (w32 ((w32 (l2 * 2)) + l3))) hR h1) ?_
  refine w_ic (v := 0) d7_29 rfl ?_
  refine w_bi (v := 12) d7_30 rfl ?_
  refine w_iast (a := (4 + (w32 ((w32 (l2 * 2)) + l3)).toNat)) d7_32 rfl (vrs_3 (i := (w32 ((w32 (l2 * 2)) + l3))) h1) ⟨by decide, by decide⟩ ?_
  refine w_iincE (ls' := [vR 1, vI l1, vI l2, vI (w32 (l3 + 1))]) d7_33 rfl rfl ?_
  refine w_goto (tgt := 14) d7_36 rfl ?_
  exact k (vRefs_free hR (vfr_3 (i := (w32 ((w32 (l2 * 2)) + l3))) h1))
theorem B_Ac_add_39 {X : vX} {d : Nat} {M : vM} {Q : Option vV → vM → Prop} {l1 l2 l3 : Int} (hR : vRefs M)  (k : vRefs (vm_up M 1 4 (w32 (l2 + 1))) → Q (some (vI l2)) (vm_up M 1 4 (w32 (l2 + 1)))) : vw X d 7 39 [vR 1, vI l1, vI l2, vI l3] [] M Q := by
  refine w_aload_n d7_39 rfl ?_
  refine w_iload_n d7_40 rfl ?_
  refine w_ic (v := 1) d7_41 rfl ?_
  refine w_iadd d7_42 ?_
  refine w_putf (a := 1) (x := w32 (l2 + 1)) d7_43 f7_27 rfl rfl rfl (Or.inl rfl) ?_
  refine w_iload_n d7_46 rfl ?_
  exact w_iret d7_47 r7 ⟨_, rfl, k (vRefs_up hR ⟨by decide, by decide⟩)⟩
theorem E_Ac_add {X : vX} {d : Nat} {M : vM} {Q : Option vV → vM → Prop} {l1 : Int} (k : vw X d 7 0 [vR 1, vI l1, vN, vN] [] M Q) : cq X (d + 1) 7 [vR 1, vI l1] M Q := wc_in (Nat.le_of_ble_eq_true rfl) (Nat.le_of_ble_eq_true rfl) k
theorem cd8 : vm_cd 8 = cX0_setCost := rfl
theorem d8_0 : decode (vm_cd 8) 0 = .ok (.aload_n 0, 1) := (congrArg (fun b => decode b 0) cd8).trans (by decide +kernel)
theorem d8_1 : decode (vm_cd 8) 1 = .ok (.getfield 9, 3) := (congrArg (fun b => decode b 1) cd8).trans (by decide +kernel)
theorem d8_4 : decode (vm_cd 8) 4 = .ok (.iload_n 1, 1) := (congrArg (fun b => decode b 4) cd8).trans (by decide +kernel)
theorem d8_5 : decode (vm_cd 8) 5 = .ok (.iaload, 1) := (congrArg (fun b => decode b 5) cd8).trans (by decide +kernel)
theorem d8_6 : decode (vm_cd 8) 6 = .ok (.istore_n 3, 1) := (congrArg (fun b => decode b 6) cd8).trans (by decide +kernel)
theorem d8_7 : decode (vm_cd 8) 7 = .ok (.aload_n 0, 1) := (congrArg (fun b => decode b 7) cd8).trans (by decide +kernel)
theorem d8_8 : decode (vm_cd 8) 8 = .ok (.getfield 9, 3) := (congrArg (fun b => decode b 8) cd8).trans (by decide +kernel)
theorem d8_11 : decode (vm_cd 8) 11 = .ok (.iload_n 1, 1) := (congrArg (fun b => decode b 11) cd8).trans (by decide +kernel)
theorem d8_12 : decode (vm_cd 8) 12 = .ok (.iload_n 2, 1) := (congrArg (fun b => decode b 12) cd8).trans (by decide +kernel)
theorem d8_13 : decode (vm_cd 8) 13 = .ok (.iastore, 1) := (congrArg (fun b => decode b 13) cd8).trans (by decide +kernel)
theorem d8_14 : decode (vm_cd 8) 14 = .ok (.iload_n 3, 1) := (congrArg (fun b => decode b 14) cd8).trans (by decide +kernel)
theorem d8_15 : decode (vm_cd 8) 15 = .ok (.ireturn, 1) := (congrArg (fun b => decode b 15) cd8).trans (by decide +kernel)
theorem f8_9 : vm_fl.lookup (vm_own 8, 9) = some (0, 1, 37) := by decide +kernel
theorem r8 : vm_rt 8 = (some .int) := by decide +kernel
theorem B_Ac_setCost_0 {X : vX} {d : Nat} {M : vM} {Q : Option vV → vM → Prop} {l1 l2 : Int} (hR : vRefs M) (h1 : 0 ≤ l1 ∧ l1 < (4 : Nat)) (h2 : 0 ≤ l1 ∧ l1 < (4 : Nat)) (k : vRefs (vm_up M 2 l1.toNat l2) → Q (some (vI (M 2 l1.toNat))) (vm_up M 2 l1.toNat l2)) : vw X d 8 0 [vR 1, vI l1, vI l2, vN] [] M Q := by
  refine w_aload_n d8_0 rfl ?_
  refine w_getf (a := 1) (v := vR 2) d8_1 f8_9 rfl rfl (congrArg vR (rf_1_1 hR)) ?_
  refine w_iload_n d8_4 rfl ?_
  refine w_iaload (a := 2) d8_5 rfl rfl h1 ?_
  refine w_istore_nE (ls' := [vR 1, vI l1, vI l2, vI (M 2 l1.toNat)]) d8_6 (Nat.le_of_ble_eq_true rfl) rfl ?_
  refine w_aload_n d8_7 rfl ?_
  refine w_getf (a := 1) (v := vR 2) d8_8 f8_9 rfl rfl (congrArg vR (rf_1_1 hR)) ?_
  refine w_iload_n d8_11 rfl ?_
  refine w_iload_n d8_12 rfl ?_
  refine w_iast (a := 2) d8_13 rfl rfl h2 ?_
  refine w_iload_n d8_14 rfl ?_
  exact w_iret d8_15 r8 ⟨_, rfl, k (vRefs_free hR ⟨by decide, by decide⟩)⟩
theorem E_Ac_setCost {X : vX} {d : Nat} {M : vM} {Q : Option vV → vM → Prop} {l1 l2 : Int} (k : vw X d 8 0 [vR 1, vI l1, vI l2, vN] [] M Q) : cq X (d + 1) 8 [vR 1, vI l1, vI l2] M Q := wc_in (Nat.le_of_ble_eq_true rfl) (Nat.le_of_ble_eq_true rfl) k
theorem cd9 : vm_cd 9 = cX0_setChances := rfl
theorem d9_0 : decode (vm_cd 9) 0 = .ok (.iload_n 3, 1) := (congrArg (fun b => decode b 0) cd9).trans (by decide +kernel)
theorem d9_1 : decode (vm_cd 9) 1 = .ok (.iconst 4, 1) := (congrArg (fun b => decode b 1) cd9).trans (by decide +kernel)
theorem d9_2 : decode (vm_cd 9) 2 = .ok (.aload_n 0, 1) := (congrArg (fun b => decode b 2) cd9).trans (by decide +kernel)
theorem d9_3 : decode (vm_cd 9) 3 = .ok (.getfield 23, 3) := (congrArg (fun b => decode b 3) cd9).trans (by decide +kernel)
theorem d9_6 : decode (vm_cd 9) 6 = .ok (.imul, 1) := (congrArg (fun b => decode b 6) cd9).trans (by decide +kernel)
theorem d9_7 : decode (vm_cd 9) 7 = .ok (.iushr, 1) := (congrArg (fun b => decode b 7) cd9).trans (by decide +kernel)
theorem d9_8 : decode (vm_cd 9) 8 = .ok (.ifCond .eq 5, 3) := (congrArg (fun b => decode b 8) cd9).trans (by decide +kernel)
theorem d9_11 : decode (vm_cd 9) 11 = .ok (.iconst 0, 1) := (congrArg (fun b => decode b 11) cd9).trans (by decide +kernel)
theorem d9_12 : decode (vm_cd 9) 12 = .ok (.ireturn, 1) := (congrArg (fun b => decode b 12) cd9).trans (by decide +kernel)
theorem d9_13 : decode (vm_cd 9) 13 = .ok (.iconst 0, 1) := (congrArg (fun b => decode b 13) cd9).trans (by decide +kernel)
theorem d9_14 : decode (vm_cd 9) 14 = .ok (.istore 4, 2) := (congrArg (fun b => decode b 14) cd9).trans (by decide +kernel)
theorem d9_16 : decode (vm_cd 9) 16 = .ok (.iconst 0, 1) := (congrArg (fun b => decode b 16) cd9).trans (by decide +kernel)
theorem d9_17 : decode (vm_cd 9) 17 = .ok (.istore 5, 2) := (congrArg (fun b => decode b 17) cd9).trans (by decide +kernel)
theorem d9_19 : decode (vm_cd 9) 19 = .ok (.iload 5, 2) := (congrArg (fun b => decode b 19) cd9).trans (by decide +kernel)
theorem d9_21 : decode (vm_cd 9) 21 = .ok (.aload_n 0, 1) := (congrArg (fun b => decode b 21) cd9).trans (by decide +kernel)
theorem d9_22 : decode (vm_cd 9) 22 = .ok (.getfield 23, 3) := (congrArg (fun b => decode b 22) cd9).trans (by decide +kernel)
theorem d9_25 : decode (vm_cd 9) 25 = .ok (.if_icmp .ge 23, 3) := (congrArg (fun b => decode b 25) cd9).trans (by decide +kernel)
theorem d9_28 : decode (vm_cd 9) 28 = .ok (.iload 4, 2) := (congrArg (fun b => decode b 28) cd9).trans (by decide +kernel)
theorem d9_30 : decode (vm_cd 9) 30 = .ok (.iload_n 3, 1) := (congrArg (fun b => decode b 30) cd9).trans (by decide +kernel)
theorem d9_31 : decode (vm_cd 9) 31 = .ok (.iconst 4, 1) := (congrArg (fun b => decode b 31) cd9).trans (by decide +kernel)
theorem d9_32 : decode (vm_cd 9) 32 = .ok (.iload 5, 2) := (congrArg (fun b => decode b 32) cd9).trans (by decide +kernel)
theorem d9_34 : decode (vm_cd 9) 34 = .ok (.imul, 1) := (congrArg (fun b => decode b 34) cd9).trans (by decide +kernel)
theorem d9_35 : decode (vm_cd 9) 35 = .ok (.iushr, 1) := (congrArg (fun b => decode b 35) cd9).trans (by decide +kernel)
theorem d9_36 : decode (vm_cd 9) 36 = .ok (.bipush 15, 2) := (congrArg (fun b => decode b 36) cd9).trans (by decide +kernel)
theorem d9_38 : decode (vm_cd 9) 38 = .ok (.iand, 1) := (congrArg (fun b => decode b 38) cd9).trans (by decide +kernel)
theorem d9_39 : decode (vm_cd 9) 39 = .ok (.iadd, 1) := (congrArg (fun b => decode b 39) cd9).trans (by decide +kernel)
theorem d9_40 : decode (vm_cd 9) 40 = .ok (.istore 4, 2) := (congrArg (fun b => decode b 40) cd9).trans (by decide +kernel)
theorem d9_42 : decode (vm_cd 9) 42 = .ok (.iinc 5 1, 3) := (congrArg (fun b => decode b 42) cd9).trans (by decide +kernel)
theorem d9_45 : decode (vm_cd 9) 45 = .ok (.goto (-26), 3) := (congrArg (fun b => decode b 45) cd9).trans (by decide +kernel)
theorem d9_48 : decode (vm_cd 9) 48 = .ok (.iload 4, 2) := (congrArg (fun b => decode b 48) cd9).trans (by decide +kernel)
theorem d9_50 : decode (vm_cd 9) 50 = .ok (.bipush 12, 2) := (congrArg (fun b => decode b 50) cd9).trans (by decide +kernel)
theorem d9_52 : decode (vm_cd 9) 52 = .ok (.if_icmp .eq 5, 3) := (congrArg (fun b => decode b 52) cd9).trans (by decide +kernel)
theorem d9_55 : decode (vm_cd 9) 55 = .ok (.iconst 0, 1) := (congrArg (fun b => decode b 55) cd9).trans (by decide +kernel)
theorem d9_56 : decode (vm_cd 9) 56 = .ok (.ireturn, 1) := (congrArg (fun b => decode b 56) cd9).trans (by decide +kernel)
theorem d9_57 : decode (vm_cd 9) 57 = .ok (.iconst 0, 1) := (congrArg (fun b => decode b 57) cd9).trans (by decide +kernel)
theorem d9_58 : decode (vm_cd 9) 58 = .ok (.istore 5, 2) := (congrArg (fun b => decode b 58) cd9).trans (by decide +kernel)
theorem d9_60 : decode (vm_cd 9) 60 = .ok (.iload 5, 2) := (congrArg (fun b => decode b 60) cd9).trans (by decide +kernel)
theorem d9_62 : decode (vm_cd 9) 62 = .ok (.aload_n 0, 1) := (congrArg (fun b => decode b 62) cd9).trans (by decide +kernel)
theorem d9_63 : decode (vm_cd 9) 63 = .ok (.getfield 23, 3) := (congrArg (fun b => decode b 63) cd9).trans (by decide +kernel)
theorem d9_66 : decode (vm_cd 9) 66 = .ok (.if_icmp .ge 31, 3) := (congrArg (fun b => decode b 66) cd9).trans (by decide +kernel)
theorem d9_69 : decode (vm_cd 9) 69 = .ok (.aload_n 0, 1) := (congrArg (fun b => decode b 69) cd9).trans (by decide +kernel)
theorem d9_70 : decode (vm_cd 9) 70 = .ok (.getfield 17, 3) := (congrArg (fun b => decode b 70) cd9).trans (by decide +kernel)
theorem d9_73 : decode (vm_cd 9) 73 = .ok (.iload_n 1, 1) := (congrArg (fun b => decode b 73) cd9).trans (by decide +kernel)
theorem d9_74 : decode (vm_cd 9) 74 = .ok (.iconst 2, 1) := (congrArg (fun b => decode b 74) cd9).trans (by decide +kernel)
theorem d9_75 : decode (vm_cd 9) 75 = .ok (.imul, 1) := (congrArg (fun b => decode b 75) cd9).trans (by decide +kernel)
theorem d9_76 : decode (vm_cd 9) 76 = .ok (.iload_n 2, 1) := (congrArg (fun b => decode b 76) cd9).trans (by decide +kernel)
theorem d9_77 : decode (vm_cd 9) 77 = .ok (.iadd, 1) := (congrArg (fun b => decode b 77) cd9).trans (by decide +kernel)
theorem d9_78 : decode (vm_cd 9) 78 = .ok (.aaload, 1) := (congrArg (fun b => decode b 78) cd9).trans (by decide +kernel)
theorem d9_79 : decode (vm_cd 9) 79 = .ok (.iload 5, 2) := (congrArg (fun b => decode b 79) cd9).trans (by decide +kernel)
theorem d9_81 : decode (vm_cd 9) 81 = .ok (.iload_n 3, 1) := (congrArg (fun b => decode b 81) cd9).trans (by decide +kernel)
theorem d9_82 : decode (vm_cd 9) 82 = .ok (.iconst 4, 1) := (congrArg (fun b => decode b 82) cd9).trans (by decide +kernel)
theorem d9_83 : decode (vm_cd 9) 83 = .ok (.iload 5, 2) := (congrArg (fun b => decode b 83) cd9).trans (by decide +kernel)
theorem d9_85 : decode (vm_cd 9) 85 = .ok (.imul, 1) := (congrArg (fun b => decode b 85) cd9).trans (by decide +kernel)
theorem d9_86 : decode (vm_cd 9) 86 = .ok (.iushr, 1) := (congrArg (fun b => decode b 86) cd9).trans (by decide +kernel)
theorem d9_87 : decode (vm_cd 9) 87 = .ok (.bipush 15, 2) := (congrArg (fun b => decode b 87) cd9).trans (by decide +kernel)
theorem d9_89 : decode (vm_cd 9) 89 = .ok (.iand, 1) := (congrArg (fun b => decode b 89) cd9).trans (by decide +kernel)
theorem d9_90 : decode (vm_cd 9) 90 = .ok (.iastore, 1) := (congrArg (fun b => decode b 90) cd9).trans (by decide +kernel)
theorem d9_91 : decode (vm_cd 9) 91 = .ok (.iinc 5 1, 3) := (congrArg (fun b => decode b 91) cd9).trans (by decide +kernel)
theorem d9_94 : decode (vm_cd 9) 94 = .ok (.goto (-34), 3) := (congrArg (fun b => decode b 94) cd9).trans (by decide +kernel)
theorem d9_97 : decode (vm_cd 9) 97 = .ok (.iconst 1, 1) := (congrArg (fun b => decode b 97) cd9).trans (by decide +kernel)
theorem d9_98 : decode (vm_cd 9) 98 = .ok (.ireturn, 1) := (congrArg (fun b => decode b 98) cd9).trans (by decide +kernel)
theorem f9_17 : vm_fl.lookup (vm_own 9, 17) = some (0, 2, 38) := by decide +kernel
theorem f9_23 : vm_fl.lookup (vm_own 9, 23) = some (0, 0, 36) := by decide +kernel
theorem r9 : vm_rt 9 = (some .boolean) := by decide +kernel
theorem B_Ac_setChances_0 {X : vX} {d : Nat} {M : vM} {Q : Option vV → vM → Prop} {l1 l2 l3 : Int}  (k1 : (j_iushr l3 (w32 (4 * (M 1 0)))) = 0 → vw X d 9 13 [vR 1, vI l1, vI l2, vI l3, vN, vN] [] M Q) (k2 : ¬ (j_iushr l3 (w32 (4 * (M 1 0)))) = 0 → vw X d 9 11 [vR 1, vI l1, vI l2, vI l3, vN, vN] [] M Q) : vw X d 9 0 [vR 1, vI l1, vI l2, vI l3, vN, vN] [] M Q := by
  refine w_iload_n d9_0 rfl ?_
  refine w_ic (v := 4) d9_1 rfl ?_
  refine w_aload_n d9_2 rfl ?_
  refine w_getf (a := 1) (v := vI (M 1 0)) d9_3 f9_23 rfl rfl rfl ?_
  refine w_imul d9_6 ?_
  refine w_iushr d9_7 ?_
  exact w_if_eq d9_8 rfl (fun h => k1 h) (fun h => k2 h)
theorem B_Ac_setChances_11 {X : vX} {d : Nat} {M : vM} {Q : Option vV → vM → Prop} {l1 l2 l3 : Int}  (k : Q (some (vI 0)) M) : vw X d 9 11 [vR 1, vI l1, vI l2, vI l3, vN, vN] [] M Q := by
  refine w_ic (v := 0) d9_11 rfl ?_
  exact w_zret d9_12 r9 (by decide) ⟨_, rfl, k⟩
theorem B_Ac_setChances_13 {X : vX} {d : Nat} {M : vM} {Q : Option vV → vM → Prop} {l1 l2 l3 : Int}  (k : vw X d 9 19 [vR 1, vI l1, vI l2, vI l3, vI 0, vI 0] [] M Q) : vw X d 9 13 [vR 1, vI l1, vI l2, vI l3, vN, vN] [] M Q := by
  refine w_ic (v := 0) d9_13 rfl ?_
  refine w_istoreE (ls' := [vR 1, vI l1, vI l2, vI l3, vI 0, vN]) d9_14 (Nat.le_of_ble_eq_true rfl) rfl ?_
  refine w_ic (v := 0) d9_16 rfl ?_
  refine w_istoreE (ls' := [vR 1, vI l1, vI l2, vI l3, vI 0, vI 0]) d9_17 (Nat.le_of_ble_eq_true rfl) rfl ?_
  exact k
theorem B_Ac_setChances_19 {X : vX} {d : Nat} {M : vM} {Q : Option vV → vM → Prop} {l1 l2 l3 l4 l5 : Int}  (k1 : (M 1 0) ≤ l5 → vw X d 9 48 [vR 1, vI l1, vI l2, vI l3, vI l4, vI l5] [] M Q) (k2 : l5 < (M 1 0) → vw X d 9 28 [vR 1, vI l1, vI l2, vI l3, vI l4, vI l5] [] M Q) : vw X d 9 19 [vR 1, vI l1, vI l2, vI l3, vI l4, vI l5] [] M Q := by
  refine w_iload d9_19 rfl ?_
  refine w_aload_n d9_21 rfl ?_
  refine w_getf (a := 1) (v := vI (M 1 0)) d9_22 f9_23 rfl rfl rfl ?_
  exact w_icmp_ge d9_25 rfl (fun h => k1 h) (fun h => k2 h)
theorem B_Ac_setChances_28 {X : vX} {d : Nat} {M : vM} {Q : Option vV → vM → Prop} {l1 l2 l3 l4 l5 : Int}  (k : vw X d 9 19 [vR 1, vI l1, vI l2, vI l3, vI (w32 (l4 + (j_iand (j_iushr l3 (w32 (4 * l5))) 15))), vI (w32 (l5 + 1))] [] M Q) : vw X d 9 28 [vR 1, vI l1, vI l2, vI l3, vI l4, vI l5] [] M Q := by
  refine w_iload d9_28 rfl ?_
  refine w_iload_n d9_30 rfl ?_
  refine w_ic (v := 4) d9_31 rfl ?_
  refine w_iload d9_32 rfl ?_
  refine w_imul d9_34 ?_
  refine w_iushr d9_35 ?_
  refine w_bi (v := 15) d9_36 rfl ?_
  refine w_iand d9_38 ?_
  refine w_iadd d9_39 ?_
  refine w_istoreE (ls' := [vR 1, vI l1, vI l2, vI l3, vI (w32 (l4 + (j_iand (j_iushr l3 (w32 (4 * l5))) 15))), vI l5]) d9_40 (Nat.le_of_ble_eq_true rfl) rfl ?_
  refine w_iincE (ls' := [vR 1, vI l1, vI l2, vI l3, vI (w32 (l4 + (j_iand (j_iushr l3 (w32 (4 * l5))) 15))), vI (w32 (l5 + 1))]) d9_42 rfl rfl ?_
  refine w_goto (tgt := 19) d9_45 rfl ?_
  exact k
theorem B_Ac_setChances_48 {X : vX} {d : Nat} {M : vM} {Q : Option vV → vM → Prop} {l1 l2 l3 l4 l5 : Int}  (k1 : l4 = 12 → vw X d 9 57 [vR 1, vI l1, vI l2, vI l3, vI l4, vI l5] [] M Q) (k2 : ¬ l4 = 12 → vw X d 9 55 [vR 1, vI l1, vI l2, vI l3, vI l4, vI l5] [] M Q) : vw X d 9 48 [vR 1, vI l1, vI l2, vI l3, vI l4, vI l5] [] M Q := by
  refine w_iload d9_48 rfl ?_
  refine w_bi (v := 12) d9_50 rfl ?_
  exact w_icmp_eq d9_52 rfl (fun h => k1 h) (fun h => k2 h)
theorem B_Ac_setChances_55 {X : vX} {d : Nat} {M : vM} {Q : Option vV → vM → Prop} {l1 l2 l3 l4 l5 : Int}  (k : Q (some (vI 0)) M) : vw X d 9 55 [vR 1, vI l1, vI l2, vI l3, vI l4, vI l5] [] M Q := by
  refine w_ic (v := 0) d9_55 rfl ?_
  exact w_zret d9_56 r9 (by decide) ⟨_, rfl, k⟩
theorem B_Ac_setChances_57 {X : vX} {d : Nat} {M : vM} {Q : Option vV → vM → Prop} {l1 l2 l3 l4 l5 : Int}  (k : vw X d 9 60 [vR 1, vI l1, vI l2, vI l3, vI l4, vI 0] [] M Q) : vw X d 9 57 [vR 1, vI l1, vI l2, vI l3, vI l4, vI l5] [] M Q := by
  refine w_ic (v := 0) d9_57 rfl ?_
  refine w_istoreE (ls' := [vR 1, vI l1, vI l2, vI l3, vI l4, vI 0]) d9_58 (Nat.le_of_ble_eq_true rfl) rfl ?_
  exact k
theorem B_Ac_setChances_60 {X : vX} {d : Nat} {M : vM} {Q : Option vV → vM → Prop} {l1 l2 l3 l4 l5 : Int}  (k1 : (M 1 0) ≤ l5 → vw X d 9 97 [vR 1, vI l1, vI l2, vI l3, vI l4, vI l5] [] M Q) (k2 : l5 < (M 1 0) → vw X d 9 69 [vR 1, vI l1, vI l2, vI l3, vI l4, vI l5] [] M Q) : vw X d 9 60 [vR 1, vI l1, vI l2, vI l3, vI l4, vI l5] [] M Q := by
  refine w_iload d9_60 rfl ?_
  refine w_aload_n d9_62 rfl ?_
  refine w_getf (a := 1) (v := vI (M 1 0)) d9_63 f9_23 rfl rfl rfl ?_
  exact w_icmp_ge d9_66 rfl (fun h => k1 h) (fun h => k2 h)
theorem B_Ac_setChances_69 {X : vX} {d : Nat} {M : vM} {Q : Option vV → vM → Prop} {l1 l2 l3 l4 l5 : Int} (hR : vRefs M) (h1 : 0 ≤ (w32 ((w32 (l1 * 2)) + l2)) ∧ (w32 ((w32 (l1 * 2)) + l2)) < (8 : Nat)) (h2 : 0 ≤ l5 ∧ l5 < (4 : Nat)) (k : vRefs (vm_up M ((4 + (w32 ((w32 (l1 * 2)) + l2)).toNat)) l5.toNat (j_iand (j_iushr l3 (w32 (4 * l5))) 15)) → vw X d 9 60 [vR 1, vI l1, vI l2, vI l3, vI l4, vI (w32 (l5 + 1))] [] (vm_up M ((4 + (w32 ((w32 (l1 * 2)) + l2)).toNat)) l5.toNat (j_iand (j_iushr l3 (w32 (4 * l5))) 15)) Q) : vw X d 9 69 [vR 1, vI l1, vI l2, vI l3, vI l4, vI l5] [] M Q := by
  refine w_aload_n d9_69 rfl ?_
  refine w_getf (a := 1) (v := vR 3) d9_70 f9_17 rfl rfl (congrArg vR (rf_1_2 hR)) ?_
  refine w_iload_n d9_73 rfl ?_
  refine w_ic (v := 2) d9_74 rfl ?_
  refine w_imul d9_75 ?_
  refine w_iload_n d9_76 rfl ?_
  refine w_iadd d9_77 ?_
  refine w_aaldE (a := 3) (b := (4 + (w32 ((w32 (l1 * 2)) + l2)).toNat)) d9_78 rfl rfl (by decide) h1 (vrow_3 (i := (w32 ((w32 (l1 * 2)) + l2))) hR h1) ?_
  refine w_iload d9_79 rfl ?_
  refine w_iload_n d9_81 rfl ?_
  refine w_ic (v := 4) d9_82 rfl ?_
  refine w_iload d9_83 rfl ?_
  refine w_imul d9_85 ?_
  refine w_iushr d9_86 ?_
  refine w_bi (v := 15) d9_87 rfl ?_
  refine w_iand d9_89 ?_
  refine w_iast (a := (4 + (w32 ((w32 (l1 * 2)) + l2)).toNat)) d9_90 rfl (vrs_3 (i := (w32 ((w32 (l1 * 2)) + l2))) h1) h2 ?_
  refine w_iincE (ls' := [vR 1, vI l1, vI l2, vI l3, vI l4, vI (w32 (l5 + 1))]) d9_91 rfl rfl ?_
  refine w_goto (tgt := 60) d9_94 rfl ?_
  exact k (vRefs_free hR (vfr_3 (i := (w32 ((w32 (l1 * 2)) + l2))) h1))
theorem B_Ac_setChances_97 {X : vX} {d : Nat} {M : vM} {Q : Option vV → vM → Prop} {l1 l2 l3 l4 l5 : Int}  (k : Q (some (vI 1)) M) : vw X d 9 97 [vR 1, vI l1, vI l2, vI l3, vI l4, vI l5] [] M Q := by
  refine w_ic (v := 1) d9_97 rfl ?_
  exact w_zret d9_98 r9 (by decide) ⟨_, rfl, k⟩
theorem E_Ac_setChances {X : vX} {d : Nat} {M : vM} {Q : Option vV → vM → Prop} {l1 l2 l3 : Int} (k : vw X d 9 0 [vR 1, vI l1, vI l2, vI l3, vN, vN] [] M Q) : cq X (d + 1) 9 [vR 1, vI l1, vI l2, vI l3] M Q := wc_in (Nat.le_of_ble_eq_true rfl) (Nat.le_of_ble_eq_true rfl) k
theorem cd10 : vm_cd 10 = cX0_setValue := rfl
theorem d10_0 : decode (vm_cd 10) 0 = .ok (.aload_n 0, 1) := (congrArg (fun b => decode b 0) cd10).trans (by decide +kernel)
theorem d10_1 : decode (vm_cd 10) 1 = .ok (.getfield 20, 3) := (congrArg (fun b => decode b 1) cd10).trans (by decide +kernel)
theorem d10_4 : decode (vm_cd 10) 4 = .ok (.iload_n 1, 1) := (congrArg (fun b => decode b 4) cd10).trans (by decide +kernel)
theorem d10_5 : decode (vm_cd 10) 5 = .ok (.iaload, 1) := (congrArg (fun b => decode b 5) cd10).trans (by decide +kernel)
theorem d10_6 : decode (vm_cd 10) 6 = .ok (.istore_n 3, 1) := (congrArg (fun b => decode b 6) cd10).trans (by decide +kernel)
theorem d10_7 : decode (vm_cd 10) 7 = .ok (.aload_n 0, 1) := (congrArg (fun b => decode b 7) cd10).trans (by decide +kernel)
theorem d10_8 : decode (vm_cd 10) 8 = .ok (.getfield 20, 3) := (congrArg (fun b => decode b 8) cd10).trans (by decide +kernel)
theorem d10_11 : decode (vm_cd 10) 11 = .ok (.iload_n 1, 1) := (congrArg (fun b => decode b 11) cd10).trans (by decide +kernel)
theorem d10_12 : decode (vm_cd 10) 12 = .ok (.iload_n 2, 1) := (congrArg (fun b => decode b 12) cd10).trans (by decide +kernel)
theorem d10_13 : decode (vm_cd 10) 13 = .ok (.iastore, 1) := (congrArg (fun b => decode b 13) cd10).trans (by decide +kernel)
theorem d10_14 : decode (vm_cd 10) 14 = .ok (.iload_n 3, 1) := (congrArg (fun b => decode b 14) cd10).trans (by decide +kernel)
theorem d10_15 : decode (vm_cd 10) 15 = .ok (.ireturn, 1) := (congrArg (fun b => decode b 15) cd10).trans (by decide +kernel)
theorem f10_20 : vm_fl.lookup (vm_own 10, 20) = some (0, 3, 39) := by decide +kernel
theorem r10 : vm_rt 10 = (some .int) := by decide +kernel
theorem B_Ac_setValue_0 {X : vX} {d : Nat} {M : vM} {Q : Option vV → vM → Prop} {l1 l2 : Int} (hR : vRefs M) (h1 : 0 ≤ l1 ∧ l1 < (4 : Nat)) (h2 : 0 ≤ l1 ∧ l1 < (4 : Nat)) (k : vRefs (vm_up M 12 l1.toNat l2) → Q (some (vI (M 12 l1.toNat))) (vm_up M 12 l1.toNat l2)) : vw X d 10 0 [vR 1, vI l1, vI l2, vN] [] M Q := by
  refine w_aload_n d10_0 rfl ?_
  refine w_getf (a := 1) (v := vR 12) d10_1 f10_20 rfl rfl (congrArg vR (rf_1_3 hR)) ?_
  refine w_iload_n d10_4 rfl ?_
  refine w_iaload (a := 12) d10_5 rfl rfl h1 ?_
  refine w_istore_nE (ls' := [vR 1, vI l1, vI l2, vI (M 12 l1.toNat)]) d10_6 (Nat.le_of_ble_eq_true rfl) rfl ?_
  refine w_aload_n d10_7 rfl ?_
  refine w_getf (a := 1) (v := vR 12) d10_8 f10_20 rfl rfl (congrArg vR (rf_1_3 hR)) ?_
  refine w_iload_n d10_11 rfl ?_
  refine w_iload_n d10_12 rfl ?_
  refine w_iast (a := 12) d10_13 rfl rfl h2 ?_
  refine w_iload_n d10_14 rfl ?_
  exact w_iret d10_15 r10 ⟨_, rfl, k (vRefs_free hR ⟨by decide, by decide⟩)⟩
theorem E_Ac_setValue {X : vX} {d : Nat} {M : vM} {Q : Option vV → vM → Prop} {l1 l2 : Int} (k : vw X d 10 0 [vR 1, vI l1, vI l2, vN] [] M Q) : cq X (d + 1) 10 [vR 1, vI l1, vI l2] M Q := wc_in (Nat.le_of_ble_eq_true rfl) (Nat.le_of_ble_eq_true rfl) k
theorem cd11 : vm_cd 11 = cX0_setReserve := rfl
theorem d11_0 : decode (vm_cd 11) 0 = .ok (.aload_n 0, 1) := (congrArg (fun b => decode b 0) cd11).trans (by decide +kernel)
theorem d11_1 : decode (vm_cd 11) 1 = .ok (.getfield 30, 3) := (congrArg (fun b => decode b 1) cd11).trans (by decide +kernel)
theorem d11_4 : decode (vm_cd 11) 4 = .ok (.istore_n 2, 1) := (congrArg (fun b => decode b 4) cd11).trans (by decide +kernel)
theorem d11_5 : decode (vm_cd 11) 5 = .ok (.aload_n 0, 1) := (congrArg (fun b => decode b 5) cd11).trans (by decide +kernel)
theorem d11_6 : decode (vm_cd 11) 6 = .ok (.iload_n 1, 1) := (congrArg (fun b => decode b 6) cd11).trans (by decide +kernel)
theorem d11_7 : decode (vm_cd 11) 7 = .ok (.putfield 30, 3) := (congrArg (fun b => decode b 7) cd11).trans (by decide +kernel)
theorem d11_10 : decode (vm_cd 11) 10 = .ok (.iload_n 2, 1) := (congrArg (fun b => decode b 10) cd11).trans (by decide +kernel)
theorem d11_11 : decode (vm_cd 11) 11 = .ok (.ireturn, 1) := (congrArg (fun b => decode b 11) cd11).trans (by decide +kernel)
theorem f11_30 : vm_fl.lookup (vm_own 11, 30) = some (0, 5, 41) := by decide +kernel
theorem r11 : vm_rt 11 = (some .int) := by decide +kernel
theorem B_Ac_setReserve_0 {X : vX} {d : Nat} {M : vM} {Q : Option vV → vM → Prop} {l1 : Int} (hR : vRefs M)  (k : vRefs (vm_up M 1 5 l1) → Q (some (vI (M 1 5))) (vm_up M 1 5 l1)) : vw X d 11 0 [vR 1, vI l1, vN] [] M Q := by
  refine w_aload_n d11_0 rfl ?_
  refine w_getf (a := 1) (v := vI (M 1 5)) d11_1 f11_30 rfl rfl rfl ?_
  refine w_istore_nE (ls' := [vR 1, vI l1, vI (M 1 5)]) d11_4 (Nat.le_of_ble_eq_true rfl) rfl ?_
  refine w_aload_n d11_5 rfl ?_
  refine w_iload_n d11_6 rfl ?_
  refine w_putf (a := 1) (x := l1) d11_7 f11_30 rfl rfl rfl (Or.inl rfl) ?_
  refine w_iload_n d11_10 rfl ?_
  exact w_iret d11_11 r11 ⟨_, rfl, k (vRefs_up hR ⟨by decide, by decide⟩)⟩
theorem E_Ac_setReserve {X : vX} {d : Nat} {M : vM} {Q : Option vV → vM → Prop} {l1 : Int} (k : vw X d 11 0 [vR 1, vI l1, vN] [] M Q) : cq X (d + 1) 11 [vR 1, vI l1] M Q := wc_in (Nat.le_of_ble_eq_true rfl) (Nat.le_of_ble_eq_true rfl) k
theorem cd12 : vm_cd 12 = cX0_valueAt := rfl
theorem d12_0 : decode (vm_cd 12) 0 = .ok (.aload_n 0, 1) := (congrArg (fun b => decode b 0) cd12).trans (by decide +kernel)
theorem d12_1 : decode (vm_cd 12) 1 = .ok (.getfield 20, 3) := (congrArg (fun b => decode b 1) cd12).trans (by decide +kernel)
theorem d12_4 : decode (vm_cd 12) 4 = .ok (.iload_n 1, 1) := (congrArg (fun b => decode b 4) cd12).trans (by decide +kernel)
theorem d12_5 : decode (vm_cd 12) 5 = .ok (.iaload, 1) := (congrArg (fun b => decode b 5) cd12).trans (by decide +kernel)
theorem d12_6 : decode (vm_cd 12) 6 = .ok (.ireturn, 1) := (congrArg (fun b => decode b 6) cd12).trans (by decide +kernel)
theorem f12_20 : vm_fl.lookup (vm_own 12, 20) = some (0, 3, 39) := by decide +kernel
theorem r12 : vm_rt 12 = (some .int) := by decide +kernel
theorem B_Ac_valueAt_0 {X : vX} {d : Nat} {M : vM} {Q : Option vV → vM → Prop} {l1 : Int} (hR : vRefs M) (h1 : 0 ≤ l1 ∧ l1 < (4 : Nat)) (k : Q (some (vI (M 12 l1.toNat))) M) : vw X d 12 0 [vR 1, vI l1] [] M Q := by
  refine w_aload_n d12_0 rfl ?_
  refine w_getf (a := 1) (v := vR 12) d12_1 f12_20 rfl rfl (congrArg vR (rf_1_3 hR)) ?_
  refine w_iload_n d12_4 rfl ?_
  refine w_iaload (a := 12) d12_5 rfl rfl h1 ?_
  exact w_iret d12_6 r12 ⟨_, rfl, k⟩
theorem E_Ac_valueAt {X : vX} {d : Nat} {M : vM} {Q : Option vV → vM → Prop} {l1 : Int} (k : vw X d 12 0 [vR 1, vI l1] [] M Q) : cq X (d + 1) 12 [vR 1, vI l1] M Q := wc_in (Nat.le_of_ble_eq_true rfl) (Nat.le_of_ble_eq_true rfl) k
theorem cd13 : vm_cd 13 = cX0_chanceAt := rfl
theorem d13_0 : decode (vm_cd 13) 0 = .ok (.aload_n 0, 1) := (congrArg (fun b => decode b 0) cd13).trans (by decide +kernel)
theorem d13_1 : decode (vm_cd 13) 1 = .ok (.getfield 17, 3) := (congrArg (fun b => decode b 1) cd13).trans (by decide +kernel)
theorem d13_4 : decode (vm_cd 13) 4 = .ok (.iload_n 1, 1) := (congrArg (fun b => decode b 4) cd13).trans (by decide +kernel)
theorem d13_5 : decode (vm_cd 13) 5 = .ok (.iconst 2, 1) := (congrArg (fun b => decode b 5) cd13).trans (by decide +kernel)
theorem d13_6 : decode (vm_cd 13) 6 = .ok (.imul, 1) := (congrArg (fun b => decode b 6) cd13).trans (by decide +kernel)
theorem d13_7 : decode (vm_cd 13) 7 = .ok (.iload_n 2, 1) := (congrArg (fun b => decode b 7) cd13).trans (by decide +kernel)
theorem d13_8 : decode (vm_cd 13) 8 = .ok (.iadd, 1) := (congrArg (fun b => decode b 8) cd13).trans (by decide +kernel)
theorem d13_9 : decode (vm_cd 13) 9 = .ok (.aaload, 1) := (congrArg (fun b => decode b 9) cd13).trans (by decide +kernel)
theorem d13_10 : decode (vm_cd 13) 10 = .ok (.iload_n 3, 1) := (congrArg (fun b => decode b 10) cd13).trans (by decide +kernel)
theorem d13_11 : decode (vm_cd 13) 11 = .ok (.iaload, 1) := (congrArg (fun b => decode b 11) cd13).trans (by decide +kernel)
theorem d13_12 : decode (vm_cd 13) 12 = .ok (.ireturn, 1) := (congrArg (fun b => decode b 12) cd13).trans (by decide +kernel)
theorem f13_17 : vm_fl.lookup (vm_own 13, 17) = some (0, 2, 38) := by decide +kernel
theorem r13 : vm_rt 13 = (some .int) := by decide +kernel
theorem B_Ac_chanceAt_0 {X : vX} {d : Nat} {M : vM} {Q : Option vV → vM → Prop} {l1 l2 l3 : Int} (hR : vRefs M) (h1 : 0 ≤ (w32 ((w32 (l1 * 2)) + l2)) ∧ (w32 ((w32 (l1 * 2)) + l2)) < (8 : Nat)) (h2 : 0 ≤ l3 ∧ l3 < (4 : Nat)) (k : Q (some (vI (M ((4 + (w32 ((w32 (l1 * 2)) + l2)).toNat)) l3.toNat))) M) : vw X d 13 0 [vR 1, vI l1, vI l2, vI l3] [] M Q := by
  refine w_aload_n d13_0 rfl ?_
  refine w_getf (a := 1) (v := vR 3) d13_1 f13_17 rfl rfl (congrArg vR (rf_1_2 hR)) ?_
  refine w_iload_n d13_4 rfl ?_
  refine w_ic (v := 2) d13_5 rfl ?_
  refine w_imul d13_6 ?_
  refine w_iload_n d13_7 rfl ?_
  refine w_iadd d13_8 ?_
  refine w_aaldE (a := 3) (b := (4 + (w32 ((w32 (l1 * 2)) + l2)).toNat)) d13_9 rfl rfl (by decide) h1 (vrow_3 (i := (w32 ((w32 (l1 * 2)) + l2))) hR h1) ?_
  refine w_iload_n d13_10 rfl ?_
  refine w_iaload (a := (4 + (w32 ((w32 (l1 * 2)) + l2)).toNat)) d13_11 rfl (vrs_3 (i := (w32 ((w32 (l1 * 2)) + l2))) h1) h2 ?_
  exact w_iret d13_12 r13 ⟨_, rfl, k⟩
theorem E_Ac_chanceAt {X : vX} {d : Nat} {M : vM} {Q : Option vV → vM → Prop} {l1 l2 l3 : Int} (k : vw X d 13 0 [vR 1, vI l1, vI l2, vI l3] [] M Q) : cq X (d + 1) 13 [vR 1, vI l1, vI l2, vI l3] M Q := wc_in (Nat.le_of_ble_eq_true rfl) (Nat.le_of_ble_eq_true rfl) k
theorem cd14 : vm_cd 14 = cX0_paid := rfl
theorem d14_0 : decode (vm_cd 14) 0 = .ok (.lconst 0, 1) := (congrArg (fun b => decode b 0) cd14).trans (by decide +kernel)
theorem d14_1 : decode (vm_cd 14) 1 = .ok (.lstore 4, 2) := (congrArg (fun b => decode b 1) cd14).trans (by decide +kernel)
theorem d14_3 : decode (vm_cd 14) 3 = .ok (.iconst 0, 1) := (congrArg (fun b => decode b 3) cd14).trans (by decide +kernel)
theorem d14_4 : decode (vm_cd 14) 4 = .ok (.istore 6, 2) := (congrArg (fun b => decode b 4) cd14).trans (by decide +kernel)
theorem d14_6 : decode (vm_cd 14) 6 = .ok (.iload 6, 2) := (congrArg (fun b => decode b 6) cd14).trans (by decide +kernel)
theorem d14_8 : decode (vm_cd 14) 8 = .ok (.aload_n 0, 1) := (congrArg (fun b => decode b 8) cd14).trans (by decide +kernel)
theorem d14_9 : decode (vm_cd 14) 9 = .ok (.getfield 23, 3) := (congrArg (fun b => decode b 9) cd14).trans (by decide +kernel)
theorem d14_12 : decode (vm_cd 14) 12 = .ok (.if_icmp .ge 29, 3) := (congrArg (fun b => decode b 12) cd14).trans (by decide +kernel)
theorem d14_15 : decode (vm_cd 14) 15 = .ok (.lload 4, 2) := (congrArg (fun b => decode b 15) cd14).trans (by decide +kernel)
theorem d14_17 : decode (vm_cd 14) 17 = .ok (.aload_n 0, 1) := (congrArg (fun b => decode b 17) cd14).trans (by decide +kernel)
theorem d14_18 : decode (vm_cd 14) 18 = .ok (.iload_n 1, 1) := (congrArg (fun b => decode b 18) cd14).trans (by decide +kernel)
theorem d14_19 : decode (vm_cd 14) 19 = .ok (.iload_n 2, 1) := (congrArg (fun b => decode b 19) cd14).trans (by decide +kernel)
theorem d14_20 : decode (vm_cd 14) 20 = .ok (.iload 6, 2) := (congrArg (fun b => decode b 20) cd14).trans (by decide +kernel)
theorem d14_22 : decode (vm_cd 14) 22 = .ok (.invokevirtual 33, 3) := (congrArg (fun b => decode b 22) cd14).trans (by decide +kernel)
theorem d14_25 : decode (vm_cd 14) 25 = .ok (.i2l, 1) := (congrArg (fun b => decode b 25) cd14).trans (by decide +kernel)
theorem d14_26 : decode (vm_cd 14) 26 = .ok (.aload_n 3, 1) := (congrArg (fun b => decode b 26) cd14).trans (by decide +kernel)
theorem d14_27 : decode (vm_cd 14) 27 = .ok (.iload 6, 2) := (congrArg (fun b => decode b 27) cd14).trans (by decide +kernel)
theorem d14_29 : decode (vm_cd 14) 29 = .ok (.iaload, 1) := (congrArg (fun b => decode b 29) cd14).trans (by decide +kernel)
theorem d14_30 : decode (vm_cd 14) 30 = .ok (.i2l, 1) := (congrArg (fun b => decode b 30) cd14).trans (by decide +kernel)
theorem d14_31 : decode (vm_cd 14) 31 = .ok (.lmul, 1) := (congrArg (fun b => decode b 31) cd14).trans (by decide +kernel)
theorem d14_32 : decode (vm_cd 14) 32 = .ok (.ladd, 1) := (congrArg (fun b => decode b 32) cd14).trans (by decide +kernel)
theorem d14_33 : decode (vm_cd 14) 33 = .ok (.lstore 4, 2) := (congrArg (fun b => decode b 33) cd14).trans (by decide +kernel)
theorem d14_35 : decode (vm_cd 14) 35 = .ok (.iinc 6 1, 3) := (congrArg (fun b => decode b 35) cd14).trans (by decide +kernel)
theorem d14_38 : decode (vm_cd 14) 38 = .ok (.goto (-32), 3) := (congrArg (fun b => decode b 38) cd14).trans (by decide +kernel)
theorem d14_41 : decode (vm_cd 14) 41 = .ok (.lload 4, 2) := (congrArg (fun b => decode b 41) cd14).trans (by decide +kernel)
theorem d14_43 : decode (vm_cd 14) 43 = .ok (.lreturn, 1) := (congrArg (fun b => decode b 43) cd14).trans (by decide +kernel)
theorem f14_23 : vm_fl.lookup (vm_own 14, 23) = some (0, 0, 36) := by decide +kernel
theorem c14_33 : vm_ml.lookup (vm_own 14, 33) = some (0, 13, 3, 361, 362, 436, 2) := vm_lk (by decide +kernel)
theorem r14 : vm_rt 14 = (some .long) := by decide +kernel
theorem B_Ac_paid_0 {X : vX} {d : Nat} {M : vM} {Q : Option vV → vM → Prop} {l1 l2 : Int} {q3 : Nat}  (k : vw X d 14 6 [vR 1, vI l1, vI l2, vR (q3 : Int), vL 0, vN, vI 0] [] M Q) : vw X d 14 0 [vR 1, vI l1, vI l2, vR (q3 : Int), vN, vN, vN] [] M Q := by
  refine w_lc (v := 0) d14_0 rfl ?_
  refine w_lstoreE (ls' := [vR 1, vI l1, vI l2, vR (q3 : Int), vL 0, vN, vN]) d14_1 (Nat.le_of_ble_eq_true rfl) rfl ?_
  refine w_ic (v := 0) d14_3 rfl ?_
  refine w_istoreE (ls' := [vR 1, vI l1, vI l2, vR (q3 : Int), vL 0, vN, vI 0]) d14_4 (Nat.le_of_ble_eq_true rfl) rfl ?_
  exact k
theorem B_Ac_paid_6 {X : vX} {d : Nat} {M : vM} {Q : Option vV → vM → Prop} {l1 l2 l4 l6 : Int} {q3 : Nat}  (k1 : (M 1 0) ≤ l6 → vw X d 14 41 [vR 1, vI l1, vI l2, vR (q3 : Int), vL l4, vN, vI l6] [] M Q) (k2 : l6 < (M 1 0) → vw X d 14 15 [vR 1, vI l1, vI l2, vR (q3 : Int), vL l4, vN, vI l6] [] M Q) : vw X d 14 6 [vR 1, vI l1, vI l2, vR (q3 : Int), vL l4, vN, vI l6] [] M Q := by
  refine w_iload d14_6 rfl ?_
  refine w_aload_n d14_8 rfl ?_
  refine w_getf (a := 1) (v := vI (M 1 0)) d14_9 f14_23 rfl rfl rfl ?_
  exact w_icmp_ge d14_12 rfl (fun h => k1 h) (fun h => k2 h)
theorem B_Ac_paid_15 {X : vX} {d : Nat} {M : vM} {Q : Option vV → vM → Prop} {l1 l2 l4 l6 : Int} {q3 : Nat}  (k : cq X d 13 [vR 1, vI l1, vI l2, vI l6] M (fun r M1 => wp X d 14 25 [vR 1, vI l1, vI l2, vR (q3 : Int), vL l4, vN, vI l6] (r.toList ++ [vL l4]) (vS0, M1) (vP Q))) : vw X d 14 15 [vR 1, vI l1, vI l2, vR (q3 : Int), vL l4, vN, vI l6] [] M Q := by
  refine w_lload d14_15 rfl ?_
  refine w_aload_n d14_17 rfl ?_
  refine w_iload_n d14_18 rfl ?_
  refine w_iload_n d14_19 rfl ?_
  refine w_iload d14_20 rfl ?_
  exact w_inv0 (a := 1) (c := 0) d14_22 c14_33 rfl rfl rfl v13 (Nat.le_of_ble_eq_true rfl) (cq.cl (k))
theorem B_Ac_paid_25 {X : vX} {d : Nat} {M : vM} {Q : Option vV → vM → Prop} {l1 l2 l4 l6 s0 s1 : Int} {q3 : Nat} (hq3 : vS0[q3]? = some (.inr (0, 4))) (h1 : 0 ≤ l6 ∧ l6 < (4 : Nat)) (k : vw X d 14 6 [vR 1, vI l1, vI l2, vR (q3 : Int), vL (w64 (s0 + (w64 (s1 * (M q3 l6.toNat))))), vN, vI (w32 (l6 + 1))] [] M Q) : vw X d 14 25 [vR 1, vI l1, vI l2, vR (q3 : Int), vL l4, vN, vI l6] [vI s1, vL s0] M Q := by
  refine w_i2l d14_25 ?_
  refine w_aload_n d14_26 rfl ?_
  refine w_iload d14_27 rfl ?_
  refine w_iaload (a := q3) d14_29 rfl hq3 h1 ?_
  refine w_i2l d14_30 ?_
  refine w_lmul d14_31 ?_
  refine w_ladd d14_32 ?_
  refine w_lstoreE (ls' := [vR 1, vI l1, vI l2, vR (q3 : Int), vL (w64 (s0 + (w64 (s1 * (M q3 l6.toNat))))), vN, vI l6]) d14_33 (Nat.le_of_ble_eq_true rfl) rfl ?_
  refine w_iincE (ls' := [vR 1, vI l1, vI l2, vR (q3 : Int), vL (w64 (s0 + (w64 (s1 * (M q3 l6.toNat))))), vN, vI (w32 (l6 + 1))]) d14_35 rfl rfl ?_
  refine w_goto (tgt := 6) d14_38 rfl ?_
  exact k
theorem B_Ac_paid_41 {X : vX} {d : Nat} {M : vM} {Q : Option vV → vM → Prop} {l1 l2 l4 l6 : Int} {q3 : Nat}  (k : Q (some (vL l4)) M) : vw X d 14 41 [vR 1, vI l1, vI l2, vR (q3 : Int), vL l4, vN, vI l6] [] M Q := by
  refine w_lload d14_41 rfl ?_
  exact w_lret d14_43 r14 ⟨_, rfl, k⟩
theorem E_Ac_paid {X : vX} {d : Nat} {M : vM} {Q : Option vV → vM → Prop} {l1 l2 : Int} {q3 : Nat} (k : vw X d 14 0 [vR 1, vI l1, vI l2, vR (q3 : Int), vN, vN, vN] [] M Q) : cq X (d + 1) 14 [vR 1, vI l1, vI l2, vR (q3 : Int)] M Q := wc_in (Nat.le_of_ble_eq_true rfl) (Nat.le_of_ble_eq_true rfl) k
theorem cd15 : vm_cd 15 = cX0_valued := rfl
theorem d15_0 : decode (vm_cd 15) 0 = .ok (.aload_n 0, 1) := (congrArg (fun b => decode b 0) cd15).trans (by decide +kernel)
theorem d15_1 : decode (vm_cd 15) 1 = .ok (.iload_n 1, 1) := (congrArg (fun b => decode b 1) cd15).trans (by decide +kernel)
theorem d15_2 : decode (vm_cd 15) 2 = .ok (.iload_n 2, 1) := (congrArg (fun b => decode b 2) cd15).trans (by decide +kernel)
theorem d15_3 : decode (vm_cd 15) 3 = .ok (.aload_n 0, 1) := (congrArg (fun b => decode b 3) cd15).trans (by decide +kernel)
theorem d15_4 : decode (vm_cd 15) 4 = .ok (.getfield 20, 3) := (congrArg (fun b => decode b 4) cd15).trans (by decide +kernel)
theorem d15_7 : decode (vm_cd 15) 7 = .ok (.invokevirtual 37, 3) := (congrArg (fun b => decode b 7) cd15).trans (by decide +kernel)
theorem d15_10 : decode (vm_cd 15) 10 = .ok (.lreturn, 1) := (congrArg (fun b => decode b 10) cd15).trans (by decide +kernel)
theorem f15_20 : vm_fl.lookup (vm_own 15, 20) = some (0, 3, 39) := by decide +kernel
theorem c15_37 : vm_ml.lookup (vm_own 15, 37) = some (0, 14, 3, 357, 358, 432, 2) := vm_lk (by decide +kernel)
theorem r15 : vm_rt 15 = (some .long) := by decide +kernel
theorem B_Ac_valued_0 {X : vX} {d : Nat} {M : vM} {Q : Option vV → vM → Prop} {l1 l2 : Int} (hR : vRefs M)  (k : cq X d 14 [vR 1, vI l1, vI l2, vR 12] M (fun r M1 => wp X d 15 10 [vR 1, vI l1, vI l2] (r.toList ++ []) (vS0, M1) (vP Q))) : vw X d 15 0 [vR 1, vI l1, vI l2] [] M Q := by
  refine w_aload_n d15_0 rfl ?_
  refine w_iload_n d15_1 rfl ?_
  refine w_iload_n d15_2 rfl ?_
  refine w_aload_n d15_3 rfl ?_
  refine w_getf (a := 1) (v := vR 12) d15_4 f15_20 rfl rfl (congrArg vR (rf_1_3 hR)) ?_
  exact w_inv0 (a := 1) (c := 0) d15_7 c15_37 rfl rfl rfl v14 (Nat.le_of_ble_eq_true rfl) (cq.cl (k))
theorem B_Ac_valued_10 {X : vX} {d : Nat} {M : vM} {Q : Option vV → vM → Prop} {l1 l2 s0 : Int}  (k : Q (some (vL s0)) M) : vw X d 15 10 [vR 1, vI l1, vI l2] [vL s0] M Q := by
  exact w_lret d15_10 r15 ⟨_, rfl, k⟩
theorem E_Ac_valued {X : vX} {d : Nat} {M : vM} {Q : Option vV → vM → Prop} {l1 l2 : Int} (k : vw X d 15 0 [vR 1, vI l1, vI l2] [] M Q) : cq X (d + 1) 15 [vR 1, vI l1, vI l2] M Q := wc_in (Nat.le_of_ble_eq_true rfl) (Nat.le_of_ble_eq_true rfl) k
theorem cd16 : vm_cd 16 = cX0_left := rfl
theorem d16_0 : decode (vm_cd 16) 0 = .ok (.aload_n 0, 1) := (congrArg (fun b => decode b 0) cd16).trans (by decide +kernel)
theorem d16_1 : decode (vm_cd 16) 1 = .ok (.iload_n 1, 1) := (congrArg (fun b => decode b 1) cd16).trans (by decide +kernel)
theorem d16_2 : decode (vm_cd 16) 2 = .ok (.iload_n 2, 1) := (congrArg (fun b => decode b 2) cd16).trans (by decide +kernel)
theorem d16_3 : decode (vm_cd 16) 3 = .ok (.aload_n 3, 1) := (congrArg (fun b => decode b 3) cd16).trans (by decide +kernel)
theorem d16_4 : decode (vm_cd 16) 4 = .ok (.invokevirtual 37, 3) := (congrArg (fun b => decode b 4) cd16).trans (by decide +kernel)
theorem d16_7 : decode (vm_cd 16) 7 = .ok (.bipush 12, 2) := (congrArg (fun b => decode b 7) cd16).trans (by decide +kernel)
theorem d16_9 : decode (vm_cd 16) 9 = .ok (.aload_n 0, 1) := (congrArg (fun b => decode b 9) cd16).trans (by decide +kernel)
theorem d16_10 : decode (vm_cd 16) 10 = .ok (.getfield 9, 3) := (congrArg (fun b => decode b 10) cd16).trans (by decide +kernel)
theorem d16_13 : decode (vm_cd 16) 13 = .ok (.iload_n 1, 1) := (congrArg (fun b => decode b 13) cd16).trans (by decide +kernel)
theorem d16_14 : decode (vm_cd 16) 14 = .ok (.iaload, 1) := (congrArg (fun b => decode b 14) cd16).trans (by decide +kernel)
theorem d16_15 : decode (vm_cd 16) 15 = .ok (.imul, 1) := (congrArg (fun b => decode b 15) cd16).trans (by decide +kernel)
theorem d16_16 : decode (vm_cd 16) 16 = .ok (.i2l, 1) := (congrArg (fun b => decode b 16) cd16).trans (by decide +kernel)
theorem d16_17 : decode (vm_cd 16) 17 = .ok (.lsub, 1) := (congrArg (fun b => decode b 17) cd16).trans (by decide +kernel)
theorem d16_18 : decode (vm_cd 16) 18 = .ok (.lreturn, 1) := (congrArg (fun b => decode b 18) cd16).trans (by decide +kernel)
theorem f16_9 : vm_fl.lookup (vm_own 16, 9) = some (0, 1, 37) := by decide +kernel
theorem c16_37 : vm_ml.lookup (vm_own 16, 37) = some (0, 14, 3, 357, 358, 432, 2) := vm_lk (by decide +kernel)
theorem r16 : vm_rt 16 = (some .long) := by decide +kernel
theorem B_Ac_left_0 {X : vX} {d : Nat} {M : vM} {Q : Option vV → vM → Prop} {l1 l2 : Int} {q3 : Nat}  (k : cq X d 14 [vR 1, vI l1, vI l2, vR (q3 : Int)] M (fun r M1 => wp X d 16 7 [vR 1, vI l1, vI l2, vR (q3 : Int)] (r.toList ++ []) (vS0, M1) (vP Q))) : vw X d 16 0 [vR 1, vI l1, vI l2, vR (q3 : Int)] [] M Q := by
  refine w_aload_n d16_0 rfl ?_
  refine w_iload_n d16_1 rfl ?_
  refine w_iload_n d16_2 rfl ?_
  refine w_aload_n d16_3 rfl ?_
  exact w_inv0 (a := 1) (c := 0) d16_4 c16_37 rfl rfl rfl v14 (Nat.le_of_ble_eq_true rfl) (cq.cl (k))
theorem B_Ac_left_7 {X : vX} {d : Nat} {M : vM} {Q : Option vV → vM → Prop} {l1 l2 s0 : Int} {q3 : Nat} (hR : vRefs M) (h1 : 0 ≤ l1 ∧ l1 < (4 : Nat)) (k : Q (some (vL (w64 (s0 - (w32 (12 * (M 2 l1.toNat))))))) M) : vw X d 16 7 [vR 1, vI l1, vI l2, vR (q3 : Int)] [vL s0] M Q := by
  refine w_bi (v := 12) d16_7 rfl ?_
  refine w_aload_n d16_9 rfl ?_
  refine w_getf (a := 1) (v := vR 2) d16_10 f16_9 rfl rfl (congrArg vR (rf_1_1 hR)) ?_
  refine w_iload_n d16_13 rfl ?_
  refine w_iaload (a := 2) d16_14 rfl rfl h1 ?_
  refine w_imul d16_15 ?_
  refine w_i2l d16_16 ?_
  refine w_lsub d16_17 ?_
  exact w_lret d16_18 r16 ⟨_, rfl, k⟩
theorem E_Ac_left {X : vX} {d : Nat} {M : vM} {Q : Option vV → vM → Prop} {l1 l2 : Int} {q3 : Nat} (k : vw X d 16 0 [vR 1, vI l1, vI l2, vR (q3 : Int)] [] M Q) : cq X (d + 1) 16 [vR 1, vI l1, vI l2, vR (q3 : Int)] M Q := wc_in (Nat.le_of_ble_eq_true rfl) (Nat.le_of_ble_eq_true rfl) k
theorem cd17 : vm_cd 17 = cX0_kept := rfl
theorem d17_0 : decode (vm_cd 17) 0 = .ok (.aload_n 0, 1) := (congrArg (fun b => decode b 0) cd17).trans (by decide +kernel)
theorem d17_1 : decode (vm_cd 17) 1 = .ok (.iload_n 1, 1) := (congrArg (fun b => decode b 1) cd17).trans (by decide +kernel)
theorem d17_2 : decode (vm_cd 17) 2 = .ok (.iload_n 2, 1) := (congrArg (fun b => decode b 2) cd17).trans (by decide +kernel)
theorem d17_3 : decode (vm_cd 17) 3 = .ok (.invokevirtual 41, 3) := (congrArg (fun b => decode b 3) cd17).trans (by decide +kernel)
theorem d17_6 : decode (vm_cd 17) 6 = .ok (.aload_n 0, 1) := (congrArg (fun b => decode b 6) cd17).trans (by decide +kernel)
theorem d17_7 : decode (vm_cd 17) 7 = .ok (.iload_n 1, 1) := (congrArg (fun b => decode b 7) cd17).trans (by decide +kernel)
theorem d17_8 : decode (vm_cd 17) 8 = .ok (.iload_n 2, 1) := (congrArg (fun b => decode b 8) cd17).trans (by decide +kernel)
theorem d17_9 : decode (vm_cd 17) 9 = .ok (.aload_n 3, 1) := (congrArg (fun b => decode b 9) cd17).trans (by decide +kernel)
theorem d17_10 : decode (vm_cd 17) 10 = .ok (.invokevirtual 37, 3) := (congrArg (fun b => decode b 10) cd17).trans (by decide +kernel)
theorem d17_13 : decode (vm_cd 17) 13 = .ok (.lsub, 1) := (congrArg (fun b => decode b 13) cd17).trans (by decide +kernel)
theorem d17_14 : decode (vm_cd 17) 14 = .ok (.lreturn, 1) := (congrArg (fun b => decode b 14) cd17).trans (by decide +kernel)
theorem c17_37 : vm_ml.lookup (vm_own 17, 37) = some (0, 14, 3, 357, 358, 432, 2) := vm_lk (by decide +kernel)
theorem c17_41 : vm_ml.lookup (vm_own 17, 41) = some (0, 15, 2, 383, 384, 458, 2) := vm_lk (by decide +kernel)
theorem r17 : vm_rt 17 = (some .long) := by decide +kernel
theorem B_Ac_kept_0 {X : vX} {d : Nat} {M : vM} {Q : Option vV → vM → Prop} {l1 l2 : Int} {q3 : Nat}  (k : cq X d 15 [vR 1, vI l1, vI l2] M (fun r M1 => wp X d 17 6 [vR 1, vI l1, vI l2, vR (q3 : Int)] (r.toList ++ []) (vS0, M1) (vP Q))) : vw X d 17 0 [vR 1, vI l1, vI l2, vR (q3 : Int)] [] M Q := by
  refine w_aload_n d17_0 rfl ?_
  refine w_iload_n d17_1 rfl ?_
  refine w_iload_n d17_2 rfl ?_
  exact w_inv0 (a := 1) (c := 0) d17_3 c17_41 rfl rfl rfl v15 (Nat.le_of_ble_eq_true rfl) (cq.cl (k))
theorem B_Ac_kept_6 {X : vX} {d : Nat} {M : vM} {Q : Option vV → vM → Prop} {l1 l2 s0 : Int} {q3 : Nat}  (k : cq X d 14 [vR 1, vI l1, vI l2, vR (q3 : Int)] M (fun r M1 => wp X d 17 13 [vR 1, vI l1, vI l2, vR (q3 : Int)] (r.toList ++ [vL s0]) (vS0, M1) (vP Q))) : vw X d 17 6 [vR 1, vI l1, vI l2, vR (q3 : Int)] [vL s0] M Q := by
  refine w_aload_n d17_6 rfl ?_
  refine w_iload_n d17_7 rfl ?_
  refine w_iload_n d17_8 rfl ?_
  refine w_aload_n d17_9 rfl ?_
  exact w_inv0 (a := 1) (c := 0) d17_10 c17_37 rfl rfl rfl v14 (Nat.le_of_ble_eq_true rfl) (cq.cl (k))
theorem B_Ac_kept_13 {X : vX} {d : Nat} {M : vM} {Q : Option vV → vM → Prop} {l1 l2 s0 s1 : Int} {q3 : Nat}  (k : Q (some (vL (w64 (s0 - s1)))) M) : vw X d 17 13 [vR 1, vI l1, vI l2, vR (q3 : Int)] [vL s1, vL s0] M Q := by
  refine w_lsub d17_13 ?_
  exact w_lret d17_14 r17 ⟨_, rfl, k⟩
theorem E_Ac_kept {X : vX} {d : Nat} {M : vM} {Q : Option vV → vM → Prop} {l1 l2 : Int} {q3 : Nat} (k : vw X d 17 0 [vR 1, vI l1, vI l2, vR (q3 : Int)] [] M Q) : cq X (d + 1) 17 [vR 1, vI l1, vI l2, vR (q3 : Int)] M Q := wc_in (Nat.le_of_ble_eq_true rfl) (Nat.le_of_ble_eq_true rfl) k
theorem cd18 : vm_cd 18 = cX0_stays := rfl
theorem d18_0 : decode (vm_cd 18) 0 = .ok (.aload_n 0, 1) := (congrArg (fun b => decode b 0) cd18).trans (by decide +kernel)
theorem d18_1 : decode (vm_cd 18) 1 = .ok (.iload_n 1, 1) := (congrArg (fun b => decode b 1) cd18).trans (by decide +kernel)
theorem d18_2 : decode (vm_cd 18) 2 = .ok (.iload_n 2, 1) := (congrArg (fun b => decode b 2) cd18).trans (by decide +kernel)
theorem d18_3 : decode (vm_cd 18) 3 = .ok (.aload_n 3, 1) := (congrArg (fun b => decode b 3) cd18).trans (by decide +kernel)
theorem d18_4 : decode (vm_cd 18) 4 = .ok (.invokevirtual 45, 3) := (congrArg (fun b => decode b 4) cd18).trans (by decide +kernel)
theorem d18_7 : decode (vm_cd 18) 7 = .ok (.bipush 12, 2) := (congrArg (fun b => decode b 7) cd18).trans (by decide +kernel)
theorem d18_9 : decode (vm_cd 18) 9 = .ok (.aload_n 0, 1) := (congrArg (fun b => decode b 9) cd18).trans (by decide +kernel)
theorem d18_10 : decode (vm_cd 18) 10 = .ok (.getfield 30, 3) := (congrArg (fun b => decode b 10) cd18).trans (by decide +kernel)
theorem d18_13 : decode (vm_cd 18) 13 = .ok (.imul, 1) := (congrArg (fun b => decode b 13) cd18).trans (by decide +kernel)
theorem d18_14 : decode (vm_cd 18) 14 = .ok (.i2l, 1) := (congrArg (fun b => decode b 14) cd18).trans (by decide +kernel)
theorem d18_15 : decode (vm_cd 18) 15 = .ok (.lcmp, 1) := (congrArg (fun b => decode b 15) cd18).trans (by decide +kernel)
theorem d18_16 : decode (vm_cd 18) 16 = .ok (.ifCond .lt 7, 3) := (congrArg (fun b => decode b 16) cd18).trans (by decide +kernel)
theorem d18_19 : decode (vm_cd 18) 19 = .ok (.iconst 1, 1) := (congrArg (fun b => decode b 19) cd18).trans (by decide +kernel)
theorem d18_20 : decode (vm_cd 18) 20 = .ok (.goto 4, 3) := (congrArg (fun b => decode b 20) cd18).trans (by decide +kernel)
theorem d18_23 : decode (vm_cd 18) 23 = .ok (.iconst 0, 1) := (congrArg (fun b => decode b 23) cd18).trans (by decide +kernel)
theorem d18_24 : decode (vm_cd 18) 24 = .ok (.ireturn, 1) := (congrArg (fun b => decode b 24) cd18).trans (by decide +kernel)
theorem f18_30 : vm_fl.lookup (vm_own 18, 30) = some (0, 5, 41) := by decide +kernel
theorem c18_45 : vm_ml.lookup (vm_own 18, 45) = some (0, 16, 3, 378, 354, 428, 2) := vm_lk (by decide +kernel)
theorem r18 : vm_rt 18 = (some .boolean) := by decide +kernel
theorem B_Ac_stays_0 {X : vX} {d : Nat} {M : vM} {Q : Option vV → vM → Prop} {l1 l2 : Int} {q3 : Nat}  (k : cq X d 16 [vR 1, vI l1, vI l2, vR (q3 : Int)] M (fun r M1 => wp X d 18 7 [vR 1, vI l1, vI l2, vR (q3 : Int)] (r.toList ++ []) (vS0, M1) (vP Q))) : vw X d 18 0 [vR 1, vI l1, vI l2, vR (q3 : Int)] [] M Q := by
  refine w_aload_n d18_0 rfl ?_
  refine w_iload_n d18_1 rfl ?_
  refine w_iload_n d18_2 rfl ?_
  refine w_aload_n d18_3 rfl ?_
  exact w_inv0 (a := 1) (c := 0) d18_4 c18_45 rfl rfl rfl v16 (Nat.le_of_ble_eq_true rfl) (cq.cl (k))
theorem B_Ac_stays_7 {X : vX} {d : Nat} {M : vM} {Q : Option vV → vM → Prop} {l1 l2 s0 : Int} {q3 : Nat}  (k1 : s0 < (w32 (12 * (M 1 5))) → vw X d 18 23 [vR 1, vI l1, vI l2, vR (q3 : Int)] [] M Q) (k2 : (w32 (12 * (M 1 5))) ≤ s0 → vw X d 18 19 [vR 1, vI l1, vI l2, vR (q3 : Int)] [] M Q) : vw X d 18 7 [vR 1, vI l1, vI l2, vR (q3 : Int)] [vL s0] M Q := by
  refine w_bi (v := 12) d18_7 rfl ?_
  refine w_aload_n d18_9 rfl ?_
  refine w_getf (a := 1) (v := vI (M 1 5)) d18_10 f18_30 rfl rfl rfl ?_
  refine w_imul d18_13 ?_
  refine w_i2l d18_14 ?_
  exact w_lc_lt d18_15 d18_16 rfl (fun h => k1 h) (fun h => k2 h)
theorem B_Ac_stays_19 {X : vX} {d : Nat} {M : vM} {Q : Option vV → vM → Prop} {l1 l2 : Int} {q3 : Nat}  (k : Q (some (vI 1)) M) : vw X d 18 19 [vR 1, vI l1, vI l2, vR (q3 : Int)] [] M Q := by
  refine w_ic (v := 1) d18_19 rfl ?_
  refine w_goto (tgt := 24) d18_20 rfl ?_
  exact w_zret d18_24 r18 (by decide) ⟨_, rfl, k⟩
theorem B_Ac_stays_23 {X : vX} {d : Nat} {M : vM} {Q : Option vV → vM → Prop} {l1 l2 : Int} {q3 : Nat}  (k : Q (some (vI 0)) M) : vw X d 18 23 [vR 1, vI l1, vI l2, vR (q3 : Int)] [] M Q := by
  refine w_ic (v := 0) d18_23 rfl ?_
  exact w_zret d18_24 r18 (by decide) ⟨_, rfl, k⟩
theorem E_Ac_stays {X : vX} {d : Nat} {M : vM} {Q : Option vV → vM → Prop} {l1 l2 : Int} {q3 : Nat} (k : vw X d 18 0 [vR 1, vI l1, vI l2, vR (q3 : Int)] [] M Q) : cq X (d + 1) 18 [vR 1, vI l1, vI l2, vR (q3 : Int)] M Q := wc_in (Nat.le_of_ble_eq_true rfl) (Nat.le_of_ble_eq_true rfl) k
theorem cd19 : vm_cd 19 = cX0_answered := rfl
theorem d19_0 : decode (vm_cd 19) 0 = .ok (.iconst (-1), 1) := (congrArg (fun b => decode b 0) cd19).trans (by decide +kernel)
theorem d19_1 : decode (vm_cd 19) 1 = .ok (.istore_n 3, 1) := (congrArg (fun b => decode b 1) cd19).trans (by decide +kernel)
theorem d19_2 : decode (vm_cd 19) 2 = .ok (.iconst 0, 1) := (congrArg (fun b => decode b 2) cd19).trans (by decide +kernel)
theorem d19_3 : decode (vm_cd 19) 3 = .ok (.istore 4, 2) := (congrArg (fun b => decode b 3) cd19).trans (by decide +kernel)
theorem d19_5 : decode (vm_cd 19) 5 = .ok (.iload 4, 2) := (congrArg (fun b => decode b 5) cd19).trans (by decide +kernel)
theorem d19_7 : decode (vm_cd 19) 7 = .ok (.aload_n 0, 1) := (congrArg (fun b => decode b 7) cd19).trans (by decide +kernel)
theorem d19_8 : decode (vm_cd 19) 8 = .ok (.getfield 27, 3) := (congrArg (fun b => decode b 8) cd19).trans (by decide +kernel)
theorem d19_11 : decode (vm_cd 19) 11 = .ok (.if_icmp .ge 29, 3) := (congrArg (fun b => decode b 11) cd19).trans (by decide +kernel)
theorem d19_14 : decode (vm_cd 19) 14 = .ok (.iload_n 3, 1) := (congrArg (fun b => decode b 14) cd19).trans (by decide +kernel)
theorem d19_15 : decode (vm_cd 19) 15 = .ok (.iconst (-1), 1) := (congrArg (fun b => decode b 15) cd19).trans (by decide +kernel)
theorem d19_16 : decode (vm_cd 19) 16 = .ok (.if_icmp .eq 15, 3) := (congrArg (fun b => decode b 16) cd19).trans (by decide +kernel)
theorem d19_19 : decode (vm_cd 19) 19 = .ok (.aload_n 0, 1) := (congrArg (fun b => decode b 19) cd19).trans (by decide +kernel)
theorem d19_20 : decode (vm_cd 19) 20 = .ok (.iload 4, 2) := (congrArg (fun b => decode b 20) cd19).trans (by decide +kernel)
theorem d19_22 : decode (vm_cd 19) 22 = .ok (.iload_n 3, 1) := (congrArg (fun b => decode b 22) cd19).trans (by decide +kernel)
theorem d19_23 : decode (vm_cd 19) 23 = .ok (.iload_n 1, 1) := (congrArg (fun b => decode b 23) cd19).trans (by decide +kernel)
theorem d19_24 : decode (vm_cd 19) 24 = .ok (.aload_n 2, 1) := (congrArg (fun b => decode b 24) cd19).trans (by decide +kernel)
theorem d19_25 : decode (vm_cd 19) 25 = .ok (.invokevirtual 48, 3) := (congrArg (fun b => decode b 25) cd19).trans (by decide +kernel)
theorem d19_28 : decode (vm_cd 19) 28 = .ok (.ifCond .eq 6, 3) := (congrArg (fun b => decode b 28) cd19).trans (by decide +kernel)
theorem d19_31 : decode (vm_cd 19) 31 = .ok (.iload 4, 2) := (congrArg (fun b => decode b 31) cd19).trans (by decide +kernel)
theorem d19_33 : decode (vm_cd 19) 33 = .ok (.istore_n 3, 1) := (congrArg (fun b => decode b 33) cd19).trans (by decide +kernel)
theorem d19_34 : decode (vm_cd 19) 34 = .ok (.iinc 4 1, 3) := (congrArg (fun b => decode b 34) cd19).trans (by decide +kernel)
theorem d19_37 : decode (vm_cd 19) 37 = .ok (.goto (-32), 3) := (congrArg (fun b => decode b 37) cd19).trans (by decide +kernel)
theorem d19_40 : decode (vm_cd 19) 40 = .ok (.iload_n 3, 1) := (congrArg (fun b => decode b 40) cd19).trans (by decide +kernel)
theorem d19_41 : decode (vm_cd 19) 41 = .ok (.ireturn, 1) := (congrArg (fun b => decode b 41) cd19).trans (by decide +kernel)
theorem f19_27 : vm_fl.lookup (vm_own 19, 27) = some (0, 4, 40) := by decide +kernel
theorem c19_48 : vm_ml.lookup (vm_own 19, 48) = some (0, 20, 4, 374, 376, 0, 2) := vm_lk (by decide +kernel)
theorem r19 : vm_rt 19 = (some .int) := by decide +kernel
theorem B_Ac_answered_0 {X : vX} {d : Nat} {M : vM} {Q : Option vV → vM → Prop} {l1 : Int} {q2 : Nat}  (k : vw X d 19 5 [vR 1, vI l1, vR (q2 : Int), vI ((-1)), vI 0] [] M Q) : vw X d 19 0 [vR 1, vI l1, vR (q2 : Int), vN, vN] [] M Q := by
  refine w_ic (v := (-1)) d19_0 rfl ?_
  refine w_istore_nE (ls' := [vR 1, vI l1, vR (q2 : Int), vI ((-1)), vN]) d19_1 (Nat.le_of_ble_eq_true rfl) rfl ?_
  refine w_ic (v := 0) d19_2 rfl ?_
  refine w_istoreE (ls' := [vR 1, vI l1, vR (q2 : Int), vI ((-1)), vI 0]) d19_3 (Nat.le_of_ble_eq_true rfl) rfl ?_
  exact k
theorem B_Ac_answered_5 {X : vX} {d : Nat} {M : vM} {Q : Option vV → vM → Prop} {l1 l3 l4 : Int} {q2 : Nat}  (k1 : (M 1 4) ≤ l4 → vw X d 19 40 [vR 1, vI l1, vR (q2 : Int), vI l3, vI l4] [] M Q) (k2 : l4 < (M 1 4) → vw X d 19 14 [vR 1, vI l1, vR (q2 : Int), vI l3, vI l4] [] M Q) : vw X d 19 5 [vR 1, vI l1, vR (q2 : Int), vI l3, vI l4] [] M Q := by
  refine w_iload d19_5 rfl ?_
  refine w_aload_n d19_7 rfl ?_
  refine w_getf (a := 1) (v := vI (M 1 4)) d19_8 f19_27 rfl rfl rfl ?_
  exact w_icmp_ge d19_11 rfl (fun h => k1 h) (fun h => k2 h)
theorem B_Ac_answered_14 {X : vX} {d : Nat} {M : vM} {Q : Option vV → vM → Prop} {l1 l3 l4 : Int} {q2 : Nat}  (k1 : l3 = ((-1)) → vw X d 19 31 [vR 1, vI l1, vR (q2 : Int), vI l3, vI l4] [] M Q) (k2 : ¬ l3 = ((-1)) → vw X d 19 19 [vR 1, vI l1, vR (q2 : Int), vI l3, vI l4] [] M Q) : vw X d 19 14 [vR 1, vI l1, vR (q2 : Int), vI l3, vI l4] [] M Q := by
  refine w_iload_n d19_14 rfl ?_
  refine w_ic (v := (-1)) d19_15 rfl ?_
  exact w_icmp_eq d19_16 rfl (fun h => k1 h) (fun h => k2 h)
theorem B_Ac_answered_19 {X : vX} {d : Nat} {M : vM} {Q : Option vV → vM → Prop} {l1 l3 l4 : Int} {q2 : Nat}  (k : cq X d 20 [vR 1, vI l4, vI l3, vI l1, vR (q2 : Int)] M (fun r M1 => wp X d 19 28 [vR 1, vI l1, vR (q2 : Int), vI l3, vI l4] (r.toList ++ []) (vS0, M1) (vP Q))) : vw X d 19 19 [vR 1, vI l1, vR (q2 : Int), vI l3, vI l4] [] M Q := by
  refine w_aload_n d19_19 rfl ?_
  refine w_iload d19_20 rfl ?_
  refine w_iload_n d19_22 rfl ?_
  refine w_iload_n d19_23 rfl ?_
  refine w_aload_n d19_24 rfl ?_
  exact w_inv0 (a := 1) (c := 0) d19_25 c19_48 rfl rfl rfl v20 (Nat.le_of_ble_eq_true rfl) (cq.cl (k))
theorem B_Ac_answered_28 {X : vX} {d : Nat} {M : vM} {Q : Option vV → vM → Prop} {l1 l3 l4 s0 : Int} {q2 : Nat}  (k1 : s0 = 0 → vw X d 19 34 [vR 1, vI l1, vR (q2 : Int), vI l3, vI l4] [] M Q) (k2 : ¬ s0 = 0 → vw X d 19 31 [vR 1, vI l1, vR (q2 : Int), vI l3, vI l4] [] M Q) : vw X d 19 28 [vR 1, vI l1, vR (q2 : Int), vI l3, vI l4] [vI s0] M Q := by
  exact w_if_eq d19_28 rfl (fun h => k1 h) (fun h => k2 h)
theorem B_Ac_answered_31 {X : vX} {d : Nat} {M : vM} {Q : Option vV → vM → Prop} {l1 l3 l4 : Int} {q2 : Nat}  (k : vw X d 19 5 [vR 1, vI l1, vR (q2 : Int), vI l4, vI (w32 (l4 + 1))] [] M Q) : vw X d 19 31 [vR 1, vI l1, vR (q2 : Int), vI l3, vI l4] [] M Q := by
  refine w_iload d19_31 rfl ?_
  refine w_istore_nE (ls' := [vR 1, vI l1, vR (q2 : Int), vI l4, vI l4]) d19_33 (Nat.le_of_ble_eq_true rfl) rfl ?_
  refine w_iincE (ls' := [vR 1, vI l1, vR (q2 : Int), vI l4, vI (w32 (l4 + 1))]) d19_34 rfl rfl ?_
  refine w_goto (tgt := 5) d19_37 rfl ?_
  exact k
theorem B_Ac_answered_34 {X : vX} {d : Nat} {M : vM} {Q : Option vV → vM → Prop} {l1 l3 l4 : Int} {q2 : Nat}  (k : vw X d 19 5 [vR 1, vI l1, vR (q2 : Int), vI l3, vI (w32 (l4 + 1))] [] M Q) : vw X d 19 34 [vR 1, vI l1, vR (q2 : Int), vI l3, vI l4] [] M Q := by
  refine w_iincE (ls' := [vR 1, vI l1, vR (q2 : Int), vI l3, vI (w32 (l4 + 1))]) d19_34 rfl rfl ?_
  refine w_goto (tgt := 5) d19_37 rfl ?_
  exact k
theorem B_Ac_answered_40 {X : vX} {d : Nat} {M : vM} {Q : Option vV → vM → Prop} {l1 l3 l4 : Int} {q2 : Nat}  (k : Q (some (vI l3)) M) : vw X d 19 40 [vR 1, vI l1, vR (q2 : Int), vI l3, vI l4] [] M Q := by
  refine w_iload_n d19_40 rfl ?_
  exact w_iret d19_41 r19 ⟨_, rfl, k⟩
theorem E_Ac_answered {X : vX} {d : Nat} {M : vM} {Q : Option vV → vM → Prop} {l1 : Int} {q2 : Nat} (k : vw X d 19 0 [vR 1, vI l1, vR (q2 : Int), vN, vN] [] M Q) : cq X (d + 1) 19 [vR 1, vI l1, vR (q2 : Int)] M Q := wc_in (Nat.le_of_ble_eq_true rfl) (Nat.le_of_ble_eq_true rfl) k
theorem cd20 : vm_cd 20 = cX0_isRather := rfl
theorem d20_0 : decode (vm_cd 20) 0 = .ok (.aload_n 0, 1) := (congrArg (fun b => decode b 0) cd20).trans (by decide +kernel)
theorem d20_1 : decode (vm_cd 20) 1 = .ok (.iload_n 1, 1) := (congrArg (fun b => decode b 1) cd20).trans (by decide +kernel)
theorem d20_2 : decode (vm_cd 20) 2 = .ok (.iload_n 3, 1) := (congrArg (fun b => decode b 2) cd20).trans (by decide +kernel)
theorem d20_3 : decode (vm_cd 20) 3 = .ok (.aload 4, 2) := (congrArg (fun b => decode b 3) cd20).trans (by decide +kernel)
theorem d20_5 : decode (vm_cd 20) 5 = .ok (.invokevirtual 45, 3) := (congrArg (fun b => decode b 5) cd20).trans (by decide +kernel)
theorem d20_8 : decode (vm_cd 20) 8 = .ok (.lstore 5, 2) := (congrArg (fun b => decode b 8) cd20).trans (by decide +kernel)
theorem d20_10 : decode (vm_cd 20) 10 = .ok (.aload_n 0, 1) := (congrArg (fun b => decode b 10) cd20).trans (by decide +kernel)
theorem d20_11 : decode (vm_cd 20) 11 = .ok (.iload_n 2, 1) := (congrArg (fun b => decode b 11) cd20).trans (by decide +kernel)
theorem d20_12 : decode (vm_cd 20) 12 = .ok (.iload_n 3, 1) := (congrArg (fun b => decode b 12) cd20).trans (by decide +kernel)
theorem d20_13 : decode (vm_cd 20) 13 = .ok (.aload 4, 2) := (congrArg (fun b => decode b 13) cd20).trans (by decide +kernel)
theorem d20_15 : decode (vm_cd 20) 15 = .ok (.invokevirtual 45, 3) := (congrArg (fun b => decode b 15) cd20).trans (by decide +kernel)
theorem d20_18 : decode (vm_cd 20) 18 = .ok (.lstore 7, 2) := (congrArg (fun b => decode b 18) cd20).trans (by decide +kernel)
theorem d20_20 : decode (vm_cd 20) 20 = .ok (.lload 5, 2) := (congrArg (fun b => decode b 20) cd20).trans (by decide +kernel)
theorem d20_22 : decode (vm_cd 20) 22 = .ok (.lload 7, 2) := (congrArg (fun b => decode b 22) cd20).trans (by decide +kernel)
theorem d20_24 : decode (vm_cd 20) 24 = .ok (.lcmp, 1) := (congrArg (fun b => decode b 24) cd20).trans (by decide +kernel)
theorem d20_25 : decode (vm_cd 20) 25 = .ok (.ifCond .gt 31, 3) := (congrArg (fun b => decode b 25) cd20).trans (by decide +kernel)
theorem d20_28 : decode (vm_cd 20) 28 = .ok (.lload 5, 2) := (congrArg (fun b => decode b 28) cd20).trans (by decide +kernel)
theorem d20_30 : decode (vm_cd 20) 30 = .ok (.lload 7, 2) := (congrArg (fun b => decode b 30) cd20).trans (by decide +kernel)
theorem d20_32 : decode (vm_cd 20) 32 = .ok (.lcmp, 1) := (congrArg (fun b => decode b 32) cd20).trans (by decide +kernel)
theorem d20_33 : decode (vm_cd 20) 33 = .ok (.ifCond .ne 27, 3) := (congrArg (fun b => decode b 33) cd20).trans (by decide +kernel)
theorem d20_36 : decode (vm_cd 20) 36 = .ok (.aload_n 0, 1) := (congrArg (fun b => decode b 36) cd20).trans (by decide +kernel)
theorem d20_37 : decode (vm_cd 20) 37 = .ok (.iload_n 1, 1) := (congrArg (fun b => decode b 37) cd20).trans (by decide +kernel)
theorem d20_38 : decode (vm_cd 20) 38 = .ok (.iload_n 3, 1) := (congrArg (fun b => decode b 38) cd20).trans (by decide +kernel)
theorem d20_39 : decode (vm_cd 20) 39 = .ok (.aload 4, 2) := (congrArg (fun b => decode b 39) cd20).trans (by decide +kernel)
theorem d20_41 : decode (vm_cd 20) 41 = .ok (.invokevirtual 52, 3) := (congrArg (fun b => decode b 41) cd20).trans (by decide +kernel)
theorem d20_44 : decode (vm_cd 20) 44 = .ok (.aload_n 0, 1) := (congrArg (fun b => decode b 44) cd20).trans (by decide +kernel)
theorem d20_45 : decode (vm_cd 20) 45 = .ok (.iload_n 2, 1) := (congrArg (fun b => decode b 45) cd20).trans (by decide +kernel)
theorem d20_46 : decode (vm_cd 20) 46 = .ok (.iload_n 3, 1) := (congrArg (fun b => decode b 46) cd20).trans (by decide +kernel)
theorem d20_47 : decode (vm_cd 20) 47 = .ok (.aload 4, 2) := (congrArg (fun b => decode b 47) cd20).trans (by decide +kernel)
theorem d20_49 : decode (vm_cd 20) 49 = .ok (.invokevirtual 52, 3) := (congrArg (fun b => decode b 49) cd20).trans (by decide +kernel)
theorem d20_52 : decode (vm_cd 20) 52 = .ok (.lcmp, 1) := (congrArg (fun b => decode b 52) cd20).trans (by decide +kernel)
theorem d20_53 : decode (vm_cd 20) 53 = .ok (.ifCond .le 7, 3) := (congrArg (fun b => decode b 53) cd20).trans (by decide +kernel)
theorem d20_56 : decode (vm_cd 20) 56 = .ok (.iconst 1, 1) := (congrArg (fun b => decode b 56) cd20).trans (by decide +kernel)
theorem d20_57 : decode (vm_cd 20) 57 = .ok (.goto 4, 3) := (congrArg (fun b => decode b 57) cd20).trans (by decide +kernel)
theorem d20_60 : decode (vm_cd 20) 60 = .ok (.iconst 0, 1) := (congrArg (fun b => decode b 60) cd20).trans (by decide +kernel)
theorem d20_61 : decode (vm_cd 20) 61 = .ok (.ireturn, 1) := (congrArg (fun b => decode b 61) cd20).trans (by decide +kernel)
theorem c20_45 : vm_ml.lookup (vm_own 20, 45) = some (0, 16, 3, 378, 354, 428, 2) := vm_lk (by decide +kernel)
theorem c20_52 : vm_ml.lookup (vm_own 20, 52) = some (0, 17, 3, 379, 380, 454, 2) := vm_lk (by decide +kernel)
theorem r20 : vm_rt 20 = (some .boolean) := by decide +kernel
theorem B_Ac_isRather_0 {X : vX} {d : Nat} {M : vM} {Q : Option vV → vM → Prop} {l1 l2 l3 : Int} {q4 : Nat}  (k : cq X d 16 [vR 1, vI l1, vI l3, vR (q4 : Int)] M (fun r M1 => wp X d 20 8 [vR 1, vI l1, vI l2, vI l3, vR (q4 : Int), vN, vN, vN, vN] (r.toList ++ []) (vS0, M1) (vP Q))) : vw X d 20 0 [vR 1, vI l1, vI l2, vI l3, vR (q4 : Int), vN, vN, vN, vN] [] M Q := by
  refine w_aload_n d20_0 rfl ?_
  refine w_iload_n d20_1 rfl ?_
  refine w_iload_n d20_2 rfl ?_
  refine w_aload d20_3 rfl ?_
  exact w_inv0 (a := 1) (c := 0) d20_5 c20_45 rfl rfl rfl v16 (Nat.le_of_ble_eq_true rfl) (cq.cl (k))
theorem B_Ac_isRather_8 {X : vX} {d : Nat} {M : vM} {Q : Option vV → vM → Prop} {l1 l2 l3 s0 : Int} {q4 : Nat}  (k : cq X d 16 [vR 1, vI l2, vI l3, vR (q4 : Int)] M (fun r M1 => wp X d 20 18 [vR 1, vI l1, vI l2, vI l3, vR (q4 : Int), vL s0, vN, vN, vN] (r.toList ++ []) (vS0, M1) (vP Q))) : vw X d 20 8 [vR 1, vI l1, vI l2, vI l3, vR (q4 : Int), vN, vN, vN, vN] [vL s0] M Q := by
  refine w_lstoreE (ls' := [vR 1, vI l1, vI l2, vI l3, vR (q4 : Int), vL s0, vN, vN, vN]) d20_8 (Nat.le_of_ble_eq_true rfl) rfl ?_
  refine w_aload_n d20_10 rfl ?_
  refine w_iload_n d20_11 rfl ?_
  refine w_iload_n d20_12 rfl ?_
  refine w_aload d20_13 rfl ?_
  exact w_inv0 (a := 1) (c := 0) d20_15 c20_45 rfl rfl rfl v16 (Nat.le_of_ble_eq_true rfl) (cq.cl (k))
theorem B_Ac_isRather_18 {X : vX} {d : Nat} {M : vM} {Q : Option vV → vM → Prop} {l1 l2 l3 l5 s0 : Int} {q4 : Nat}  (k1 : s0 < l5 → vw X d 20 56 [vR 1, vI l1, vI l2, vI l3, vR (q4 : Int), vL l5, vN, vL s0, vN] [] M Q) (k2 : l5 ≤ s0 → vw X d 20 28 [vR 1, vI l1, vI l2, vI l3, vR (q4 : Int), vL l5, vN, vL s0, vN] [] M Q) : vw X d 20 18 [vR 1, vI l1, vI l2, vI l3, vR (q4 : Int), vL l5, vN, vN, vN] [vL s0] M Q := by
  refine w_lstoreE (ls' := [vR 1, vI l1, vI l2, vI l3, vR (q4 : Int), vL l5, vN, vL s0, vN]) d20_18 (Nat.le_of_ble_eq_true rfl) rfl ?_
  refine w_lload d20_20 rfl ?_
  refine w_lload d20_22 rfl ?_
  exact w_lc_gt d20_24 d20_25 rfl (fun h => k1 h) (fun h => k2 h)
theorem B_Ac_isRather_28 {X : vX} {d : Nat} {M : vM} {Q : Option vV → vM → Prop} {l1 l2 l3 l5 l7 : Int} {q4 : Nat}  (k1 : ¬ l5 = l7 → vw X d 20 60 [vR 1, vI l1, vI l2, vI l3, vR (q4 : Int), vL l5, vN, vL l7, vN] [] M Q) (k2 : l5 = l7 → vw X d 20 36 [vR 1, vI l1, vI l2, vI l3, vR (q4 : Int), vL l5, vN, vL l7, vN] [] M Q) : vw X d 20 28 [vR 1, vI l1, vI l2, vI l3, vR (q4 : Int), vL l5, vN, vL l7, vN] [] M Q := by
  refine w_lload d20_28 rfl ?_
  refine w_lload d20_30 rfl ?_
  exact w_lc_ne d20_32 d20_33 rfl (fun h => k1 h) (fun h => k2 h)
theorem B_Ac_isRather_36 {X : vX} {d : Nat} {M : vM} {Q : Option vV → vM → Prop} {l1 l2 l3 l5 l7 : Int} {q4 : Nat}  (k : cq X d 17 [vR 1, vI l1, vI l3, vR (q4 : Int)] M (fun r M1 => wp X d 20 44 [vR 1, vI l1, vI l2, vI l3, vR (q4 : Int), vL l5, vN, vL l7, vN] (r.toList ++ []) (vS0, M1) (vP Q))) : vw X d 20 36 [vR 1, vI l1, vI l2, vI l3, vR (q4 : Int), vL l5, vN, vL l7, vN] [] M Q := by
  refine w_aload_n d20_36 rfl ?_
  refine w_iload_n d20_37 rfl ?_
  refine w_iload_n d20_38 rfl ?_
  refine w_aload d20_39 rfl ?_
  exact w_inv0 (a := 1) (c := 0) d20_41 c20_52 rfl rfl rfl v17 (Nat.le_of_ble_eq_true rfl) (cq.cl (k))
theorem B_Ac_isRather_44 {X : vX} {d : Nat} {M : vM} {Q : Option vV → vM → Prop} {l1 l2 l3 l5 l7 s0 : Int} {q4 : Nat}  (k : cq X d 17 [vR 1, vI l2, vI l3, vR (q4 : Int)] M (fun r M1 => wp X d 20 52 [vR 1, vI l1, vI l2, vI l3, vR (q4 : Int), vL l5, vN, vL l7, vN] (r.toList ++ [vL s0]) (vS0, M1) (vP Q))) : vw X d 20 44 [vR 1, vI l1, vI l2, vI l3, vR (q4 : Int), vL l5, vN, vL l7, vN] [vL s0] M Q := by
  refine w_aload_n d20_44 rfl ?_
  refine w_iload_n d20_45 rfl ?_
  refine w_iload_n d20_46 rfl ?_
  refine w_aload d20_47 rfl ?_
  exact w_inv0 (a := 1) (c := 0) d20_49 c20_52 rfl rfl rfl v17 (Nat.le_of_ble_eq_true rfl) (cq.cl (k))
theorem B_Ac_isRather_52 {X : vX} {d : Nat} {M : vM} {Q : Option vV → vM → Prop} {l1 l2 l3 l5 l7 s0 s1 : Int} {q4 : Nat}  (k1 : s0 ≤ s1 → vw X d 20 60 [vR 1, vI l1, vI l2, vI l3, vR (q4 : Int), vL l5, vN, vL l7, vN] [] M Q) (k2 : s1 < s0 → vw X d 20 56 [vR 1, vI l1, vI l2, vI l3, vR (q4 : Int), vL l5, vN, vL l7, vN] [] M Q) : vw X d 20 52 [vR 1, vI l1, vI l2, vI l3, vR (q4 : Int), vL l5, vN, vL l7, vN] [vL s1, vL s0] M Q := by
  exact w_lc_le d20_52 d20_53 rfl (fun h => k1 h) (fun h => k2 h)
theorem B_Ac_isRather_56 {X : vX} {d : Nat} {M : vM} {Q : Option vV → vM → Prop} {l1 l2 l3 l5 l7 : Int} {q4 : Nat}  (k : Q (some (vI 1)) M) : vw X d 20 56 [vR 1, vI l1, vI l2, vI l3, vR (q4 : Int), vL l5, vN, vL l7, vN] [] M Q := by
  refine w_ic (v := 1) d20_56 rfl ?_
  refine w_goto (tgt := 61) d20_57 rfl ?_
  exact w_zret d20_61 r20 (by decide) ⟨_, rfl, k⟩
theorem B_Ac_isRather_60 {X : vX} {d : Nat} {M : vM} {Q : Option vV → vM → Prop} {l1 l2 l3 l5 l7 : Int} {q4 : Nat}  (k : Q (some (vI 0)) M) : vw X d 20 60 [vR 1, vI l1, vI l2, vI l3, vR (q4 : Int), vL l5, vN, vL l7, vN] [] M Q := by
  refine w_ic (v := 0) d20_60 rfl ?_
  exact w_zret d20_61 r20 (by decide) ⟨_, rfl, k⟩
theorem E_Ac_isRather {X : vX} {d : Nat} {M : vM} {Q : Option vV → vM → Prop} {l1 l2 l3 : Int} {q4 : Nat} (k : vw X d 20 0 [vR 1, vI l1, vI l2, vI l3, vR (q4 : Int), vN, vN, vN, vN] [] M Q) : cq X (d + 1) 20 [vR 1, vI l1, vI l2, vI l3, vR (q4 : Int)] M Q := wc_in (Nat.le_of_ble_eq_true rfl) (Nat.le_of_ble_eq_true rfl) k
theorem cd21 : vm_cd 21 = cX0_sightAt := rfl
theorem d21_0 : decode (vm_cd 21) 0 = .ok (.iconst 0, 1) := (congrArg (fun b => decode b 0) cd21).trans (by decide +kernel)
theorem d21_1 : decode (vm_cd 21) 1 = .ok (.istore 4, 2) := (congrArg (fun b => decode b 1) cd21).trans (by decide +kernel)
theorem d21_3 : decode (vm_cd 21) 3 = .ok (.iconst 0, 1) := (congrArg (fun b => decode b 3) cd21).trans (by decide +kernel)
theorem d21_4 : decode (vm_cd 21) 4 = .ok (.istore 5, 2) := (congrArg (fun b => decode b 4) cd21).trans (by decide +kernel)
theorem d21_6 : decode (vm_cd 21) 6 = .ok (.iload 5, 2) := (congrArg (fun b => decode b 6) cd21).trans (by decide +kernel)
theorem d21_8 : decode (vm_cd 21) 8 = .ok (.aload_n 0, 1) := (congrArg (fun b => decode b 8) cd21).trans (by decide +kernel)
theorem d21_9 : decode (vm_cd 21) 9 = .ok (.getfield 23, 3) := (congrArg (fun b => decode b 9) cd21).trans (by decide +kernel)
theorem d21_12 : decode (vm_cd 21) 12 = .ok (.if_icmp .ge 31, 3) := (congrArg (fun b => decode b 12) cd21).trans (by decide +kernel)
theorem d21_15 : decode (vm_cd 21) 15 = .ok (.iload 4, 2) := (congrArg (fun b => decode b 15) cd21).trans (by decide +kernel)
theorem d21_17 : decode (vm_cd 21) 17 = .ok (.aload_n 0, 1) := (congrArg (fun b => decode b 17) cd21).trans (by decide +kernel)
theorem d21_18 : decode (vm_cd 21) 18 = .ok (.iload_n 1, 1) := (congrArg (fun b => decode b 18) cd21).trans (by decide +kernel)
theorem d21_19 : decode (vm_cd 21) 19 = .ok (.iload_n 2, 1) := (congrArg (fun b => decode b 19) cd21).trans (by decide +kernel)
theorem d21_20 : decode (vm_cd 21) 20 = .ok (.iload 5, 2) := (congrArg (fun b => decode b 20) cd21).trans (by decide +kernel)
theorem d21_22 : decode (vm_cd 21) 22 = .ok (.invokevirtual 33, 3) := (congrArg (fun b => decode b 22) cd21).trans (by decide +kernel)
theorem d21_25 : decode (vm_cd 21) 25 = .ok (.iadd, 1) := (congrArg (fun b => decode b 25) cd21).trans (by decide +kernel)
theorem d21_26 : decode (vm_cd 21) 26 = .ok (.istore 4, 2) := (congrArg (fun b => decode b 26) cd21).trans (by decide +kernel)
theorem d21_28 : decode (vm_cd 21) 28 = .ok (.iload 4, 2) := (congrArg (fun b => decode b 28) cd21).trans (by decide +kernel)
theorem d21_30 : decode (vm_cd 21) 30 = .ok (.iload_n 3, 1) := (congrArg (fun b => decode b 30) cd21).trans (by decide +kernel)
theorem d21_31 : decode (vm_cd 21) 31 = .ok (.if_icmp .le 6, 3) := (congrArg (fun b => decode b 31) cd21).trans (by decide +kernel)
theorem d21_34 : decode (vm_cd 21) 34 = .ok (.iload 5, 2) := (congrArg (fun b => decode b 34) cd21).trans (by decide +kernel)
theorem d21_36 : decode (vm_cd 21) 36 = .ok (.ireturn, 1) := (congrArg (fun b => decode b 36) cd21).trans (by decide +kernel)
theorem d21_37 : decode (vm_cd 21) 37 = .ok (.iinc 5 1, 3) := (congrArg (fun b => decode b 37) cd21).trans (by decide +kernel)
theorem d21_40 : decode (vm_cd 21) 40 = .ok (.goto (-34), 3) := (congrArg (fun b => decode b 40) cd21).trans (by decide +kernel)
theorem d21_43 : decode (vm_cd 21) 43 = .ok (.iconst (-1), 1) := (congrArg (fun b => decode b 43) cd21).trans (by decide +kernel)
theorem d21_44 : decode (vm_cd 21) 44 = .ok (.ireturn, 1) := (congrArg (fun b => decode b 44) cd21).trans (by decide +kernel)
theorem f21_23 : vm_fl.lookup (vm_own 21, 23) = some (0, 0, 36) := by decide +kernel
theorem c21_33 : vm_ml.lookup (vm_own 21, 33) = some (0, 13, 3, 361, 362, 436, 2) := vm_lk (by decide +kernel)
theorem r21 : vm_rt 21 = (some .int) := by decide +kernel
theorem B_Ac_sightAt_0 {X : vX} {d : Nat} {M : vM} {Q : Option vV → vM → Prop} {l1 l2 l3 : Int}  (k : vw X d 21 6 [vR 1, vI l1, vI l2, vI l3, vI 0, vI 0] [] M Q) : vw X d 21 0 [vR 1, vI l1, vI l2, vI l3, vN, vN] [] M Q := by
  refine w_ic (v := 0) d21_0 rfl ?_
  refine w_istoreE (ls' := [vR 1, vI l1, vI l2, vI l3, vI 0, vN]) d21_1 (Nat.le_of_ble_eq_true rfl) rfl ?_
  refine w_ic (v := 0) d21_3 rfl ?_
  refine w_istoreE (ls' := [vR 1, vI l1, vI l2, vI l3, vI 0, vI 0]) d21_4 (Nat.le_of_ble_eq_true rfl) rfl ?_
  exact k
theorem B_Ac_sightAt_6 {X : vX} {d : Nat} {M : vM} {Q : Option vV → vM → Prop} {l1 l2 l3 l4 l5 : Int}  (k1 : (M 1 0) ≤ l5 → vw X d 21 43 [vR 1, vI l1, vI l2, vI l3, vI l4, vI l5] [] M Q) (k2 : l5 < (M 1 0) → vw X d 21 15 [vR 1, vI l1, vI l2, vI l3, vI l4, vI l5] [] M Q) : vw X d 21 6 [vR 1, vI l1, vI l2, vI l3, vI l4, vI l5] [] M Q := by
  refine w_iload d21_6 rfl ?_
  refine w_aload_n d21_8 rfl ?_
  refine w_getf (a := 1) (v := vI (M 1 0)) d21_9 f21_23 rfl rfl rfl ?_
  exact w_icmp_ge d21_12 rfl (fun h => k1 h) (fun h => k2 h)
theorem B_Ac_sightAt_15 {X : vX} {d : Nat} {M : vM} {Q : Option vV → vM → Prop} {l1 l2 l3 l4 l5 : Int}  (k : cq X d 13 [vR 1, vI l1, vI l2, vI l5] M (fun r M1 => wp X d 21 25 [vR 1, vI l1, vI l2, vI l3, vI l4, vI l5] (r.toList ++ [vI l4]) (vS0, M1) (vP Q))) : vw X d 21 15 [vR 1, vI l1, vI l2, vI l3, vI l4, vI l5] [] M Q := by
  refine w_iload d21_15 rfl ?_
  refine w_aload_n d21_17 rfl ?_
  refine w_iload_n d21_18 rfl ?_
  refine w_iload_n d21_19 rfl ?_
  refine w_iload d21_20 rfl ?_
  exact w_inv0 (a := 1) (c := 0) d21_22 c21_33 rfl rfl rfl v13 (Nat.le_of_ble_eq_true rfl) (cq.cl (k))
theorem B_Ac_sightAt_25 {X : vX} {d : Nat} {M : vM} {Q : Option vV → vM → Prop} {l1 l2 l3 l4 l5 s0 s1 : Int}  (k1 : (w32 (s0 + s1)) ≤ l3 → vw X d 21 37 [vR 1, vI l1, vI l2, vI l3, vI (w32 (s0 + s1)), vI l5] [] M Q) (k2 : l3 < (w32 (s0 + s1)) → vw X d 21 34 [vR 1, vI l1, vI l2, vI l3, vI (w32 (s0 + s1)), vI l5] [] M Q) : vw X d 21 25 [vR 1, vI l1, vI l2, vI l3, vI l4, vI l5] [vI s1, vI s0] M Q := by
  refine w_iadd d21_25 ?_
  refine w_istoreE (ls' := [vR 1, vI l1, vI l2, vI l3, vI (w32 (s0 + s1)), vI l5]) d21_26 (Nat.le_of_ble_eq_true rfl) rfl ?_
  refine w_iload d21_28 rfl ?_
  refine w_iload_n d21_30 rfl ?_
  exact w_icmp_le d21_31 rfl (fun h => k1 h) (fun h => k2 h)
theorem B_Ac_sightAt_34 {X : vX} {d : Nat} {M : vM} {Q : Option vV → vM → Prop} {l1 l2 l3 l4 l5 : Int}  (k : Q (some (vI l5)) M) : vw X d 21 34 [vR 1, vI l1, vI l2, vI l3, vI l4, vI l5] [] M Q := by
  refine w_iload d21_34 rfl ?_
  exact w_iret d21_36 r21 ⟨_, rfl, k⟩
theorem B_Ac_sightAt_37 {X : vX} {d : Nat} {M : vM} {Q : Option vV → vM → Prop} {l1 l2 l3 l4 l5 : Int}  (k : vw X d 21 6 [vR 1, vI l1, vI l2, vI l3, vI l4, vI (w32 (l5 + 1))] [] M Q) : vw X d 21 37 [vR 1, vI l1, vI l2, vI l3, vI l4, vI l5] [] M Q := by
  refine w_iincE (ls' := [vR 1, vI l1, vI l2, vI l3, vI l4, vI (w32 (l5 + 1))]) d21_37 rfl rfl ?_
  refine w_goto (tgt := 6) d21_40 rfl ?_
  exact k
theorem B_Ac_sightAt_43 {X : vX} {d : Nat} {M : vM} {Q : Option vV → vM → Prop} {l1 l2 l3 l4 l5 : Int}  (k : Q (some (vI ((-1)))) M) : vw X d 21 43 [vR 1, vI l1, vI l2, vI l3, vI l4, vI l5] [] M Q := by
  refine w_ic (v := (-1)) d21_43 rfl ?_
  exact w_iret d21_44 r21 ⟨_, rfl, k⟩
theorem E_Ac_sightAt {X : vX} {d : Nat} {M : vM} {Q : Option vV → vM → Prop} {l1 l2 l3 : Int} (k : vw X d 21 0 [vR 1, vI l1, vI l2, vI l3, vN, vN] [] M Q) : cq X (d + 1) 21 [vR 1, vI l1, vI l2, vI l3] M Q := wc_in (Nat.le_of_ble_eq_true rfl) (Nat.le_of_ble_eq_true rfl) k
theorem cd22 : vm_cd 22 = cX0_askPay := rfl
theorem d22_0 : decode (vm_cd 22) 0 = .ok (.aload_n 1, 1) := (congrArg (fun b => decode b 0) cd22).trans (by decide +kernel)
theorem d22_1 : decode (vm_cd 22) 1 = .ok (.aload_n 0, 1) := (congrArg (fun b => decode b 1) cd22).trans (by decide +kernel)
theorem d22_2 : decode (vm_cd 22) 2 = .ok (.getfield 23, 3) := (congrArg (fun b => decode b 2) cd22).trans (by decide +kernel)
theorem d22_5 : decode (vm_cd 22) 5 = .ok (.invokevirtual 55, 3) := (congrArg (fun b => decode b 5) cd22).trans (by decide +kernel)
theorem d22_8 : decode (vm_cd 22) 8 = .ok (.iload_n 3, 1) := (congrArg (fun b => decode b 8) cd22).trans (by decide +kernel)
theorem d22_9 : decode (vm_cd 22) 9 = .ok (.iconst 1, 1) := (congrArg (fun b => decode b 9) cd22).trans (by decide +kernel)
theorem d22_10 : decode (vm_cd 22) 10 = .ok (.iand, 1) := (congrArg (fun b => decode b 10) cd22).trans (by decide +kernel)
theorem d22_11 : decode (vm_cd 22) 11 = .ok (.ifCond .eq 7, 3) := (congrArg (fun b => decode b 11) cd22).trans (by decide +kernel)
theorem d22_14 : decode (vm_cd 22) 14 = .ok (.iconst 0, 1) := (congrArg (fun b => decode b 14) cd22).trans (by decide +kernel)
theorem d22_15 : decode (vm_cd 22) 15 = .ok (.goto 4, 3) := (congrArg (fun b => decode b 15) cd22).trans (by decide +kernel)
theorem d22_18 : decode (vm_cd 22) 18 = .ok (.iconst 1, 1) := (congrArg (fun b => decode b 18) cd22).trans (by decide +kernel)
theorem d22_19 : decode (vm_cd 22) 19 = .ok (.istore 5, 2) := (congrArg (fun b => decode b 19) cd22).trans (by decide +kernel)
theorem d22_21 : decode (vm_cd 22) 21 = .ok (.iconst 0, 1) := (congrArg (fun b => decode b 21) cd22).trans (by decide +kernel)
theorem d22_22 : decode (vm_cd 22) 22 = .ok (.istore 6, 2) := (congrArg (fun b => decode b 22) cd22).trans (by decide +kernel)
theorem d22_24 : decode (vm_cd 22) 24 = .ok (.iload 6, 2) := (congrArg (fun b => decode b 24) cd22).trans (by decide +kernel)
theorem d22_26 : decode (vm_cd 22) 26 = .ok (.aload_n 0, 1) := (congrArg (fun b => decode b 26) cd22).trans (by decide +kernel)
theorem d22_27 : decode (vm_cd 22) 27 = .ok (.getfield 23, 3) := (congrArg (fun b => decode b 27) cd22).trans (by decide +kernel)
theorem d22_30 : decode (vm_cd 22) 30 = .ok (.if_icmp .ge 27, 3) := (congrArg (fun b => decode b 30) cd22).trans (by decide +kernel)
theorem d22_33 : decode (vm_cd 22) 33 = .ok (.aload_n 1, 1) := (congrArg (fun b => decode b 33) cd22).trans (by decide +kernel)
theorem d22_34 : decode (vm_cd 22) 34 = .ok (.aload 4, 2) := (congrArg (fun b => decode b 34) cd22).trans (by decide +kernel)
theorem d22_36 : decode (vm_cd 22) 36 = .ok (.iload 6, 2) := (congrArg (fun b => decode b 36) cd22).trans (by decide +kernel)
theorem d22_38 : decode (vm_cd 22) 38 = .ok (.iaload, 1) := (congrArg (fun b => decode b 38) cd22).trans (by decide +kernel)
theorem d22_39 : decode (vm_cd 22) 39 = .ok (.aload_n 0, 1) := (congrArg (fun b => decode b 39) cd22).trans (by decide +kernel)
theorem d22_40 : decode (vm_cd 22) 40 = .ok (.iload_n 2, 1) := (congrArg (fun b => decode b 40) cd22).trans (by decide +kernel)
theorem d22_41 : decode (vm_cd 22) 41 = .ok (.iload 5, 2) := (congrArg (fun b => decode b 41) cd22).trans (by decide +kernel)
theorem d22_43 : decode (vm_cd 22) 43 = .ok (.iload 6, 2) := (congrArg (fun b => decode b 43) cd22).trans (by decide +kernel)
theorem d22_45 : decode (vm_cd 22) 45 = .ok (.invokevirtual 33, 3) := (congrArg (fun b => decode b 45) cd22).trans (by decide +kernel)
theorem d22_48 : decode (vm_cd 22) 48 = .ok (.invokevirtual 61, 3) := (congrArg (fun b => decode b 48) cd22).trans (by decide +kernel)
theorem d22_51 : decode (vm_cd 22) 51 = .ok (.iinc 6 1, 3) := (congrArg (fun b => decode b 51) cd22).trans (by decide +kernel)
theorem d22_54 : decode (vm_cd 22) 54 = .ok (.goto (-30), 3) := (congrArg (fun b => decode b 54) cd22).trans (by decide +kernel)
theorem d22_57 : decode (vm_cd 22) 57 = .ok (.iconst 0, 1) := (congrArg (fun b => decode b 57) cd22).trans (by decide +kernel)
theorem d22_58 : decode (vm_cd 22) 58 = .ok (.istore 6, 2) := (congrArg (fun b => decode b 58) cd22).trans (by decide +kernel)
theorem d22_60 : decode (vm_cd 22) 60 = .ok (.iload 6, 2) := (congrArg (fun b => decode b 60) cd22).trans (by decide +kernel)
theorem d22_62 : decode (vm_cd 22) 62 = .ok (.iconst 2, 1) := (congrArg (fun b => decode b 62) cd22).trans (by decide +kernel)
theorem d22_63 : decode (vm_cd 22) 63 = .ok (.if_icmp .ge 28, 3) := (congrArg (fun b => decode b 63) cd22).trans (by decide +kernel)
theorem d22_66 : decode (vm_cd 22) 66 = .ok (.iload_n 3, 1) := (congrArg (fun b => decode b 66) cd22).trans (by decide +kernel)
theorem d22_67 : decode (vm_cd 22) 67 = .ok (.iload 6, 2) := (congrArg (fun b => decode b 67) cd22).trans (by decide +kernel)
theorem d22_69 : decode (vm_cd 22) 69 = .ok (.ishr, 1) := (congrArg (fun b => decode b 69) cd22).trans (by decide +kernel)
theorem d22_70 : decode (vm_cd 22) 70 = .ok (.iconst 1, 1) := (congrArg (fun b => decode b 70) cd22).trans (by decide +kernel)
theorem d22_71 : decode (vm_cd 22) 71 = .ok (.iand, 1) := (congrArg (fun b => decode b 71) cd22).trans (by decide +kernel)
theorem d22_72 : decode (vm_cd 22) 72 = .ok (.ifCond .eq 13, 3) := (congrArg (fun b => decode b 72) cd22).trans (by decide +kernel)
theorem d22_75 : decode (vm_cd 22) 75 = .ok (.aload_n 0, 1) := (congrArg (fun b => decode b 75) cd22).trans (by decide +kernel)
theorem d22_76 : decode (vm_cd 22) 76 = .ok (.aload_n 1, 1) := (congrArg (fun b => decode b 76) cd22).trans (by decide +kernel)
theorem d22_77 : decode (vm_cd 22) 77 = .ok (.iload_n 2, 1) := (congrArg (fun b => decode b 77) cd22).trans (by decide +kernel)
theorem d22_78 : decode (vm_cd 22) 78 = .ok (.iload 6, 2) := (congrArg (fun b => decode b 78) cd22).trans (by decide +kernel)
theorem d22_80 : decode (vm_cd 22) 80 = .ok (.aload 4, 2) := (congrArg (fun b => decode b 80) cd22).trans (by decide +kernel)
theorem d22_82 : decode (vm_cd 22) 82 = .ok (.invokevirtual 65, 3) := (congrArg (fun b => decode b 82) cd22).trans (by decide +kernel)
theorem d22_85 : decode (vm_cd 22) 85 = .ok (.iinc 6 1, 3) := (congrArg (fun b => decode b 85) cd22).trans (by decide +kernel)
theorem d22_88 : decode (vm_cd 22) 88 = .ok (.goto (-28), 3) := (congrArg (fun b => decode b 88) cd22).trans (by decide +kernel)
theorem d22_91 : decode (vm_cd 22) 91 = .ok (.return_, 1) := (congrArg (fun b => decode b 91) cd22).trans (by decide +kernel)
theorem f22_23 : vm_fl.lookup (vm_own 22, 23) = some (0, 0, 36) := by decide +kernel
theorem c22_33 : vm_ml.lookup (vm_own 22, 33) = some (0, 13, 3, 361, 362, 436, 2) := vm_lk (by decide +kernel)
theorem c22_55 : vm_ml.lookup (vm_own 22, 55) = some (0, 85, 1, 402, 403, 477, 4) := vm_lk (by decide +kernel)
theorem c22_61 : vm_ml.lookup (vm_own 22, 61) = some (0, 87, 2, 416, 417, 491, 4) := vm_lk (by decide +kernel)
theorem c22_65 : vm_ml.lookup (vm_own 22, 65) = some (0, 23, 4, 421, 423, 3, 2) := vm_lk (by decide +kernel)
theorem r22 : vm_rt 22 = none := by decide +kernel
theorem B_Ac_askPay_0 {X : vX} {d : Nat} {M : vM} {Q : Option vV → vM → Prop} {l2 l3 : Int} {q4 : Nat}  (k : cq X d 85 [vR 13, vI (M 1 0)] M (fun r M1 => wp X d 22 8 [vR 1, vR 13, vI l2, vI l3, vR (q4 : Int), vN, vN] (r.toList ++ []) (vS0, M1) (vP Q))) : vw X d 22 0 [vR 1, vR 13, vI l2, vI l3, vR (q4 : Int), vN, vN] [] M Q := by
  refine w_aload_n d22_0 rfl ?_
  refine w_aload_n d22_1 rfl ?_
  refine w_getf (a := 1) (v := vI (M 1 0)) d22_2 f22_23 rfl rfl rfl ?_
  exact w_inv0 (a := 13) (c := 6) d22_5 c22_55 rfl rfl rfl v85 (Nat.le_of_ble_eq_true rfl) (cq.cl (k))
theorem B_Ac_askPay_8 {X : vX} {d : Nat} {M : vM} {Q : Option vV → vM → Prop} {l2 l3 : Int} {q4 : Nat}  (k1 : (j_iand l3 1) = 0 → vw X d 22 18 [vR 1, vR 13, vI l2, vI l3, vR (q4 : Int), vN, vN] [] M Q) (k2 : ¬ (j_iand l3 1) = 0 → vw X d 22 14 [vR 1, vR 13, vI l2, vI l3, vR (q4 : Int), vN, vN] [] M Q) : vw X d 22 8 [vR 1, vR 13, vI l2, vI l3, vR (q4 : Int), vN, vN] [] M Q := by
  refine w_iload_n d22_8 rfl ?_
  refine w_ic (v := 1) d22_9 rfl ?_
  refine w_iand d22_10 ?_
  exact w_if_eq d22_11 rfl (fun h => k1 h) (fun h => k2 h)
theorem B_Ac_askPay_14 {X : vX} {d : Nat} {M : vM} {Q : Option vV → vM → Prop} {l2 l3 : Int} {q4 : Nat}  (k : vw X d 22 24 [vR 1, vR 13, vI l2, vI l3, vR (q4 : Int), vI 0, vI 0] [] M Q) : vw X d 22 14 [vR 1, vR 13, vI l2, vI l3, vR (q4 : Int), vN, vN] [] M Q := by
  refine w_ic (v := 0) d22_14 rfl ?_
  refine w_goto (tgt := 19) d22_15 rfl ?_
  refine w_istoreE (ls' := [vR 1, vR 13, vI l2, vI l3, vR (q4 : Int), vI 0, vN]) d22_19 (Nat.le_of_ble_eq_true rfl) rfl ?_
  refine w_ic (v := 0) d22_21 rfl ?_
  refine w_istoreE (ls' := [vR 1, vR 13, vI l2, vI l3, vR (q4 : Int), vI 0, vI 0]) d22_22 (Nat.le_of_ble_eq_true rfl) rfl ?_
  exact k
theorem B_Ac_askPay_18 {X : vX} {d : Nat} {M : vM} {Q : Option vV → vM → Prop} {l2 l3 : Int} {q4 : Nat}  (k : vw X d 22 24 [vR 1, vR 13, vI l2, vI l3, vR (q4 : Int), vI 1, vI 0] [] M Q) : vw X d 22 18 [vR 1, vR 13, vI l2, vI l3, vR (q4 : Int), vN, vN] [] M Q := by
  refine w_ic (v := 1) d22_18 rfl ?_
  refine w_istoreE (ls' := [vR 1, vR 13, vI l2, vI l3, vR (q4 : Int), vI 1, vN]) d22_19 (Nat.le_of_ble_eq_true rfl) rfl ?_
  refine w_ic (v := 0) d22_21 rfl ?_
  refine w_istoreE (ls' := [vR 1, vR 13, vI l2, vI l3, vR (q4 : Int), vI 1, vI 0]) d22_22 (Nat.le_of_ble_eq_true rfl) rfl ?_
  exact k
theorem B_Ac_askPay_24 {X : vX} {d : Nat} {M : vM} {Q : Option vV → vM → Prop} {l2 l3 l5 l6 : Int} {q4 : Nat}  (k1 : (M 1 0) ≤ l6 → vw X d 22 57 [vR 1, vR 13, vI l2, vI l3, vR (q4 : Int), vI l5, vI l6] [] M Q) (k2 : l6 < (M 1 0) → vw X d 22 33 [vR 1, vR 13, vI l2, vI l3, vR (q4 : Int), vI l5, vI l6] [] M Q) : vw X d 22 24 [vR 1, vR 13, vI l2, vI l3, vR (q4 : Int), vI l5, vI l6] [] M Q := by
  refine w_iload d22_24 rfl ?_
  refine w_aload_n d22_26 rfl ?_
  refine w_getf (a := 1) (v := vI (M 1 0)) d22_27 f22_23 rfl rfl rfl ?_
  exact w_icmp_ge d22_30 rfl (fun h => k1 h) (fun h => k2 h)
theorem B_Ac_askPay_33 {X : vX} {d : Nat} {M : vM} {Q : Option vV → vM → Prop} {l2 l3 l5 l6 : Int} {q4 : Nat} (hq4 : vS0[q4]? = some (.inr (0, 4))) (h1 : 0 ≤ l6 ∧ l6 < (4 : Nat)) (k : cq X d 13 [vR 1, vI l2, vI l5, vI l6] M (fun r M1 => wp X d 22 48 [vR 1, vR 13, vI l2, vI l3, vR (q4 : Int), vI l5, vI l6] (r.toList ++ [vI (M q4 l6.toNat), vR 13]) (vS0, M1) (vP Q))) : vw X d 22 33 [vR 1, vR 13, vI l2, vI l3, vR (q4 : Int), vI l5, vI l6] [] M Q := by
  refine w_aload_n d22_33 rfl ?_
  refine w_aload d22_34 rfl ?_
  refine w_iload d22_36 rfl ?_
  refine w_iaload (a := q4) d22_38 rfl hq4 h1 ?_
  refine w_aload_n d22_39 rfl ?_
  refine w_iload_n d22_40 rfl ?_
  refine w_iload d22_41 rfl ?_
  refine w_iload d22_43 rfl ?_
  exact w_inv0 (a := 1) (c := 0) d22_45 c22_33 rfl rfl rfl v13 (Nat.le_of_ble_eq_true rfl) (cq.cl (k))
theorem B_Ac_askPay_48 {X : vX} {d : Nat} {M : vM} {Q : Option vV → vM → Prop} {l2 l3 l5 l6 s1 s2 : Int} {q4 : Nat}  (k : cq X d 87 [vR 13, vI s1, vI s2] M (fun r M1 => wp X d 22 51 [vR 1, vR 13, vI l2, vI l3, vR (q4 : Int), vI l5, vI l6] (r.toList ++ []) (vS0, M1) (vP Q))) : vw X d 22 48 [vR 1, vR 13, vI l2, vI l3, vR (q4 : Int), vI l5, vI l6] [vI s2, vI s1, vR 13] M Q := by
  exact w_inv0 (a := 13) (c := 6) d22_48 c22_61 rfl rfl rfl v87 (Nat.le_of_ble_eq_true rfl) (cq.cl (k))
theorem B_Ac_askPay_51 {X : vX} {d : Nat} {M : vM} {Q : Option vV → vM → Prop} {l2 l3 l5 l6 : Int} {q4 : Nat}  (k : vw X d 22 24 [vR 1, vR 13, vI l2, vI l3, vR (q4 : Int), vI l5, vI (w32 (l6 + 1))] [] M Q) : vw X d 22 51 [vR 1, vR 13, vI l2, vI l3, vR (q4 : Int), vI l5, vI l6] [] M Q := by
  refine w_iincE (ls' := [vR 1, vR 13, vI l2, vI l3, vR (q4 : Int), vI l5, vI (w32 (l6 + 1))]) d22_51 rfl rfl ?_
  refine w_goto (tgt := 24) d22_54 rfl ?_
  exact k
theorem B_Ac_askPay_57 {X : vX} {d : Nat} {M : vM} {Q : Option vV → vM → Prop} {l2 l3 l5 l6 : Int} {q4 : Nat}  (k : vw X d 22 60 [vR 1, vR 13, vI l2, vI l3, vR (q4 : Int), vI l5, vI 0] [] M Q) : vw X d 22 57 [vR 1, vR 13, vI l2, vI l3, vR (q4 : Int), vI l5, vI l6] [] M Q := by
  refine w_ic (v := 0) d22_57 rfl ?_
  refine w_istoreE (ls' := [vR 1, vR 13, vI l2, vI l3, vR (q4 : Int), vI l5, vI 0]) d22_58 (Nat.le_of_ble_eq_true rfl) rfl ?_
  exact k
theorem B_Ac_askPay_60 {X : vX} {d : Nat} {M : vM} {Q : Option vV → vM → Prop} {l2 l3 l5 l6 : Int} {q4 : Nat}  (k1 : 2 ≤ l6 → vw X d 22 91 [vR 1, vR 13, vI l2, vI l3, vR (q4 : Int), vI l5, vI l6] [] M Q) (k2 : l6 < 2 → vw X d 22 66 [vR 1, vR 13, vI l2, vI l3, vR (q4 : Int), vI l5, vI l6] [] M Q) : vw X d 22 60 [vR 1, vR 13, vI l2, vI l3, vR (q4 : Int), vI l5, vI l6] [] M Q := by
  refine w_iload d22_60 rfl ?_
  refine w_ic (v := 2) d22_62 rfl ?_
  exact w_icmp_ge d22_63 rfl (fun h => k1 h) (fun h => k2 h)
theorem B_Ac_askPay_66 {X : vX} {d : Nat} {M : vM} {Q : Option vV → vM → Prop} {l2 l3 l5 l6 : Int} {q4 : Nat}  (k1 : (j_iand (j_ishr l3 l6) 1) = 0 → vw X d 22 85 [vR 1, vR 13, vI l2, vI l3, vR (q4 : Int), vI l5, vI l6] [] M Q) (k2 : ¬ (j_iand (j_ishr l3 l6) 1) = 0 → vw X d 22 75 [vR 1, vR 13, vI l2, vI l3, vR (q4 : Int), vI l5, vI l6] [] M Q) : vw X d 22 66 [vR 1, vR 13, vI l2, vI l3, vR (q4 : Int), vI l5, vI l6] [] M Q := by
  refine w_iload_n d22_66 rfl ?_
  refine w_iload d22_67 rfl ?_
  refine w_ishr d22_69 ?_
  refine w_ic (v := 1) d22_70 rfl ?_
  refine w_iand d22_71 ?_
  exact w_if_eq d22_72 rfl (fun h => k1 h) (fun h => k2 h)
theorem B_Ac_askPay_75 {X : vX} {d : Nat} {M : vM} {Q : Option vV → vM → Prop} {l2 l3 l5 l6 : Int} {q4 : Nat}  (k : cq X d 23 [vR 1, vR 13, vI l2, vI l6, vR (q4 : Int)] M (fun r M1 => wp X d 22 85 [vR 1, vR 13, vI l2, vI l3, vR (q4 : Int), vI l5, vI l6] (r.toList ++ []) (vS0, M1) (vP Q))) : vw X d 22 75 [vR 1, vR 13, vI l2, vI l3, vR (q4 : Int), vI l5, vI l6] [] M Q := by
  refine w_aload_n d22_75 rfl ?_
  refine w_aload_n d22_76 rfl ?_
  refine w_iload_n d22_77 rfl ?_
  refine w_iload d22_78 rfl ?_
  refine w_aload d22_80 rfl ?_
  exact w_inv0 (a := 1) (c := 0) d22_82 c22_65 rfl rfl rfl v23 (Nat.le_of_ble_eq_true rfl) (cq.cl (k))
theorem B_Ac_askPay_85 {X : vX} {d : Nat} {M : vM} {Q : Option vV → vM → Prop} {l2 l3 l5 l6 : Int} {q4 : Nat}  (k : vw X d 22 60 [vR 1, vR 13, vI l2, vI l3, vR (q4 : Int), vI l5, vI (w32 (l6 + 1))] [] M Q) : vw X d 22 85 [vR 1, vR 13, vI l2, vI l3, vR (q4 : Int), vI l5, vI l6] [] M Q := by
  refine w_iincE (ls' := [vR 1, vR 13, vI l2, vI l3, vR (q4 : Int), vI l5, vI (w32 (l6 + 1))]) d22_85 rfl rfl ?_
  refine w_goto (tgt := 60) d22_88 rfl ?_
  exact k
theorem B_Ac_askPay_91 {X : vX} {d : Nat} {M : vM} {Q : Option vV → vM → Prop} {l2 l3 l5 l6 : Int} {q4 : Nat}  (k : Q none M) : vw X d 22 91 [vR 1, vR 13, vI l2, vI l3, vR (q4 : Int), vI l5, vI l6] [] M Q := by
  exact w_vret d22_91 r22 ⟨_, rfl, k⟩
theorem E_Ac_askPay {X : vX} {d : Nat} {M : vM} {Q : Option vV → vM → Prop} {l2 l3 : Int} {q4 : Nat} (k : vw X d 22 0 [vR 1, vR 13, vI l2, vI l3, vR (q4 : Int), vN, vN] [] M Q) : cq X (d + 1) 22 [vR 1, vR 13, vI l2, vI l3, vR (q4 : Int)] M Q := wc_in (Nat.le_of_ble_eq_true rfl) (Nat.le_of_ble_eq_true rfl) k
theorem cd23 : vm_cd 23 = cX0_askPayIn := rfl
theorem d23_0 : decode (vm_cd 23) 0 = .ok (.aload_n 1, 1) := (congrArg (fun b => decode b 0) cd23).trans (by decide +kernel)
theorem d23_1 : decode (vm_cd 23) 1 = .ok (.bipush 12, 2) := (congrArg (fun b => decode b 1) cd23).trans (by decide +kernel)
theorem d23_3 : decode (vm_cd 23) 3 = .ok (.aload_n 0, 1) := (congrArg (fun b => decode b 3) cd23).trans (by decide +kernel)
theorem d23_4 : decode (vm_cd 23) 4 = .ok (.getfield 9, 3) := (congrArg (fun b => decode b 4) cd23).trans (by decide +kernel)
theorem d23_7 : decode (vm_cd 23) 7 = .ok (.iload_n 2, 1) := (congrArg (fun b => decode b 7) cd23).trans (by decide +kernel)
theorem d23_8 : decode (vm_cd 23) 8 = .ok (.iaload, 1) := (congrArg (fun b => decode b 8) cd23).trans (by decide +kernel)
theorem d23_9 : decode (vm_cd 23) 9 = .ok (.aload_n 0, 1) := (congrArg (fun b => decode b 9) cd23).trans (by decide +kernel)
theorem d23_10 : decode (vm_cd 23) 10 = .ok (.getfield 30, 3) := (congrArg (fun b => decode b 10) cd23).trans (by decide +kernel)
theorem d23_13 : decode (vm_cd 23) 13 = .ok (.iadd, 1) := (congrArg (fun b => decode b 13) cd23).trans (by decide +kernel)
theorem d23_14 : decode (vm_cd 23) 14 = .ok (.imul, 1) := (congrArg (fun b => decode b 14) cd23).trans (by decide +kernel)
theorem d23_15 : decode (vm_cd 23) 15 = .ok (.invokevirtual 69, 3) := (congrArg (fun b => decode b 15) cd23).trans (by decide +kernel)
theorem d23_18 : decode (vm_cd 23) 18 = .ok (.iconst 0, 1) := (congrArg (fun b => decode b 18) cd23).trans (by decide +kernel)
theorem d23_19 : decode (vm_cd 23) 19 = .ok (.istore 5, 2) := (congrArg (fun b => decode b 19) cd23).trans (by decide +kernel)
theorem d23_21 : decode (vm_cd 23) 21 = .ok (.iload 5, 2) := (congrArg (fun b => decode b 21) cd23).trans (by decide +kernel)
theorem d23_23 : decode (vm_cd 23) 23 = .ok (.aload_n 0, 1) := (congrArg (fun b => decode b 23) cd23).trans (by decide +kernel)
theorem d23_24 : decode (vm_cd 23) 24 = .ok (.getfield 23, 3) := (congrArg (fun b => decode b 24) cd23).trans (by decide +kernel)
theorem d23_27 : decode (vm_cd 23) 27 = .ok (.if_icmp .ge 26, 3) := (congrArg (fun b => decode b 27) cd23).trans (by decide +kernel)
theorem d23_30 : decode (vm_cd 23) 30 = .ok (.aload_n 1, 1) := (congrArg (fun b => decode b 30) cd23).trans (by decide +kernel)
theorem d23_31 : decode (vm_cd 23) 31 = .ok (.aload 4, 2) := (congrArg (fun b => decode b 31) cd23).trans (by decide +kernel)
theorem d23_33 : decode (vm_cd 23) 33 = .ok (.iload 5, 2) := (congrArg (fun b => decode b 33) cd23).trans (by decide +kernel)
theorem d23_35 : decode (vm_cd 23) 35 = .ok (.iaload, 1) := (congrArg (fun b => decode b 35) cd23).trans (by decide +kernel)
theorem d23_36 : decode (vm_cd 23) 36 = .ok (.aload_n 0, 1) := (congrArg (fun b => decode b 36) cd23).trans (by decide +kernel)
theorem d23_37 : decode (vm_cd 23) 37 = .ok (.iload_n 2, 1) := (congrArg (fun b => decode b 37) cd23).trans (by decide +kernel)
theorem d23_38 : decode (vm_cd 23) 38 = .ok (.iload_n 3, 1) := (congrArg (fun b => decode b 38) cd23).trans (by decide +kernel)
theorem d23_39 : decode (vm_cd 23) 39 = .ok (.iload 5, 2) := (congrArg (fun b => decode b 39) cd23).trans (by decide +kernel)
theorem d23_41 : decode (vm_cd 23) 41 = .ok (.invokevirtual 33, 3) := (congrArg (fun b => decode b 41) cd23).trans (by decide +kernel)
theorem d23_44 : decode (vm_cd 23) 44 = .ok (.invokevirtual 72, 3) := (congrArg (fun b => decode b 44) cd23).trans (by decide +kernel)
theorem d23_47 : decode (vm_cd 23) 47 = .ok (.iinc 5 1, 3) := (congrArg (fun b => decode b 47) cd23).trans (by decide +kernel)
theorem d23_50 : decode (vm_cd 23) 50 = .ok (.goto (-29), 3) := (congrArg (fun b => decode b 50) cd23).trans (by decide +kernel)
theorem d23_53 : decode (vm_cd 23) 53 = .ok (.iconst 0, 1) := (congrArg (fun b => decode b 53) cd23).trans (by decide +kernel)
theorem d23_54 : decode (vm_cd 23) 54 = .ok (.istore 5, 2) := (congrArg (fun b => decode b 54) cd23).trans (by decide +kernel)
theorem d23_56 : decode (vm_cd 23) 56 = .ok (.iload 5, 2) := (congrArg (fun b => decode b 56) cd23).trans (by decide +kernel)
theorem d23_58 : decode (vm_cd 23) 58 = .ok (.aload_n 0, 1) := (congrArg (fun b => decode b 58) cd23).trans (by decide +kernel)
theorem d23_59 : decode (vm_cd 23) 59 = .ok (.getfield 27, 3) := (congrArg (fun b => decode b 59) cd23).trans (by decide +kernel)
theorem d23_62 : decode (vm_cd 23) 62 = .ok (.if_icmp .ge 81, 3) := (congrArg (fun b => decode b 62) cd23).trans (by decide +kernel)
theorem d23_65 : decode (vm_cd 23) 65 = .ok (.iload 5, 2) := (congrArg (fun b => decode b 65) cd23).trans (by decide +kernel)
theorem d23_67 : decode (vm_cd 23) 67 = .ok (.iload_n 2, 1) := (congrArg (fun b => decode b 67) cd23).trans (by decide +kernel)
theorem d23_68 : decode (vm_cd 23) 68 = .ok (.if_icmp .eq 69, 3) := (congrArg (fun b => decode b 68) cd23).trans (by decide +kernel)
theorem d23_71 : decode (vm_cd 23) 71 = .ok (.aload_n 1, 1) := (congrArg (fun b => decode b 71) cd23).trans (by decide +kernel)
theorem d23_72 : decode (vm_cd 23) 72 = .ok (.bipush 12, 2) := (congrArg (fun b => decode b 72) cd23).trans (by decide +kernel)
theorem d23_74 : decode (vm_cd 23) 74 = .ok (.aload_n 0, 1) := (congrArg (fun b => decode b 74) cd23).trans (by decide +kernel)
theorem d23_75 : decode (vm_cd 23) 75 = .ok (.getfield 9, 3) := (congrArg (fun b => decode b 75) cd23).trans (by decide +kernel)
theorem d23_78 : decode (vm_cd 23) 78 = .ok (.iload_n 2, 1) := (congrArg (fun b => decode b 78) cd23).trans (by decide +kernel)
theorem d23_79 : decode (vm_cd 23) 79 = .ok (.iaload, 1) := (congrArg (fun b => decode b 79) cd23).trans (by decide +kernel)
theorem d23_80 : decode (vm_cd 23) 80 = .ok (.aload_n 0, 1) := (congrArg (fun b => decode b 80) cd23).trans (by decide +kernel)
theorem d23_81 : decode (vm_cd 23) 81 = .ok (.getfield 9, 3) := (congrArg (fun b => decode b 81) cd23).trans (by decide +kernel)
theorem d23_84 : decode (vm_cd 23) 84 = .ok (.iload 5, 2) := (congrArg (fun b => decode b 84) cd23).trans (by decide +kernel)
theorem d23_86 : decode (vm_cd 23) 86 = .ok (.iaload, 1) := (congrArg (fun b => decode b 86) cd23).trans (by decide +kernel)
theorem d23_87 : decode (vm_cd 23) 87 = .ok (.isub, 1) := (congrArg (fun b => decode b 87) cd23).trans (by decide +kernel)
theorem d23_88 : decode (vm_cd 23) 88 = .ok (.imul, 1) := (congrArg (fun b => decode b 88) cd23).trans (by decide +kernel)
theorem d23_89 : decode (vm_cd 23) 89 = .ok (.invokevirtual 69, 3) := (congrArg (fun b => decode b 89) cd23).trans (by decide +kernel)
theorem d23_92 : decode (vm_cd 23) 92 = .ok (.iconst 0, 1) := (congrArg (fun b => decode b 92) cd23).trans (by decide +kernel)
theorem d23_93 : decode (vm_cd 23) 93 = .ok (.istore 6, 2) := (congrArg (fun b => decode b 93) cd23).trans (by decide +kernel)
theorem d23_95 : decode (vm_cd 23) 95 = .ok (.iload 6, 2) := (congrArg (fun b => decode b 95) cd23).trans (by decide +kernel)
theorem d23_97 : decode (vm_cd 23) 97 = .ok (.aload_n 0, 1) := (congrArg (fun b => decode b 97) cd23).trans (by decide +kernel)
theorem d23_98 : decode (vm_cd 23) 98 = .ok (.getfield 23, 3) := (congrArg (fun b => decode b 98) cd23).trans (by decide +kernel)
theorem d23_101 : decode (vm_cd 23) 101 = .ok (.if_icmp .ge 36, 3) := (congrArg (fun b => decode b 101) cd23).trans (by decide +kernel)
theorem d23_104 : decode (vm_cd 23) 104 = .ok (.aload_n 1, 1) := (congrArg (fun b => decode b 104) cd23).trans (by decide +kernel)
theorem d23_105 : decode (vm_cd 23) 105 = .ok (.aload 4, 2) := (congrArg (fun b => decode b 105) cd23).trans (by decide +kernel)
theorem d23_107 : decode (vm_cd 23) 107 = .ok (.iload 6, 2) := (congrArg (fun b => decode b 107) cd23).trans (by decide +kernel)
theorem d23_109 : decode (vm_cd 23) 109 = .ok (.iaload, 1) := (congrArg (fun b => decode b 109) cd23).trans (by decide +kernel)
theorem d23_110 : decode (vm_cd 23) 110 = .ok (.aload_n 0, 1) := (congrArg (fun b => decode b 110) cd23).trans (by decide +kernel)
theorem d23_111 : decode (vm_cd 23) 111 = .ok (.iload_n 2, 1) := (congrArg (fun b => decode b 111) cd23).trans (by decide +kernel)
theorem d23_112 : decode (vm_cd 23) 112 = .ok (.iload_n 3, 1) := (congrArg (fun b => decode b 112) cd23).trans (by decide +kernel)
theorem d23_113 : decode (vm_cd 23) 113 = .ok (.iload 6, 2) := (congrArg (fun b => decode b 113) cd23).trans (by decide +kernel)
theorem d23_115 : decode (vm_cd 23) 115 = .ok (.invokevirtual 33, 3) := (congrArg (fun b => decode b 115) cd23).trans (by decide +kernel)
theorem d23_118 : decode (vm_cd 23) 118 = .ok (.aload_n 0, 1) := (congrArg (fun b => decode b 118) cd23).trans (by decide +kernel)
theorem d23_119 : decode (vm_cd 23) 119 = .ok (.iload 5, 2) := (congrArg (fun b => decode b 119) cd23).trans (by decide +kernel)
theorem d23_121 : decode (vm_cd 23) 121 = .ok (.iload_n 3, 1) := (congrArg (fun b => decode b 121) cd23).trans (by decide +kernel)
theorem d23_122 : decode (vm_cd 23) 122 = .ok (.iload 6, 2) := (congrArg (fun b => decode b 122) cd23).trans (by decide +kernel)
theorem d23_124 : decode (vm_cd 23) 124 = .ok (.invokevirtual 33, 3) := (congrArg (fun b => decode b 124) cd23).trans (by decide +kernel)
theorem d23_127 : decode (vm_cd 23) 127 = .ok (.isub, 1) := (congrArg (fun b => decode b 127) cd23).trans (by decide +kernel)
theorem d23_128 : decode (vm_cd 23) 128 = .ok (.invokevirtual 72, 3) := (congrArg (fun b => decode b 128) cd23).trans (by decide +kernel)
theorem d23_131 : decode (vm_cd 23) 131 = .ok (.iinc 6 1, 3) := (congrArg (fun b => decode b 131) cd23).trans (by decide +kernel)
theorem d23_134 : decode (vm_cd 23) 134 = .ok (.goto (-39), 3) := (congrArg (fun b => decode b 134) cd23).trans (by decide +kernel)
theorem d23_137 : decode (vm_cd 23) 137 = .ok (.iinc 5 1, 3) := (congrArg (fun b => decode b 137) cd23).trans (by decide +kernel)
theorem d23_140 : decode (vm_cd 23) 140 = .ok (.goto (-84), 3) := (congrArg (fun b => decode b 140) cd23).trans (by decide +kernel)
theorem d23_143 : decode (vm_cd 23) 143 = .ok (.return_, 1) := (congrArg (fun b => decode b 143) cd23).trans (by decide +kernel)
theorem f23_9 : vm_fl.lookup (vm_own 23, 9) = some (0, 1, 37) := by decide +kernel
theorem f23_23 : vm_fl.lookup (vm_own 23, 23) = some (0, 0, 36) := by decide +kernel
theorem f23_27 : vm_fl.lookup (vm_own 23, 27) = some (0, 4, 40) := by decide +kernel
theorem f23_30 : vm_fl.lookup (vm_own 23, 30) = some (0, 5, 41) := by decide +kernel
theorem c23_33 : vm_ml.lookup (vm_own 23, 33) = some (0, 13, 3, 361, 362, 436, 2) := vm_lk (by decide +kernel)
theorem c23_69 : vm_ml.lookup (vm_own 23, 69) = some (0, 88, 1, 425, 426, 500, 4) := vm_lk (by decide +kernel)
theorem c23_72 : vm_ml.lookup (vm_own 23, 72) = some (0, 89, 2, 429, 430, 504, 4) := vm_lk (by decide +kernel)
theorem r23 : vm_rt 23 = none := by decide +kernel
theorem B_Ac_askPayIn_0 {X : vX} {d : Nat} {M : vM} {Q : Option vV → vM → Prop} {l2 l3 : Int} {q4 : Nat} (hR : vRefs M) (h1 : 0 ≤ l2 ∧ l2 < (4 : Nat)) (k : cq X d 88 [vR 13, vI (w32 (12 * (w32 ((M 2 l2.toNat) + (M 1 5)))))] M (fun r M1 => wp X d 23 18 [vR 1, vR 13, vI l2, vI l3, vR (q4 : Int), vN, vN] (r.toList ++ []) (vS0, M1) (vP Q))) : vw X d 23 0 [vR 1, vR 13, vI l2, vI l3, vR (q4 : Int), vN, vN] [] M Q := by
  refine w_aload_n d23_0 rfl ?_
  refine w_bi (v := 12) d23_1 rfl ?_
  refine w_aload_n d23_3 rfl ?_
  refine w_getf (a := 1) (v := vR 2) d23_4 f23_9 rfl rfl (congrArg vR (rf_1_1 hR)) ?_
  refine w_iload_n d23_7 rfl ?_
  refine w_iaload (a := 2) d23_8 rfl rfl h1 ?_
  refine w_aload_n d23_9 rfl ?_
  refine w_getf (a := 1) (v := vI (M 1 5)) d23_10 f23_30 rfl rfl rfl ?_
  refine w_iadd d23_13 ?_
  refine w_imul d23_14 ?_
  exact w_inv0 (a := 13) (c := 6) d23_15 c23_69 rfl rfl rfl v88 (Nat.le_of_ble_eq_true rfl) (cq.cl (k))
theorem B_Ac_askPayIn_18 {X : vX} {d : Nat} {M : vM} {Q : Option vV → vM → Prop} {l2 l3 : Int} {q4 : Nat}  (k : vw X d 23 21 [vR 1, vR 13, vI l2, vI l3, vR (q4 : Int), vI 0, vN] [] M Q) : vw X d 23 18 [vR 1, vR 13, vI l2, vI l3, vR (q4 : Int), vN, vN] [] M Q := by
  refine w_ic (v := 0) d23_18 rfl ?_
  refine w_istoreE (ls' := [vR 1, vR 13, vI l2, vI l3, vR (q4 : Int), vI 0, vN]) d23_19 (Nat.le_of_ble_eq_true rfl) rfl ?_
  exact k
theorem B_Ac_askPayIn_21 {X : vX} {d : Nat} {M : vM} {Q : Option vV → vM → Prop} {l2 l3 l5 : Int} {q4 : Nat}  (k1 : (M 1 0) ≤ l5 → vw X d 23 53 [vR 1, vR 13, vI l2, vI l3, vR (q4 : Int), vI l5, vN] [] M Q) (k2 : l5 < (M 1 0) → vw X d 23 30 [vR 1, vR 13, vI l2, vI l3, vR (q4 : Int), vI l5, vN] [] M Q) : vw X d 23 21 [vR 1, vR 13, vI l2, vI l3, vR (q4 : Int), vI l5, vN] [] M Q := by
  refine w_iload d23_21 rfl ?_
  refine w_aload_n d23_23 rfl ?_
  refine w_getf (a := 1) (v := vI (M 1 0)) d23_24 f23_23 rfl rfl rfl ?_
  exact w_icmp_ge d23_27 rfl (fun h => k1 h) (fun h => k2 h)
theorem B_Ac_askPayIn_30 {X : vX} {d : Nat} {M : vM} {Q : Option vV → vM → Prop} {l2 l3 l5 : Int} {q4 : Nat} (hq4 : vS0[q4]? = some (.inr (0, 4))) (h1 : 0 ≤ l5 ∧ l5 < (4 : Nat)) (k : cq X d 13 [vR 1, vI l2, vI l3, vI l5] M (fun r M1 => wp X d 23 44 [vR 1, vR 13, vI l2, vI l3, vR (q4 : Int), vI l5, vN] (r.toList ++ [vI (M q4 l5.toNat), vR 13]) (vS0, M1) (vP Q))) : vw X d 23 30 [vR 1, vR 13, vI l2, vI l3, vR (q4 : Int), vI l5, vN] [] M Q := by
  refine w_aload_n d23_30 rfl ?_
  refine w_aload d23_31 rfl ?_
  refine w_iload d23_33 rfl ?_
  refine w_iaload (a := q4) d23_35 rfl hq4 h1 ?_
  refine w_aload_n d23_36 rfl ?_
  refine w_iload_n d23_37 rfl ?_
  refine w_iload_n d23_38 rfl ?_
  refine w_iload d23_39 rfl ?_
  exact w_inv0 (a := 1) (c := 0) d23_41 c23_33 rfl rfl rfl v13 (Nat.le_of_ble_eq_true rfl) (cq.cl (k))
theorem B_Ac_askPayIn_44 {X : vX} {d : Nat} {M : vM} {Q : Option vV → vM → Prop} {l2 l3 l5 s1 s2 : Int} {q4 : Nat}  (k : cq X d 89 [vR 13, vI s1, vI s2] M (fun r M1 => wp X d 23 47 [vR 1, vR 13, vI l2, vI l3, vR (q4 : Int), vI l5, vN] (r.toList ++ []) (vS0, M1) (vP Q))) : vw X d 23 44 [vR 1, vR 13, vI l2, vI l3, vR (q4 : Int), vI l5, vN] [vI s2, vI s1, vR 13] M Q := by
  exact w_inv0 (a := 13) (c := 6) d23_44 c23_72 rfl rfl rfl v89 (Nat.le_of_ble_eq_true rfl) (cq.cl (k))
theorem B_Ac_askPayIn_47 {X : vX} {d : Nat} {M : vM} {Q : Option vV → vM → Prop} {l2 l3 l5 : Int} {q4 : Nat}  (k : vw X d 23 21 [vR 1, vR 13, vI l2, vI l3, vR (q4 : Int), vI (w32 (l5 + 1)), vN] [] M Q) : vw X d 23 47 [vR 1, vR 13, vI l2, vI l3, vR (q4 : Int), vI l5, vN] [] M Q := by
  refine w_iincE (ls' := [vR 1, vR 13, vI l2, vI l3, vR (q4 : Int), vI (w32 (l5 + 1)), vN]) d23_47 rfl rfl ?_
  refine w_goto (tgt := 21) d23_50 rfl ?_
  exact k
theorem B_Ac_askPayIn_53 {X : vX} {d : Nat} {M : vM} {Q : Option vV → vM → Prop} {l2 l3 l5 : Int} {q4 : Nat}  (k : vw X d 23 56 [vR 1, vR 13, vI l2, vI l3, vR (q4 : Int), vI 0, vN] [] M Q) : vw X d 23 53 [vR 1, vR 13, vI l2, vI l3, vR (q4 : Int), vI l5, vN] [] M Q := by
  refine w_ic (v := 0) d23_53 rfl ?_
  refine w_istoreE (ls' := [vR 1, vR 13, vI l2, vI l3, vR (q4 : Int), vI 0, vN]) d23_54 (Nat.le_of_ble_eq_true rfl) rfl ?_
  exact k
theorem B_Ac_askPayIn_56 {X : vX} {d : Nat} {M : vM} {Q : Option vV → vM → Prop} {l2 l3 l5 : Int} {w6 : vV} {q4 : Nat}  (k1 : (M 1 4) ≤ l5 → vw X d 23 143 [vR 1, vR 13, vI l2, vI l3, vR (q4 : Int), vI l5, w6] [] M Q) (k2 : l5 < (M 1 4) → vw X d 23 65 [vR 1, vR 13, vI l2, vI l3, vR (q4 : Int), vI l5, w6] [] M Q) : vw X d 23 56 [vR 1, vR 13, vI l2, vI l3, vR (q4 : Int), vI l5, w6] [] M Q := by
  refine w_iload d23_56 rfl ?_
  refine w_aload_n d23_58 rfl ?_
  refine w_getf (a := 1) (v := vI (M 1 4)) d23_59 f23_27 rfl rfl rfl ?_
  exact w_icmp_ge d23_62 rfl (fun h => k1 h) (fun h => k2 h)
theorem B_Ac_askPayIn_65 {X : vX} {d : Nat} {M : vM} {Q : Option vV → vM → Prop} {l2 l3 l5 : Int} {w6 : vV} {q4 : Nat}  (k1 : l5 = l2 → vw X d 23 137 [vR 1, vR 13, vI l2, vI l3, vR (q4 : Int), vI l5, w6] [] M Q) (k2 : ¬ l5 = l2 → vw X d 23 71 [vR 1, vR 13, vI l2, vI l3, vR (q4 : Int), vI l5, w6] [] M Q) : vw X d 23 65 [vR 1, vR 13, vI l2, vI l3, vR (q4 : Int), vI l5, w6] [] M Q := by
  refine w_iload d23_65 rfl ?_
  refine w_iload_n d23_67 rfl ?_
  exact w_icmp_eq d23_68 rfl (fun h => k1 h) (fun h => k2 h)
theorem B_Ac_askPayIn_71 {X : vX} {d : Nat} {M : vM} {Q : Option vV → vM → Prop} {l2 l3 l5 : Int} {w6 : vV} {q4 : Nat} (hR : vRefs M) (h1 : 0 ≤ l2 ∧ l2 < (4 : Nat)) (h2 : 0 ≤ l5 ∧ l5 < (4 : Nat)) (k : cq X d 88 [vR 13, vI (w32 (12 * (w32 ((M 2 l2.toNat) - (M 2 l5.toNat)))))] M (fun r M1 => wp X d 23 92 [vR 1, vR 13, vI l2, vI l3, vR (q4 : Int), vI l5, w6] (r.toList ++ []) (vS0, M1) (vP Q))) : vw X d 23 71 [vR 1, vR 13, vI l2, vI l3, vR (q4 : Int), vI l5, w6] [] M Q := by
  refine w_aload_n d23_71 rfl ?_
  refine w_bi (v := 12) d23_72 rfl ?_
  refine w_aload_n d23_74 rfl ?_
  refine w_getf (a := 1) (v := vR 2) d23_75 f23_9 rfl rfl (congrArg vR (rf_1_1 hR)) ?_
  refine w_iload_n d23_78 rfl ?_
  refine w_iaload (a := 2) d23_79 rfl rfl h1 ?_
  refine w_aload_n d23_80 rfl ?_
  refine w_getf (a := 1) (v := vR 2) d23_81 f23_9 rfl rfl (congrArg vR (rf_1_1 hR)) ?_
  refine w_iload d23_84 rfl ?_
  refine w_iaload (a := 2) d23_86 rfl rfl h2 ?_
  refine w_isub d23_87 ?_
  refine w_imul d23_88 ?_
  exact w_inv0 (a := 13) (c := 6) d23_89 c23_69 rfl rfl rfl v88 (Nat.le_of_ble_eq_true rfl) (cq.cl (k))
theorem B_Ac_askPayIn_92 {X : vX} {d : Nat} {M : vM} {Q : Option vV → vM → Prop} {l2 l3 l5 : Int} {w6 : vV} {q4 : Nat}  (k : vw X d 23 95 [vR 1, vR 13, vI l2, vI l3, vR (q4 : Int), vI l5, vI 0] [] M Q) : vw X d 23 92 [vR 1, vR 13, vI l2, vI l3, vR (q4 : Int), vI l5, w6] [] M Q := by
  refine w_ic (v := 0) d23_92 rfl ?_
  refine w_istoreE (ls' := [vR 1, vR 13, vI l2, vI l3, vR (q4 : Int), vI l5, vI 0]) d23_93 (Nat.le_of_ble_eq_true rfl) rfl ?_
  exact k
theorem B_Ac_askPayIn_95 {X : vX} {d : Nat} {M : vM} {Q : Option vV → vM → Prop} {l2 l3 l5 l6 : Int} {q4 : Nat}  (k1 : (M 1 0) ≤ l6 → vw X d 23 137 [vR 1, vR 13, vI l2, vI l3, vR (q4 : Int), vI l5, vI l6] [] M Q) (k2 : l6 < (M 1 0) → vw X d 23 104 [vR 1, vR 13, vI l2, vI l3, vR (q4 : Int), vI l5, vI l6] [] M Q) : vw X d 23 95 [vR 1, vR 13, vI l2, vI l3, vR (q4 : Int), vI l5, vI l6] [] M Q := by
  refine w_iload d23_95 rfl ?_
  refine w_aload_n d23_97 rfl ?_
  refine w_getf (a := 1) (v := vI (M 1 0)) d23_98 f23_23 rfl rfl rfl ?_
  exact w_icmp_ge d23_101 rfl (fun h => k1 h) (fun h => k2 h)
theorem B_Ac_askPayIn_104 {X : vX} {d : Nat} {M : vM} {Q : Option vV → vM → Prop} {l2 l3 l5 l6 : Int} {q4 : Nat} (hq4 : vS0[q4]? = some (.inr (0, 4))) (h1 : 0 ≤ l6 ∧ l6 < (4 : Nat)) (k : cq X d 13 [vR 1, vI l2, vI l3, vI l6] M (fun r M1 => wp X d 23 118 [vR 1, vR 13, vI l2, vI l3, vR (q4 : Int), vI l5, vI l6] (r.toList ++ [vI (M q4 l6.toNat), vR 13]) (vS0, M1) (vP Q))) : vw X d 23 104 [vR 1, vR 13, vI l2, vI l3, vR (q4 : Int), vI l5, vI l6] [] M Q := by
  refine w_aload_n d23_104 rfl ?_
  refine w_aload d23_105 rfl ?_
  refine w_iload d23_107 rfl ?_
  refine w_iaload (a := q4) d23_109 rfl hq4 h1 ?_
  refine w_aload_n d23_110 rfl ?_
  refine w_iload_n d23_111 rfl ?_
  refine w_iload_n d23_112 rfl ?_
  refine w_iload d23_113 rfl ?_
  exact w_inv0 (a := 1) (c := 0) d23_115 c23_33 rfl rfl rfl v13 (Nat.le_of_ble_eq_true rfl) (cq.cl (k))
theorem B_Ac_askPayIn_118 {X : vX} {d : Nat} {M : vM} {Q : Option vV → vM → Prop} {l2 l3 l5 l6 s1 s2 : Int} {q4 : Nat}  (k : cq X d 13 [vR 1, vI l5, vI l3, vI l6] M (fun r M1 => wp X d 23 127 [vR 1, vR 13, vI l2, vI l3, vR (q4 : Int), vI l5, vI l6] (r.toList ++ [vI s2, vI s1, vR 13]) (vS0, M1) (vP Q))) : vw X d 23 118 [vR 1, vR 13, vI l2, vI l3, vR (q4 : Int), vI l5, vI l6] [vI s2, vI s1, vR 13] M Q := by
  refine w_aload_n d23_118 rfl ?_
  refine w_iload d23_119 rfl ?_
  refine w_iload_n d23_121 rfl ?_
  refine w_iload d23_122 rfl ?_
  exact w_inv0 (a := 1) (c := 0) d23_124 c23_33 rfl rfl rfl v13 (Nat.le_of_ble_eq_true rfl) (cq.cl (k))
theorem B_Ac_askPayIn_127 {X : vX} {d : Nat} {M : vM} {Q : Option vV → vM → Prop} {l2 l3 l5 l6 s1 s2 s3 : Int} {q4 : Nat}  (k : cq X d 89 [vR 13, vI s1, vI (w32 (s2 - s3))] M (fun r M1 => wp X d 23 131 [vR 1, vR 13, vI l2, vI l3, vR (q4 : Int), vI l5, vI l6] (r.toList ++ []) (vS0, M1) (vP Q))) : vw X d 23 127 [vR 1, vR 13, vI l2, vI l3, vR (q4 : Int), vI l5, vI l6] [vI s3, vI s2, vI s1, vR 13] M Q := by
  refine w_isub d23_127 ?_
  exact w_inv0 (a := 13) (c := 6) d23_128 c23_72 rfl rfl rfl v89 (Nat.le_of_ble_eq_true rfl) (cq.cl (k))
theorem B_Ac_askPayIn_131 {X : vX} {d : Nat} {M : vM} {Q : Option vV → vM → Prop} {l2 l3 l5 l6 : Int} {q4 : Nat}  (k : vw X d 23 95 [vR 1, vR 13, vI l2, vI l3, vR (q4 : Int), vI l5, vI (w32 (l6 + 1))] [] M Q) : vw X d 23 131 [vR 1, vR 13, vI l2, vI l3, vR (q4 : Int), vI l5, vI l6] [] M Q := by
  refine w_iincE (ls' := [vR 1, vR 13, vI l2, vI l3, vR (q4 : Int), vI l5, vI (w32 (l6 + 1))]) d23_131 rfl rfl ?_
  refine w_goto (tgt := 95) d23_134 rfl ?_
  exact k
theorem B_Ac_askPayIn_137 {X : vX} {d : Nat} {M : vM} {Q : Option vV → vM → Prop} {l2 l3 l5 : Int} {w6 : vV} {q4 : Nat}  (k : vw X d 23 56 [vR 1, vR 13, vI l2, vI l3, vR (q4 : Int), vI (w32 (l5 + 1)), w6] [] M Q) : vw X d 23 137 [vR 1, vR 13, vI l2, vI l3, vR (q4 : Int), vI l5, w6] [] M Q := by
  refine w_iincE (ls' := [vR 1, vR 13, vI l2, vI l3, vR (q4 : Int), vI (w32 (l5 + 1)), w6]) d23_137 rfl rfl ?_
  refine w_goto (tgt := 56) d23_140 rfl ?_
  exact k
theorem B_Ac_askPayIn_143 {X : vX} {d : Nat} {M : vM} {Q : Option vV → vM → Prop} {l2 l3 l5 : Int} {w6 : vV} {q4 : Nat}  (k : Q none M) : vw X d 23 143 [vR 1, vR 13, vI l2, vI l3, vR (q4 : Int), vI l5, w6] [] M Q := by
  exact w_vret d23_143 r23 ⟨_, rfl, k⟩
theorem E_Ac_askPayIn {X : vX} {d : Nat} {M : vM} {Q : Option vV → vM → Prop} {l2 l3 : Int} {q4 : Nat} (k : vw X d 23 0 [vR 1, vR 13, vI l2, vI l3, vR (q4 : Int), vN, vN] [] M Q) : cq X (d + 1) 23 [vR 1, vR 13, vI l2, vI l3, vR (q4 : Int)] M Q := wc_in (Nat.le_of_ble_eq_true rfl) (Nat.le_of_ble_eq_true rfl) k
theorem cd24 : vm_cd 24 = cX0_askShares := rfl
theorem d24_0 : decode (vm_cd 24) 0 = .ok (.aload_n 1, 1) := (congrArg (fun b => decode b 0) cd24).trans (by decide +kernel)
theorem d24_1 : decode (vm_cd 24) 1 = .ok (.aload_n 0, 1) := (congrArg (fun b => decode b 1) cd24).trans (by decide +kernel)
theorem d24_2 : decode (vm_cd 24) 2 = .ok (.getfield 27, 3) := (congrArg (fun b => decode b 2) cd24).trans (by decide +kernel)
theorem d24_5 : decode (vm_cd 24) 5 = .ok (.iconst 1, 1) := (congrArg (fun b => decode b 5) cd24).trans (by decide +kernel)
theorem d24_6 : decode (vm_cd 24) 6 = .ok (.isub, 1) := (congrArg (fun b => decode b 6) cd24).trans (by decide +kernel)
theorem d24_7 : decode (vm_cd 24) 7 = .ok (.invokevirtual 55, 3) := (congrArg (fun b => decode b 7) cd24).trans (by decide +kernel)
theorem d24_10 : decode (vm_cd 24) 10 = .ok (.iconst 0, 1) := (congrArg (fun b => decode b 10) cd24).trans (by decide +kernel)
theorem d24_11 : decode (vm_cd 24) 11 = .ok (.istore 4, 2) := (congrArg (fun b => decode b 11) cd24).trans (by decide +kernel)
theorem d24_13 : decode (vm_cd 24) 13 = .ok (.iload 4, 2) := (congrArg (fun b => decode b 13) cd24).trans (by decide +kernel)
theorem d24_15 : decode (vm_cd 24) 15 = .ok (.aload_n 0, 1) := (congrArg (fun b => decode b 15) cd24).trans (by decide +kernel)
theorem d24_16 : decode (vm_cd 24) 16 = .ok (.getfield 27, 3) := (congrArg (fun b => decode b 16) cd24).trans (by decide +kernel)
theorem d24_19 : decode (vm_cd 24) 19 = .ok (.if_icmp .ge 32, 3) := (congrArg (fun b => decode b 19) cd24).trans (by decide +kernel)
theorem d24_22 : decode (vm_cd 24) 22 = .ok (.iload 4, 2) := (congrArg (fun b => decode b 22) cd24).trans (by decide +kernel)
theorem d24_24 : decode (vm_cd 24) 24 = .ok (.iload_n 2, 1) := (congrArg (fun b => decode b 24) cd24).trans (by decide +kernel)
theorem d24_25 : decode (vm_cd 24) 25 = .ok (.if_icmp .eq 20, 3) := (congrArg (fun b => decode b 25) cd24).trans (by decide +kernel)
theorem d24_28 : decode (vm_cd 24) 28 = .ok (.aload_n 1, 1) := (congrArg (fun b => decode b 28) cd24).trans (by decide +kernel)
theorem d24_29 : decode (vm_cd 24) 29 = .ok (.iload_n 2, 1) := (congrArg (fun b => decode b 29) cd24).trans (by decide +kernel)
theorem d24_30 : decode (vm_cd 24) 30 = .ok (.iload 4, 2) := (congrArg (fun b => decode b 30) cd24).trans (by decide +kernel)
theorem d24_32 : decode (vm_cd 24) 32 = .ok (.invokestatic 75, 3) := (congrArg (fun b => decode b 32) cd24).trans (by decide +kernel)
theorem d24_35 : decode (vm_cd 24) 35 = .ok (.aload_n 0, 1) := (congrArg (fun b => decode b 35) cd24).trans (by decide +kernel)
theorem d24_36 : decode (vm_cd 24) 36 = .ok (.getfield 9, 3) := (congrArg (fun b => decode b 36) cd24).trans (by decide +kernel)
theorem d24_39 : decode (vm_cd 24) 39 = .ok (.iload 4, 2) := (congrArg (fun b => decode b 39) cd24).trans (by decide +kernel)
theorem d24_41 : decode (vm_cd 24) 41 = .ok (.iaload, 1) := (congrArg (fun b => decode b 41) cd24).trans (by decide +kernel)
theorem d24_42 : decode (vm_cd 24) 42 = .ok (.invokevirtual 61, 3) := (congrArg (fun b => decode b 42) cd24).trans (by decide +kernel)
theorem d24_45 : decode (vm_cd 24) 45 = .ok (.iinc 4 1, 3) := (congrArg (fun b => decode b 45) cd24).trans (by decide +kernel)
theorem d24_48 : decode (vm_cd 24) 48 = .ok (.goto (-35), 3) := (congrArg (fun b => decode b 48) cd24).trans (by decide +kernel)
theorem d24_51 : decode (vm_cd 24) 51 = .ok (.iconst 0, 1) := (congrArg (fun b => decode b 51) cd24).trans (by decide +kernel)
theorem d24_52 : decode (vm_cd 24) 52 = .ok (.istore 4, 2) := (congrArg (fun b => decode b 52) cd24).trans (by decide +kernel)
theorem d24_54 : decode (vm_cd 24) 54 = .ok (.iload 4, 2) := (congrArg (fun b => decode b 54) cd24).trans (by decide +kernel)
theorem d24_56 : decode (vm_cd 24) 56 = .ok (.aload_n 0, 1) := (congrArg (fun b => decode b 56) cd24).trans (by decide +kernel)
theorem d24_57 : decode (vm_cd 24) 57 = .ok (.getfield 23, 3) := (congrArg (fun b => decode b 57) cd24).trans (by decide +kernel)
theorem d24_60 : decode (vm_cd 24) 60 = .ok (.if_icmp .ge 29, 3) := (congrArg (fun b => decode b 60) cd24).trans (by decide +kernel)
theorem d24_63 : decode (vm_cd 24) 63 = .ok (.aload_n 0, 1) := (congrArg (fun b => decode b 63) cd24).trans (by decide +kernel)
theorem d24_64 : decode (vm_cd 24) 64 = .ok (.aload_n 1, 1) := (congrArg (fun b => decode b 64) cd24).trans (by decide +kernel)
theorem d24_65 : decode (vm_cd 24) 65 = .ok (.iload_n 2, 1) := (congrArg (fun b => decode b 65) cd24).trans (by decide +kernel)
theorem d24_66 : decode (vm_cd 24) 66 = .ok (.iload_n 3, 1) := (congrArg (fun b => decode b 66) cd24).trans (by decide +kernel)
theorem d24_67 : decode (vm_cd 24) 67 = .ok (.iload 4, 2) := (congrArg (fun b => decode b 67) cd24).trans (by decide +kernel)
theorem d24_69 : decode (vm_cd 24) 69 = .ok (.iconst 1, 1) := (congrArg (fun b => decode b 69) cd24).trans (by decide +kernel)
theorem d24_70 : decode (vm_cd 24) 70 = .ok (.invokevirtual 79, 3) := (congrArg (fun b => decode b 70) cd24).trans (by decide +kernel)
theorem d24_73 : decode (vm_cd 24) 73 = .ok (.aload_n 0, 1) := (congrArg (fun b => decode b 73) cd24).trans (by decide +kernel)
theorem d24_74 : decode (vm_cd 24) 74 = .ok (.aload_n 1, 1) := (congrArg (fun b => decode b 74) cd24).trans (by decide +kernel)
theorem d24_75 : decode (vm_cd 24) 75 = .ok (.iload_n 2, 1) := (congrArg (fun b => decode b 75) cd24).trans (by decide +kernel)
theorem d24_76 : decode (vm_cd 24) 76 = .ok (.iload_n 3, 1) := (congrArg (fun b => decode b 76) cd24).trans (by decide +kernel)
theorem d24_77 : decode (vm_cd 24) 77 = .ok (.iload 4, 2) := (congrArg (fun b => decode b 77) cd24).trans (by decide +kernel)
theorem d24_79 : decode (vm_cd 24) 79 = .ok (.iconst (-1), 1) := (congrArg (fun b => decode b 79) cd24).trans (by decide +kernel)
theorem d24_80 : decode (vm_cd 24) 80 = .ok (.invokevirtual 79, 3) := (congrArg (fun b => decode b 80) cd24).trans (by decide +kernel)
theorem d24_83 : decode (vm_cd 24) 83 = .ok (.iinc 4 1, 3) := (congrArg (fun b => decode b 83) cd24).trans (by decide +kernel)
theorem d24_86 : decode (vm_cd 24) 86 = .ok (.goto (-32), 3) := (congrArg (fun b => decode b 86) cd24).trans (by decide +kernel)
theorem d24_89 : decode (vm_cd 24) 89 = .ok (.return_, 1) := (congrArg (fun b => decode b 89) cd24).trans (by decide +kernel)
theorem f24_9 : vm_fl.lookup (vm_own 24, 9) = some (0, 1, 37) := by decide +kernel
theorem f24_23 : vm_fl.lookup (vm_own 24, 23) = some (0, 0, 36) := by decide +kernel
theorem f24_27 : vm_fl.lookup (vm_own 24, 27) = some (0, 4, 40) := by decide +kernel
theorem c24_55 : vm_ml.lookup (vm_own 24, 55) = some (0, 85, 1, 402, 403, 477, 4) := vm_lk (by decide +kernel)
theorem c24_61 : vm_ml.lookup (vm_own 24, 61) = some (0, 87, 2, 416, 417, 491, 4) := vm_lk (by decide +kernel)
theorem c24_75 : vm_ml.lookup (vm_own 24, 75) = some (1, 26, 2, 488, 489, 0, 2) := vm_lk (by decide +kernel)
theorem c24_79 : vm_ml.lookup (vm_own 24, 79) = some (0, 25, 5, 491, 493, 8, 2) := vm_lk (by decide +kernel)
theorem r24 : vm_rt 24 = none := by decide +kernel
theorem B_Ac_askShares_0 {X : vX} {d : Nat} {M : vM} {Q : Option vV → vM → Prop} {l2 l3 : Int}  (k : cq X d 85 [vR 13, vI (w32 ((M 1 4) - 1))] M (fun r M1 => wp X d 24 10 [vR 1, vR 13, vI l2, vI l3, vN] (r.toList ++ []) (vS0, M1) (vP Q))) : vw X d 24 0 [vR 1, vR 13, vI l2, vI l3, vN] [] M Q := by
  refine w_aload_n d24_0 rfl ?_
  refine w_aload_n d24_1 rfl ?_
  refine w_getf (a := 1) (v := vI (M 1 4)) d24_2 f24_27 rfl rfl rfl ?_
  refine w_ic (v := 1) d24_5 rfl ?_
  refine w_isub d24_6 ?_
  exact w_inv0 (a := 13) (c := 6) d24_7 c24_55 rfl rfl rfl v85 (Nat.le_of_ble_eq_true rfl) (cq.cl (k))
theorem B_Ac_askShares_10 {X : vX} {d : Nat} {M : vM} {Q : Option vV → vM → Prop} {l2 l3 : Int}  (k : vw X d 24 13 [vR 1, vR 13, vI l2, vI l3, vI 0] [] M Q) : vw X d 24 10 [vR 1, vR 13, vI l2, vI l3, vN] [] M Q := by
  refine w_ic (v := 0) d24_10 rfl ?_
  refine w_istoreE (ls' := [vR 1, vR 13, vI l2, vI l3, vI 0]) d24_11 (Nat.le_of_ble_eq_true rfl) rfl ?_
  exact k
theorem B_Ac_askShares_13 {X : vX} {d : Nat} {M : vM} {Q : Option vV → vM → Prop} {l2 l3 l4 : Int}  (k1 : (M 1 4) ≤ l4 → vw X d 24 51 [vR 1, vR 13, vI l2, vI l3, vI l4] [] M Q) (k2 : l4 < (M 1 4) → vw X d 24 22 [vR 1, vR 13, vI l2, vI l3, vI l4] [] M Q) : vw X d 24 13 [vR 1, vR 13, vI l2, vI l3, vI l4] [] M Q := by
  refine w_iload d24_13 rfl ?_
  refine w_aload_n d24_15 rfl ?_
  refine w_getf (a := 1) (v := vI (M 1 4)) d24_16 f24_27 rfl rfl rfl ?_
  exact w_icmp_ge d24_19 rfl (fun h => k1 h) (fun h => k2 h)
theorem B_Ac_askShares_22 {X : vX} {d : Nat} {M : vM} {Q : Option vV → vM → Prop} {l2 l3 l4 : Int}  (k1 : l4 = l2 → vw X d 24 45 [vR 1, vR 13, vI l2, vI l3, vI l4] [] M Q) (k2 : ¬ l4 = l2 → vw X d 24 28 [vR 1, vR 13, vI l2, vI l3, vI l4] [] M Q) : vw X d 24 22 [vR 1, vR 13, vI l2, vI l3, vI l4] [] M Q := by
  refine w_iload d24_22 rfl ?_
  refine w_iload_n d24_24 rfl ?_
  exact w_icmp_eq d24_25 rfl (fun h => k1 h) (fun h => k2 h)
theorem B_Ac_askShares_28 {X : vX} {d : Nat} {M : vM} {Q : Option vV → vM → Prop} {l2 l3 l4 : Int}  (k : cq X d 26 [vI l2, vI l4] M (fun r M1 => wp X d 24 35 [vR 1, vR 13, vI l2, vI l3, vI l4] (r.toList ++ [vR 13]) (vS0, M1) (vP Q))) : vw X d 24 28 [vR 1, vR 13, vI l2, vI l3, vI l4] [] M Q := by
  refine w_aload_n d24_28 rfl ?_
  refine w_iload_n d24_29 rfl ?_
  refine w_iload d24_30 rfl ?_
  exact w_inv1 d24_32 c24_75 (by decide) rfl (Nat.le_of_ble_eq_true rfl) (cq.cl (k))
theorem B_Ac_askShares_35 {X : vX} {d : Nat} {M : vM} {Q : Option vV → vM → Prop} {l2 l3 l4 s1 : Int} (hR : vRefs M) (h1 : 0 ≤ l4 ∧ l4 < (4 : Nat)) (k : cq X d 87 [vR 13, vI s1, vI (M 2 l4.toNat)] M (fun r M1 => wp X d 24 45 [vR 1, vR 13, vI l2, vI l3, vI l4] (r.toList ++ []) (vS0, M1) (vP Q))) : vw X d 24 35 [vR 1, vR 13, vI l2, vI l3, vI l4] [vI s1, vR 13] M Q := by
  refine w_aload_n d24_35 rfl ?_
  refine w_getf (a := 1) (v := vR 2) d24_36 f24_9 rfl rfl (congrArg vR (rf_1_1 hR)) ?_
  refine w_iload d24_39 rfl ?_
  refine w_iaload (a := 2) d24_41 rfl rfl h1 ?_
  exact w_inv0 (a := 13) (c := 6) d24_42 c24_61 rfl rfl rfl v87 (Nat.le_of_ble_eq_true rfl) (cq.cl (k))
theorem B_Ac_askShares_45 {X : vX} {d : Nat} {M : vM} {Q : Option vV → vM → Prop} {l2 l3 l4 : Int}  (k : vw X d 24 13 [vR 1, vR 13, vI l2, vI l3, vI (w32 (l4 + 1))] [] M Q) : vw X d 24 45 [vR 1, vR 13, vI l2, vI l3, vI l4] [] M Q := by
  refine w_iincE (ls' := [vR 1, vR 13, vI l2, vI l3, vI (w32 (l4 + 1))]) d24_45 rfl rfl ?_
  refine w_goto (tgt := 13) d24_48 rfl ?_
  exact k
theorem B_Ac_askShares_51 {X : vX} {d : Nat} {M : vM} {Q : Option vV → vM → Prop} {l2 l3 l4 : Int}  (k : vw X d 24 54 [vR 1, vR 13, vI l2, vI l3, vI 0] [] M Q) : vw X d 24 51 [vR 1, vR 13, vI l2, vI l3, vI l4] [] M Q := by
  refine w_ic (v := 0) d24_51 rfl ?_
  refine w_istoreE (ls' := [vR 1, vR 13, vI l2, vI l3, vI 0]) d24_52 (Nat.le_of_ble_eq_true rfl) rfl ?_
  exact k
theorem B_Ac_askShares_54 {X : vX} {d : Nat} {M : vM} {Q : Option vV → vM → Prop} {l2 l3 l4 : Int}  (k1 : (M 1 0) ≤ l4 → vw X d 24 89 [vR 1, vR 13, vI l2, vI l3, vI l4] [] M Q) (k2 : l4 < (M 1 0) → vw X d 24 63 [vR 1, vR 13, vI l2, vI l3, vI l4] [] M Q) : vw X d 24 54 [vR 1, vR 13, vI l2, vI l3, vI l4] [] M Q := by
  refine w_iload d24_54 rfl ?_
  refine w_aload_n d24_56 rfl ?_
  refine w_getf (a := 1) (v := vI (M 1 0)) d24_57 f24_23 rfl rfl rfl ?_
  exact w_icmp_ge d24_60 rfl (fun h => k1 h) (fun h => k2 h)
theorem B_Ac_askShares_63 {X : vX} {d : Nat} {M : vM} {Q : Option vV → vM → Prop} {l2 l3 l4 : Int}  (k : cq X d 25 [vR 1, vR 13, vI l2, vI l3, vI l4, vI 1] M (fun r M1 => wp X d 24 73 [vR 1, vR 13, vI l2, vI l3, vI l4] (r.toList ++ []) (vS0, M1) (vP Q))) : vw X d 24 63 [vR 1, vR 13, vI l2, vI l3, vI l4] [] M Q := by
  refine w_aload_n d24_63 rfl ?_
  refine w_aload_n d24_64 rfl ?_
  refine w_iload_n d24_65 rfl ?_
  refine w_iload_n d24_66 rfl ?_
  refine w_iload d24_67 rfl ?_
  refine w_ic (v := 1) d24_69 rfl ?_
  exact w_inv0 (a := 1) (c := 0) d24_70 c24_79 rfl rfl rfl v25 (Nat.le_of_ble_eq_true rfl) (cq.cl (k))
theorem B_Ac_askShares_73 {X : vX} {d : Nat} {M : vM} {Q : Option vV → vM → Prop} {l2 l3 l4 : Int}  (k : cq X d 25 [vR 1, vR 13, vI l2, vI l3, vI l4, vI ((-1))] M (fun r M1 => wp X d 24 83 [vR 1, vR 13, vI l2, vI l3, vI l4] (r.toList ++ []) (vS0, M1) (vP Q))) : vw X d 24 73 [vR 1, vR 13, vI l2, vI l3, vI l4] [] M Q := by
  refine w_aload_n d24_73 rfl ?_
  refine w_aload_n d24_74 rfl ?_
  refine w_iload_n d24_75 rfl ?_
  refine w_iload_n d24_76 rfl ?_
  refine w_iload d24_77 rfl ?_
  refine w_ic (v := (-1)) d24_79 rfl ?_
  exact w_inv0 (a := 1) (c := 0) d24_80 c24_79 rfl rfl rfl v25 (Nat.le_of_ble_eq_true rfl) (cq.cl (k))
theorem B_Ac_askShares_83 {X : vX} {d : Nat} {M : vM} {Q : Option vV → vM → Prop} {l2 l3 l4 : Int}  (k : vw X d 24 54 [vR 1, vR 13, vI l2, vI l3, vI (w32 (l4 + 1))] [] M Q) : vw X d 24 83 [vR 1, vR 13, vI l2, vI l3, vI l4] [] M Q := by
  refine w_iincE (ls' := [vR 1, vR 13, vI l2, vI l3, vI (w32 (l4 + 1))]) d24_83 rfl rfl ?_
  refine w_goto (tgt := 54) d24_86 rfl ?_
  exact k
theorem B_Ac_askShares_89 {X : vX} {d : Nat} {M : vM} {Q : Option vV → vM → Prop} {l2 l3 l4 : Int}  (k : Q none M) : vw X d 24 89 [vR 1, vR 13, vI l2, vI l3, vI l4] [] M Q := by
  exact w_vret d24_89 r24 ⟨_, rfl, k⟩
theorem E_Ac_askShares {X : vX} {d : Nat} {M : vM} {Q : Option vV → vM → Prop} {l2 l3 : Int} (k : vw X d 24 0 [vR 1, vR 13, vI l2, vI l3, vN] [] M Q) : cq X (d + 1) 24 [vR 1, vR 13, vI l2, vI l3] M Q := wc_in (Nat.le_of_ble_eq_true rfl) (Nat.le_of_ble_eq_true rfl) k
theorem cd25 : vm_cd 25 = cX0_askSharesAt := rfl
theorem d25_0 : decode (vm_cd 25) 0 = .ok (.aload_n 1, 1) := (congrArg (fun b => decode b 0) cd25).trans (by decide +kernel)
theorem d25_1 : decode (vm_cd 25) 1 = .ok (.iload 5, 2) := (congrArg (fun b => decode b 1) cd25).trans (by decide +kernel)
theorem d25_3 : decode (vm_cd 25) 3 = .ok (.aload_n 0, 1) := (congrArg (fun b => decode b 3) cd25).trans (by decide +kernel)
theorem d25_4 : decode (vm_cd 25) 4 = .ok (.iload_n 2, 1) := (congrArg (fun b => decode b 4) cd25).trans (by decide +kernel)
theorem d25_5 : decode (vm_cd 25) 5 = .ok (.iload_n 3, 1) := (congrArg (fun b => decode b 5) cd25).trans (by decide +kernel)
theorem d25_6 : decode (vm_cd 25) 6 = .ok (.iload 4, 2) := (congrArg (fun b => decode b 6) cd25).trans (by decide +kernel)
theorem d25_8 : decode (vm_cd 25) 8 = .ok (.invokevirtual 33, 3) := (congrArg (fun b => decode b 8) cd25).trans (by decide +kernel)
theorem d25_11 : decode (vm_cd 25) 11 = .ok (.imul, 1) := (congrArg (fun b => decode b 11) cd25).trans (by decide +kernel)
theorem d25_12 : decode (vm_cd 25) 12 = .ok (.invokevirtual 69, 3) := (congrArg (fun b => decode b 12) cd25).trans (by decide +kernel)
theorem d25_15 : decode (vm_cd 25) 15 = .ok (.iconst 0, 1) := (congrArg (fun b => decode b 15) cd25).trans (by decide +kernel)
theorem d25_16 : decode (vm_cd 25) 16 = .ok (.istore 6, 2) := (congrArg (fun b => decode b 16) cd25).trans (by decide +kernel)
theorem d25_18 : decode (vm_cd 25) 18 = .ok (.iload 6, 2) := (congrArg (fun b => decode b 18) cd25).trans (by decide +kernel)
theorem d25_20 : decode (vm_cd 25) 20 = .ok (.aload_n 0, 1) := (congrArg (fun b => decode b 20) cd25).trans (by decide +kernel)
theorem d25_21 : decode (vm_cd 25) 21 = .ok (.getfield 27, 3) := (congrArg (fun b => decode b 21) cd25).trans (by decide +kernel)
theorem d25_24 : decode (vm_cd 25) 24 = .ok (.if_icmp .ge 37, 3) := (congrArg (fun b => decode b 24) cd25).trans (by decide +kernel)
theorem d25_27 : decode (vm_cd 25) 27 = .ok (.iload 6, 2) := (congrArg (fun b => decode b 27) cd25).trans (by decide +kernel)
theorem d25_29 : decode (vm_cd 25) 29 = .ok (.iload_n 2, 1) := (congrArg (fun b => decode b 29) cd25).trans (by decide +kernel)
theorem d25_30 : decode (vm_cd 25) 30 = .ok (.if_icmp .eq 25, 3) := (congrArg (fun b => decode b 30) cd25).trans (by decide +kernel)
theorem d25_33 : decode (vm_cd 25) 33 = .ok (.aload_n 1, 1) := (congrArg (fun b => decode b 33) cd25).trans (by decide +kernel)
theorem d25_34 : decode (vm_cd 25) 34 = .ok (.iload_n 2, 1) := (congrArg (fun b => decode b 34) cd25).trans (by decide +kernel)
theorem d25_35 : decode (vm_cd 25) 35 = .ok (.iload 6, 2) := (congrArg (fun b => decode b 35) cd25).trans (by decide +kernel)
theorem d25_37 : decode (vm_cd 25) 37 = .ok (.invokestatic 75, 3) := (congrArg (fun b => decode b 37) cd25).trans (by decide +kernel)
theorem d25_40 : decode (vm_cd 25) 40 = .ok (.iload 5, 2) := (congrArg (fun b => decode b 40) cd25).trans (by decide +kernel)
theorem d25_42 : decode (vm_cd 25) 42 = .ok (.aload_n 0, 1) := (congrArg (fun b => decode b 42) cd25).trans (by decide +kernel)
theorem d25_43 : decode (vm_cd 25) 43 = .ok (.iload 6, 2) := (congrArg (fun b => decode b 43) cd25).trans (by decide +kernel)
theorem d25_45 : decode (vm_cd 25) 45 = .ok (.iload_n 3, 1) := (congrArg (fun b => decode b 45) cd25).trans (by decide +kernel)
theorem d25_46 : decode (vm_cd 25) 46 = .ok (.iload 4, 2) := (congrArg (fun b => decode b 46) cd25).trans (by decide +kernel)
theorem d25_48 : decode (vm_cd 25) 48 = .ok (.invokevirtual 33, 3) := (congrArg (fun b => decode b 48) cd25).trans (by decide +kernel)
theorem d25_51 : decode (vm_cd 25) 51 = .ok (.imul, 1) := (congrArg (fun b => decode b 51) cd25).trans (by decide +kernel)
theorem d25_52 : decode (vm_cd 25) 52 = .ok (.invokevirtual 72, 3) := (congrArg (fun b => decode b 52) cd25).trans (by decide +kernel)
theorem d25_55 : decode (vm_cd 25) 55 = .ok (.iinc 6 1, 3) := (congrArg (fun b => decode b 55) cd25).trans (by decide +kernel)
theorem d25_58 : decode (vm_cd 25) 58 = .ok (.goto (-40), 3) := (congrArg (fun b => decode b 58) cd25).trans (by decide +kernel)
theorem d25_61 : decode (vm_cd 25) 61 = .ok (.return_, 1) := (congrArg (fun b => decode b 61) cd25).trans (by decide +kernel)
theorem f25_27 : vm_fl.lookup (vm_own 25, 27) = some (0, 4, 40) := by decide +kernel
theorem c25_33 : vm_ml.lookup (vm_own 25, 33) = some (0, 13, 3, 361, 362, 436, 2) := vm_lk (by decide +kernel)
theorem c25_69 : vm_ml.lookup (vm_own 25, 69) = some (0, 88, 1, 425, 426, 500, 4) := vm_lk (by decide +kernel)
theorem c25_72 : vm_ml.lookup (vm_own 25, 72) = some (0, 89, 2, 429, 430, 504, 4) := vm_lk (by decide +kernel)
theorem c25_75 : vm_ml.lookup (vm_own 25, 75) = some (1, 26, 2, 488, 489, 0, 2) := vm_lk (by decide +kernel)
theorem r25 : vm_rt 25 = none := by decide +kernel
theorem B_Ac_askSharesAt_0 {X : vX} {d : Nat} {M : vM} {Q : Option vV → vM → Prop} {l2 l3 l4 l5 : Int}  (k : cq X d 13 [vR 1, vI l2, vI l3, vI l4] M (fun r M1 => wp X d 25 11 [vR 1, vR 13, vI l2, vI l3, vI l4, vI l5, vN] (r.toList ++ [vI l5, vR 13]) (vS0, M1) (vP Q))) : vw X d 25 0 [vR 1, vR 13, vI l2, vI l3, vI l4, vI l5, vN] [] M Q := by
  refine w_aload_n d25_0 rfl ?_
  refine w_iload d25_1 rfl ?_
  refine w_aload_n d25_3 rfl ?_
  refine w_iload_n d25_4 rfl ?_
  refine w_iload_n d25_5 rfl ?_
  refine w_iload d25_6 rfl ?_
  exact w_inv0 (a := 1) (c := 0) d25_8 c25_33 rfl rfl rfl v13 (Nat.le_of_ble_eq_true rfl) (cq.cl (k))
theorem B_Ac_askSharesAt_11 {X : vX} {d : Nat} {M : vM} {Q : Option vV → vM → Prop} {l2 l3 l4 l5 s1 s2 : Int}  (k : cq X d 88 [vR 13, vI (w32 (s1 * s2))] M (fun r M1 => wp X d 25 15 [vR 1, vR 13, vI l2, vI l3, vI l4, vI l5, vN] (r.toList ++ []) (vS0, M1) (vP Q))) : vw X d 25 11 [vR 1, vR 13, vI l2, vI l3, vI l4, vI l5, vN] [vI s2, vI s1, vR 13] M Q := by
  refine w_imul d25_11 ?_
  exact w_inv0 (a := 13) (c := 6) d25_12 c25_69 rfl rfl rfl v88 (Nat.le_of_ble_eq_true rfl) (cq.cl (k))
theorem B_Ac_askSharesAt_15 {X : vX} {d : Nat} {M : vM} {Q : Option vV → vM → Prop} {l2 l3 l4 l5 : Int}  (k : vw X d 25 18 [vR 1, vR 13, vI l2, vI l3, vI l4, vI l5, vI 0] [] M Q) : vw X d 25 15 [vR 1, vR 13, vI l2, vI l3, vI l4, vI l5, vN] [] M Q := by
  refine w_ic (v := 0) d25_15 rfl ?_
  refine w_istoreE (ls' := [vR 1, vR 13, vI l2, vI l3, vI l4, vI l5, vI 0]) d25_16 (Nat.le_of_ble_eq_true rfl) rfl ?_
  exact k
theorem B_Ac_askSharesAt_18 {X : vX} {d : Nat} {M : vM} {Q : Option vV → vM → Prop} {l2 l3 l4 l5 l6 : Int}  (k1 : (M 1 4) ≤ l6 → vw X d 25 61 [vR 1, vR 13, vI l2, vI l3, vI l4, vI l5, vI l6] [] M Q) (k2 : l6 < (M 1 4) → vw X d 25 27 [vR 1, vR 13, vI l2, vI l3, vI l4, vI l5, vI l6] [] M Q) : vw X d 25 18 [vR 1, vR 13, vI l2, vI l3, vI l4, vI l5, vI l6] [] M Q := by
  refine w_iload d25_18 rfl ?_
  refine w_aload_n d25_20 rfl ?_
  refine w_getf (a := 1) (v := vI (M 1 4)) d25_21 f25_27 rfl rfl rfl ?_
  exact w_icmp_ge d25_24 rfl (fun h => k1 h) (fun h => k2 h)
theorem B_Ac_askSharesAt_27 {X : vX} {d : Nat} {M : vM} {Q : Option vV → vM → Prop} {l2 l3 l4 l5 l6 : Int}  (k1 : l6 = l2 → vw X d 25 55 [vR 1, vR 13, vI l2, vI l3, vI l4, vI l5, vI l6] [] M Q) (k2 : ¬ l6 = l2 → vw X d 25 33 [vR 1, vR 13, vI l2, vI l3, vI l4, vI l5, vI l6] [] M Q) : vw X d 25 27 [vR 1, vR 13, vI l2, vI l3, vI l4, vI l5, vI l6] [] M Q := by
  refine w_iload d25_27 rfl ?_
  refine w_iload_n d25_29 rfl ?_
  exact w_icmp_eq d25_30 rfl (fun h => k1 h) (fun h => k2 h)
theorem B_Ac_askSharesAt_33 {X : vX} {d : Nat} {M : vM} {Q : Option vV → vM → Prop} {l2 l3 l4 l5 l6 : Int}  (k : cq X d 26 [vI l2, vI l6] M (fun r M1 => wp X d 25 40 [vR 1, vR 13, vI l2, vI l3, vI l4, vI l5, vI l6] (r.toList ++ [vR 13]) (vS0, M1) (vP Q))) : vw X d 25 33 [vR 1, vR 13, vI l2, vI l3, vI l4, vI l5, vI l6] [] M Q := by
  refine w_aload_n d25_33 rfl ?_
  refine w_iload_n d25_34 rfl ?_
  refine w_iload d25_35 rfl ?_
  exact w_inv1 d25_37 c25_75 (by decide) rfl (Nat.le_of_ble_eq_true rfl) (cq.cl (k))
theorem B_Ac_askSharesAt_40 {X : vX} {d : Nat} {M : vM} {Q : Option vV → vM → Prop} {l2 l3 l4 l5 l6 s1 : Int}  (k : cq X d 13 [vR 1, vI l6, vI l3, vI l4] M (fun r M1 => wp X d 25 51 [vR 1, vR 13, vI l2, vI l3, vI l4, vI l5, vI l6] (r.toList ++ [vI l5, vI s1, vR 13]) (vS0, M1) (vP Q))) : vw X d 25 40 [vR 1, vR 13, vI l2, vI l3, vI l4, vI l5, vI l6] [vI s1, vR 13] M Q := by
  refine w_iload d25_40 rfl ?_
  refine w_aload_n d25_42 rfl ?_
  refine w_iload d25_43 rfl ?_
  refine w_iload_n d25_45 rfl ?_
  refine w_iload d25_46 rfl ?_
  exact w_inv0 (a := 1) (c := 0) d25_48 c25_33 rfl rfl rfl v13 (Nat.le_of_ble_eq_true rfl) (cq.cl (k))
theorem B_Ac_askSharesAt_51 {X : vX} {d : Nat} {M : vM} {Q : Option vV → vM → Prop} {l2 l3 l4 l5 l6 s1 s2 s3 : Int}  (k : cq X d 89 [vR 13, vI s1, vI (w32 (s2 * s3))] M (fun r M1 => wp X d 25 55 [vR 1, vR 13, vI l2, vI l3, vI l4, vI l5, vI l6] (r.toList ++ []) (vS0, M1) (vP Q))) : vw X d 25 51 [vR 1, vR 13, vI l2, vI l3, vI l4, vI l5, vI l6] [vI s3, vI s2, vI s1, vR 13] M Q := by
  refine w_imul d25_51 ?_
  exact w_inv0 (a := 13) (c := 6) d25_52 c25_72 rfl rfl rfl v89 (Nat.le_of_ble_eq_true rfl) (cq.cl (k))
theorem B_Ac_askSharesAt_55 {X : vX} {d : Nat} {M : vM} {Q : Option vV → vM → Prop} {l2 l3 l4 l5 l6 : Int}  (k : vw X d 25 18 [vR 1, vR 13, vI l2, vI l3, vI l4, vI l5, vI (w32 (l6 + 1))] [] M Q) : vw X d 25 55 [vR 1, vR 13, vI l2, vI l3, vI l4, vI l5, vI l6] [] M Q := by
  refine w_iincE (ls' := [vR 1, vR 13, vI l2, vI l3, vI l4, vI l5, vI (w32 (l6 + 1))]) d25_55 rfl rfl ?_
  refine w_goto (tgt := 18) d25_58 rfl ?_
  exact k
theorem B_Ac_askSharesAt_61 {X : vX} {d : Nat} {M : vM} {Q : Option vV → vM → Prop} {l2 l3 l4 l5 l6 : Int}  (k : Q none M) : vw X d 25 61 [vR 1, vR 13, vI l2, vI l3, vI l4, vI l5, vI l6] [] M Q := by
  exact w_vret d25_61 r25 ⟨_, rfl, k⟩
theorem E_Ac_askSharesAt {X : vX} {d : Nat} {M : vM} {Q : Option vV → vM → Prop} {l2 l3 l4 l5 : Int} (k : vw X d 25 0 [vR 1, vR 13, vI l2, vI l3, vI l4, vI l5, vN] [] M Q) : cq X (d + 1) 25 [vR 1, vR 13, vI l2, vI l3, vI l4, vI l5] M Q := wc_in (Nat.le_of_ble_eq_true rfl) (Nat.le_of_ble_eq_true rfl) k
theorem cd26 : vm_cd 26 = cX0_placeBeside := rfl
theorem d26_0 : decode (vm_cd 26) 0 = .ok (.iload_n 1, 1) := (congrArg (fun b => decode b 0) cd26).trans (by decide +kernel)
theorem d26_1 : decode (vm_cd 26) 1 = .ok (.iload_n 0, 1) := (congrArg (fun b => decode b 1) cd26).trans (by decide +kernel)
theorem d26_2 : decode (vm_cd 26) 2 = .ok (.if_icmp .ge 7, 3) := (congrArg (fun b => decode b 2) cd26).trans (by decide +kernel)
theorem d26_5 : decode (vm_cd 26) 5 = .ok (.iload_n 1, 1) := (congrArg (fun b => decode b 5) cd26).trans (by decide +kernel)
theorem d26_6 : decode (vm_cd 26) 6 = .ok (.goto 6, 3) := (congrArg (fun b => decode b 6) cd26).trans (by decide +kernel)
theorem d26_9 : decode (vm_cd 26) 9 = .ok (.iload_n 1, 1) := (congrArg (fun b => decode b 9) cd26).trans (by decide +kernel)
theorem d26_10 : decode (vm_cd 26) 10 = .ok (.iconst 1, 1) := (congrArg (fun b => decode b 10) cd26).trans (by decide +kernel)
theorem d26_11 : decode (vm_cd 26) 11 = .ok (.isub, 1) := (congrArg (fun b => decode b 11) cd26).trans (by decide +kernel)
theorem d26_12 : decode (vm_cd 26) 12 = .ok (.ireturn, 1) := (congrArg (fun b => decode b 12) cd26).trans (by decide +kernel)
theorem r26 : vm_rt 26 = (some .int) := by decide +kernel
theorem B_Ac_placeBeside_0 {X : vX} {d : Nat} {M : vM} {Q : Option vV → vM → Prop} {l0 l1 : Int}  (k1 : l0 ≤ l1 → vw X d 26 9 [vI l0, vI l1] [] M Q) (k2 : l1 < l0 → vw X d 26 5 [vI l0, vI l1] [] M Q) : vw X d 26 0 [vI l0, vI l1] [] M Q := by
  refine w_iload_n d26_0 rfl ?_
  refine w_iload_n d26_1 rfl ?_
  exact w_icmp_ge d26_2 rfl (fun h => k1 h) (fun h => k2 h)
theorem B_Ac_placeBeside_5 {X : vX} {d : Nat} {M : vM} {Q : Option vV → vM → Prop} {l0 l1 : Int}  (k : Q (some (vI l1)) M) : vw X d 26 5 [vI l0, vI l1] [] M Q := by
  refine w_iload_n d26_5 rfl ?_
  refine w_goto (tgt := 12) d26_6 rfl ?_
  exact w_iret d26_12 r26 ⟨_, rfl, k⟩
theorem B_Ac_placeBeside_9 {X : vX} {d : Nat} {M : vM} {Q : Option vV → vM → Prop} {l0 l1 : Int}  (k : Q (some (vI (w32 (l1 - 1)))) M) : vw X d 26 9 [vI l0, vI l1] [] M Q := by
  refine w_iload_n d26_9 rfl ?_
  refine w_ic (v := 1) d26_10 rfl ?_
  refine w_isub d26_11 ?_
  exact w_iret d26_12 r26 ⟨_, rfl, k⟩
theorem E_Ac_placeBeside {X : vX} {d : Nat} {M : vM} {Q : Option vV → vM → Prop} {l0 l1 : Int} (k : vw X d 26 0 [vI l0, vI l1] [] M Q) : cq X (d + 1) 26 [vI l0, vI l1] M Q := wc_in (Nat.le_of_ble_eq_true rfl) (Nat.le_of_ble_eq_true rfl) k
theorem cd28 : vm_cd 28 = cX1_areCosts := rfl
theorem d28_0 : decode (vm_cd 28) 0 = .ok (.iload_n 0, 1) := (congrArg (fun b => decode b 0) cd28).trans (by decide +kernel)
theorem d28_1 : decode (vm_cd 28) 1 = .ok (.bipush 11, 2) := (congrArg (fun b => decode b 1) cd28).trans (by decide +kernel)
theorem d28_3 : decode (vm_cd 28) 3 = .ok (.bipush 99, 2) := (congrArg (fun b => decode b 3) cd28).trans (by decide +kernel)
theorem d28_5 : decode (vm_cd 28) 5 = .ok (.invokestatic 18, 3) := (congrArg (fun b => decode b 5) cd28).trans (by decide +kernel)
theorem d28_8 : decode (vm_cd 28) 8 = .ok (.ifCond .eq 14, 3) := (congrArg (fun b => decode b 8) cd28).trans (by decide +kernel)
theorem d28_11 : decode (vm_cd 28) 11 = .ok (.iload_n 0, 1) := (congrArg (fun b => decode b 11) cd28).trans (by decide +kernel)
theorem d28_12 : decode (vm_cd 28) 12 = .ok (.bipush 10, 2) := (congrArg (fun b => decode b 12) cd28).trans (by decide +kernel)
theorem d28_14 : decode (vm_cd 28) 14 = .ok (.irem, 1) := (congrArg (fun b => decode b 14) cd28).trans (by decide +kernel)
theorem d28_15 : decode (vm_cd 28) 15 = .ok (.ifCond .eq 7, 3) := (congrArg (fun b => decode b 15) cd28).trans (by decide +kernel)
theorem d28_18 : decode (vm_cd 28) 18 = .ok (.iconst 1, 1) := (congrArg (fun b => decode b 18) cd28).trans (by decide +kernel)
theorem d28_19 : decode (vm_cd 28) 19 = .ok (.goto 4, 3) := (congrArg (fun b => decode b 19) cd28).trans (by decide +kernel)
theorem d28_22 : decode (vm_cd 28) 22 = .ok (.iconst 0, 1) := (congrArg (fun b => decode b 22) cd28).trans (by decide +kernel)
theorem d28_23 : decode (vm_cd 28) 23 = .ok (.ireturn, 1) := (congrArg (fun b => decode b 23) cd28).trans (by decide +kernel)
theorem c28_18 : vm_ml.lookup (vm_own 28, 18) = some (3, 179, 3, 709, 292, 0, 1) := vm_lk (by decide +kernel)
theorem r28 : vm_rt 28 = (some .boolean) := by decide +kernel
theorem B_Ct_areCosts_0 {X : vX} {d : Nat} {M : vM} {Q : Option vV → vM → Prop} {l0 : Int}  (k : cq X d 179 [vI l0, vI 11, vI 99] M (fun r M1 => wp X d 28 8 [vI l0] (r.toList ++ []) (vS0, M1) (vP Q))) : vw X d 28 0 [vI l0] [] M Q := by
  refine w_iload_n d28_0 rfl ?_
  refine w_bi (v := 11) d28_1 rfl ?_
  refine w_bi (v := 99) d28_3 rfl ?_
  exact w_inv1 d28_5 c28_18 (by decide) rfl (Nat.le_of_ble_eq_true rfl) (cq.cl (k))
theorem B_Ct_areCosts_8 {X : vX} {d : Nat} {M : vM} {Q : Option vV → vM → Prop} {l0 s0 : Int}  (k1 : s0 = 0 → vw X d 28 22 [vI l0] [] M Q) (k2 : ¬ s0 = 0 → vw X d 28 11 [vI l0] [] M Q) : vw X d 28 8 [vI l0] [vI s0] M Q := by
  exact w_if_eq d28_8 rfl (fun h => k1 h) (fun h => k2 h)
theorem B_Ct_areCosts_11 {X : vX} {d : Nat} {M : vM} {Q : Option vV → vM → Prop} {l0 : Int}  (k1 : (j_irem l0 10) = 0 → vw X d 28 22 [vI l0] [] M Q) (k2 : ¬ (j_irem l0 10) = 0 → vw X d 28 18 [vI l0] [] M Q) : vw X d 28 11 [vI l0] [] M Q := by
  refine w_iload_n d28_11 rfl ?_
  refine w_bi (v := 10) d28_12 rfl ?_
  refine w_irem d28_14 (by decide) ?_
  exact w_if_eq d28_15 rfl (fun h => k1 h) (fun h => k2 h)
theorem B_Ct_areCosts_18 {X : vX} {d : Nat} {M : vM} {Q : Option vV → vM → Prop} {l0 : Int}  (k : Q (some (vI 1)) M) : vw X d 28 18 [vI l0] [] M Q := by
  refine w_ic (v := 1) d28_18 rfl ?_
  refine w_goto (tgt := 23) d28_19 rfl ?_
  exact w_zret d28_23 r28 (by decide) ⟨_, rfl, k⟩
theorem B_Ct_areCosts_22 {X : vX} {d : Nat} {M : vM} {Q : Option vV → vM → Prop} {l0 : Int}  (k : Q (some (vI 0)) M) : vw X d 28 22 [vI l0] [] M Q := by
  refine w_ic (v := 0) d28_22 rfl ?_
  exact w_zret d28_23 r28 (by decide) ⟨_, rfl, k⟩
theorem E_Ct_areCosts {X : vX} {d : Nat} {M : vM} {Q : Option vV → vM → Prop} {l0 : Int} (k : vw X d 28 0 [vI l0] [] M Q) : cq X (d + 1) 28 [vI l0] M Q := wc_in (Nat.le_of_ble_eq_true rfl) (Nat.le_of_ble_eq_true rfl) k
theorem cd29 : vm_cd 29 = cX1_set := rfl
theorem d29_0 : decode (vm_cd 29) 0 = .ok (.aload_n 0, 1) := (congrArg (fun b => decode b 0) cd29).trans (by decide +kernel)
theorem d29_1 : decode (vm_cd 29) 1 = .ok (.iload_n 1, 1) := (congrArg (fun b => decode b 1) cd29).trans (by decide +kernel)
theorem d29_2 : decode (vm_cd 29) 2 = .ok (.putfield 22, 3) := (congrArg (fun b => decode b 2) cd29).trans (by decide +kernel)
theorem d29_5 : decode (vm_cd 29) 5 = .ok (.aload_n 0, 1) := (congrArg (fun b => decode b 5) cd29).trans (by decide +kernel)
theorem d29_6 : decode (vm_cd 29) 6 = .ok (.getfield 9, 3) := (congrArg (fun b => decode b 6) cd29).trans (by decide +kernel)
theorem d29_9 : decode (vm_cd 29) 9 = .ok (.iconst 0, 1) := (congrArg (fun b => decode b 9) cd29).trans (by decide +kernel)
theorem d29_10 : decode (vm_cd 29) 10 = .ok (.iload_n 2, 1) := (congrArg (fun b => decode b 10) cd29).trans (by decide +kernel)
theorem d29_11 : decode (vm_cd 29) 11 = .ok (.bipush 10, 2) := (congrArg (fun b => decode b 11) cd29).trans (by decide +kernel)
theorem d29_13 : decode (vm_cd 29) 13 = .ok (.idiv, 1) := (congrArg (fun b => decode b 13) cd29).trans (by decide +kernel)
theorem d29_14 : decode (vm_cd 29) 14 = .ok (.iastore, 1) := (congrArg (fun b => decode b 14) cd29).trans (by decide +kernel)
theorem d29_15 : decode (vm_cd 29) 15 = .ok (.aload_n 0, 1) := (congrArg (fun b => decode b 15) cd29).trans (by decide +kernel)
theorem d29_16 : decode (vm_cd 29) 16 = .ok (.getfield 9, 3) := (congrArg (fun b => decode b 16) cd29).trans (by decide +kernel)
theorem d29_19 : decode (vm_cd 29) 19 = .ok (.iconst 1, 1) := (congrArg (fun b => decode b 19) cd29).trans (by decide +kernel)
theorem d29_20 : decode (vm_cd 29) 20 = .ok (.iload_n 2, 1) := (congrArg (fun b => decode b 20) cd29).trans (by decide +kernel)
theorem d29_21 : decode (vm_cd 29) 21 = .ok (.bipush 10, 2) := (congrArg (fun b => decode b 21) cd29).trans (by decide +kernel)
theorem d29_23 : decode (vm_cd 29) 23 = .ok (.irem, 1) := (congrArg (fun b => decode b 23) cd29).trans (by decide +kernel)
theorem d29_24 : decode (vm_cd 29) 24 = .ok (.iastore, 1) := (congrArg (fun b => decode b 24) cd29).trans (by decide +kernel)
theorem d29_25 : decode (vm_cd 29) 25 = .ok (.aload_n 0, 1) := (congrArg (fun b => decode b 25) cd29).trans (by decide +kernel)
theorem d29_26 : decode (vm_cd 29) 26 = .ok (.getfield 15, 3) := (congrArg (fun b => decode b 26) cd29).trans (by decide +kernel)
theorem d29_29 : decode (vm_cd 29) 29 = .ok (.iconst 0, 1) := (congrArg (fun b => decode b 29) cd29).trans (by decide +kernel)
theorem d29_30 : decode (vm_cd 29) 30 = .ok (.iload_n 3, 1) := (congrArg (fun b => decode b 30) cd29).trans (by decide +kernel)
theorem d29_31 : decode (vm_cd 29) 31 = .ok (.bipush 10, 2) := (congrArg (fun b => decode b 31) cd29).trans (by decide +kernel)
theorem d29_33 : decode (vm_cd 29) 33 = .ok (.idiv, 1) := (congrArg (fun b => decode b 33) cd29).trans (by decide +kernel)
theorem d29_34 : decode (vm_cd 29) 34 = .ok (.iastore, 1) := (congrArg (fun b => decode b 34) cd29).trans (by decide +kernel)
theorem d29_35 : decode (vm_cd 29) 35 = .ok (.aload_n 0, 1) := (congrArg (fun b => decode b 35) cd29).trans (by decide +kernel)
theorem d29_36 : decode (vm_cd 29) 36 = .ok (.getfield 15, 3) := (congrArg (fun b => decode b 36) cd29).trans (by decide +kernel)
theorem d29_39 : decode (vm_cd 29) 39 = .ok (.iconst 1, 1) := (congrArg (fun b => decode b 39) cd29).trans (by decide +kernel)
theorem d29_40 : decode (vm_cd 29) 40 = .ok (.iload_n 3, 1) := (congrArg (fun b => decode b 40) cd29).trans (by decide +kernel)
theorem d29_41 : decode (vm_cd 29) 41 = .ok (.bipush 10, 2) := (congrArg (fun b => decode b 41) cd29).trans (by decide +kernel)
theorem d29_43 : decode (vm_cd 29) 43 = .ok (.irem, 1) := (congrArg (fun b => decode b 43) cd29).trans (by decide +kernel)
theorem d29_44 : decode (vm_cd 29) 44 = .ok (.iastore, 1) := (congrArg (fun b => decode b 44) cd29).trans (by decide +kernel)
theorem d29_45 : decode (vm_cd 29) 45 = .ok (.return_, 1) := (congrArg (fun b => decode b 45) cd29).trans (by decide +kernel)
theorem f29_9 : vm_fl.lookup (vm_own 29, 9) = some (1, 0, 140) := by decide +kernel
theorem f29_15 : vm_fl.lookup (vm_own 29, 15) = some (1, 1, 141) := by decide +kernel
theorem f29_22 : vm_fl.lookup (vm_own 29, 22) = some (1, 2, 142) := by decide +kernel
theorem r29 : vm_rt 29 = none := by decide +kernel
theorem B_Ct_set_0 {X : vX} {d : Nat} {M : vM} {Q : Option vV → vM → Prop} {l1 l2 l3 : Int} (hR : vRefs M)  (k : vRefs (vm_up (vm_up (vm_up (vm_up (vm_up M 53 2 l1) 54 0 (j_idiv l2 10)) 54 1 (j_irem l2 10)) 55 0 (j_idiv l3 10)) 55 1 (j_irem l3 10)) → Q none (vm_up (vm_up (vm_up (vm_up (vm_up M 53 2 l1) 54 0 (j_idiv l2 10)) 54 1 (j_irem l2 10)) 55 0 (j_idiv l3 10)) 55 1 (j_irem l3 10))) : vw X d 29 0 [vR 53, vI l1, vI l2, vI l3] [] M Q := by
  refine w_aload_n d29_0 rfl ?_
  refine w_iload_n d29_1 rfl ?_
  refine w_putf (a := 53) (x := l1) d29_2 f29_22 rfl rfl rfl (Or.inl rfl) ?_
  refine w_aload_n d29_5 rfl ?_
  refine w_getf (a := 53) (v := vR 54) d29_6 f29_9 rfl rfl (congrArg vR (rf_53_0 (vRefs_up hR ⟨by decide, by decide⟩))) ?_
  refine w_ic (v := 0) d29_9 rfl ?_
  refine w_iload_n d29_10 rfl ?_
  refine w_bi (v := 10) d29_11 rfl ?_
  refine w_idiv d29_13 (by decide) ?_
  refine w_iast (a := 54) d29_14 rfl rfl ⟨by decide, by decide⟩ ?_
  refine w_aload_n d29_15 rfl ?_
  refine w_getf (a := 53) (v := vR 54) d29_16 f29_9 rfl rfl (congrArg vR (rf_53_0 (vRefs_free (vRefs_up hR ⟨by decide, by decide⟩) ⟨by decide, by decide⟩))) ?_
  refine w_ic (v := 1) d29_19 rfl ?_
  refine w_iload_n d29_20 rfl ?_
  refine w_bi (v := 10) d29_21 rfl ?_
  refine w_irem d29_23 (by decide) ?_
  refine w_iast (a := 54) d29_24 rfl rfl ⟨by decide, by decide⟩ ?_
  refine w_aload_n d29_25 rfl ?_
  refine w_getf (a := 53) (v := vR 55) d29_26 f29_15 rfl rfl (congrArg vR (rf_53_1 (vRefs_free (vRefs_free (vRefs_up hR ⟨by decide, by decide⟩) ⟨by decide, by decide⟩) ⟨by decide, by decide⟩))) ?_
  refine w_ic (v := 0) d29_29 rfl ?_
  refine w_iload_n d29_30 rfl ?_
  refine w_bi (v := 10) d29_31 rfl ?_
  refine w_idiv d29_33 (by decide) ?_
  refine w_iast (a := 55) d29_34 rfl rfl ⟨by decide, by decide⟩ ?_
  refine w_aload_n d29_35 rfl ?_
  refine w_getf (a := 53) (v := vR 55) d29_36 f29_15 rfl rfl (congrArg vR (rf_53_1 (vRefs_free (vRefs_free (vRefs_free (vRefs_up hR ⟨by decide, by decide⟩) ⟨by decide, by decide⟩) ⟨by decide, by decide⟩) ⟨by decide, by decide⟩))) ?_
  refine w_ic (v := 1) d29_39 rfl ?_
  refine w_iload_n d29_40 rfl ?_
  refine w_bi (v := 10) d29_41 rfl ?_
  refine w_irem d29_43 (by decide) ?_
  refine w_iast (a := 55) d29_44 rfl rfl ⟨by decide, by decide⟩ ?_
  exact w_vret d29_45 r29 ⟨_, rfl, k (vRefs_free (vRefs_free (vRefs_free (vRefs_free (vRefs_up hR ⟨by decide, by decide⟩) ⟨by decide, by decide⟩) ⟨by decide, by decide⟩) ⟨by decide, by decide⟩) ⟨by decide, by decide⟩)⟩
theorem E_Ct_set {X : vX} {d : Nat} {M : vM} {Q : Option vV → vM → Prop} {l1 l2 l3 : Int} (k : vw X d 29 0 [vR 53, vI l1, vI l2, vI l3] [] M Q) : cq X (d + 1) 29 [vR 53, vI l1, vI l2, vI l3] M Q := wc_in (Nat.le_of_ble_eq_true rfl) (Nat.le_of_ble_eq_true rfl) k
theorem cd30 : vm_cd 30 = cX1_howManyCalm := rfl
theorem d30_0 : decode (vm_cd 30) 0 = .ok (.iconst 0, 1) := (congrArg (fun b => decode b 0) cd30).trans (by decide +kernel)
theorem d30_1 : decode (vm_cd 30) 1 = .ok (.istore_n 1, 1) := (congrArg (fun b => decode b 1) cd30).trans (by decide +kernel)
theorem d30_2 : decode (vm_cd 30) 2 = .ok (.iconst 0, 1) := (congrArg (fun b => decode b 2) cd30).trans (by decide +kernel)
theorem d30_3 : decode (vm_cd 30) 3 = .ok (.istore_n 2, 1) := (congrArg (fun b => decode b 3) cd30).trans (by decide +kernel)
theorem d30_4 : decode (vm_cd 30) 4 = .ok (.iload_n 2, 1) := (congrArg (fun b => decode b 4) cd30).trans (by decide +kernel)
theorem d30_5 : decode (vm_cd 30) 5 = .ok (.bipush 81, 2) := (congrArg (fun b => decode b 5) cd30).trans (by decide +kernel)
theorem d30_7 : decode (vm_cd 30) 7 = .ok (.if_icmp .ge 27, 3) := (congrArg (fun b => decode b 7) cd30).trans (by decide +kernel)
theorem d30_10 : decode (vm_cd 30) 10 = .ok (.aload_n 0, 1) := (congrArg (fun b => decode b 10) cd30).trans (by decide +kernel)
theorem d30_11 : decode (vm_cd 30) 11 = .ok (.iload_n 2, 1) := (congrArg (fun b => decode b 11) cd30).trans (by decide +kernel)
theorem d30_12 : decode (vm_cd 30) 12 = .ok (.bipush 9, 2) := (congrArg (fun b => decode b 12) cd30).trans (by decide +kernel)
theorem d30_14 : decode (vm_cd 30) 14 = .ok (.idiv, 1) := (congrArg (fun b => decode b 14) cd30).trans (by decide +kernel)
theorem d30_15 : decode (vm_cd 30) 15 = .ok (.iload_n 2, 1) := (congrArg (fun b => decode b 15) cd30).trans (by decide +kernel)
theorem d30_16 : decode (vm_cd 30) 16 = .ok (.bipush 9, 2) := (congrArg (fun b => decode b 16) cd30).trans (by decide +kernel)
theorem d30_18 : decode (vm_cd 30) 18 = .ok (.irem, 1) := (congrArg (fun b => decode b 18) cd30).trans (by decide +kernel)
theorem d30_19 : decode (vm_cd 30) 19 = .ok (.invokevirtual 26, 3) := (congrArg (fun b => decode b 19) cd30).trans (by decide +kernel)
theorem d30_22 : decode (vm_cd 30) 22 = .ok (.ifCond .eq 6, 3) := (congrArg (fun b => decode b 22) cd30).trans (by decide +kernel)
theorem d30_25 : decode (vm_cd 30) 25 = .ok (.iinc 1 1, 3) := (congrArg (fun b => decode b 25) cd30).trans (by decide +kernel)
theorem d30_28 : decode (vm_cd 30) 28 = .ok (.iinc 2 1, 3) := (congrArg (fun b => decode b 28) cd30).trans (by decide +kernel)
theorem d30_31 : decode (vm_cd 30) 31 = .ok (.goto (-27), 3) := (congrArg (fun b => decode b 31) cd30).trans (by decide +kernel)
theorem d30_34 : decode (vm_cd 30) 34 = .ok (.iload_n 1, 1) := (congrArg (fun b => decode b 34) cd30).trans (by decide +kernel)
theorem d30_35 : decode (vm_cd 30) 35 = .ok (.ireturn, 1) := (congrArg (fun b => decode b 35) cd30).trans (by decide +kernel)
theorem c30_26 : vm_ml.lookup (vm_own 30, 26) = some (0, 32, 2, 722, 724, 17, 8) := vm_lk (by decide +kernel)
theorem r30 : vm_rt 30 = (some .int) := by decide +kernel
theorem B_Ct_howManyCalm_0 {X : vX} {d : Nat} {M : vM} {Q : Option vV → vM → Prop}  (k : vw X d 30 4 [vR 53, vI 0, vI 0] [] M Q) : vw X d 30 0 [vR 53, vN, vN] [] M Q := by
  refine w_ic (v := 0) d30_0 rfl ?_
  refine w_istore_nE (ls' := [vR 53, vI 0, vN]) d30_1 (Nat.le_of_ble_eq_true rfl) rfl ?_
  refine w_ic (v := 0) d30_2 rfl ?_
  refine w_istore_nE (ls' := [vR 53, vI 0, vI 0]) d30_3 (Nat.le_of_ble_eq_true rfl) rfl ?_
  exact k
theorem B_Ct_howManyCalm_4 {X : vX} {d : Nat} {M : vM} {Q : Option vV → vM → Prop} {l1 l2 : Int}  (k1 : 81 ≤ l2 → vw X d 30 34 [vR 53, vI l1, vI l2] [] M Q) (k2 : l2 < 81 → vw X d 30 10 [vR 53, vI l1, vI l2] [] M Q) : vw X d 30 4 [vR 53, vI l1, vI l2] [] M Q := by
  refine w_iload_n d30_4 rfl ?_
  refine w_bi (v := 81) d30_5 rfl ?_
  exact w_icmp_ge d30_7 rfl (fun h => k1 h) (fun h => k2 h)
theorem B_Ct_howManyCalm_10 {X : vX} {d : Nat} {M : vM} {Q : Option vV → vM → Prop} {l1 l2 : Int}  (k : cq X d 32 [vR 53, vI (j_idiv l2 9), vI (j_irem l2 9)] M (fun r M1 => wp X d 30 22 [vR 53, vI l1, vI l2] (r.toList ++ []) (vS0, M1) (vP Q))) : vw X d 30 10 [vR 53, vI l1, vI l2] [] M Q := by
  refine w_aload_n d30_10 rfl ?_
  refine w_iload_n d30_11 rfl ?_
  refine w_bi (v := 9) d30_12 rfl ?_
  refine w_idiv d30_14 (by decide) ?_
  refine w_iload_n d30_15 rfl ?_
  refine w_bi (v := 9) d30_16 rfl ?_
  refine w_irem d30_18 (by decide) ?_
  exact w_inv0 (a := 53) (c := 1) d30_19 c30_26 rfl rfl rfl v32 (Nat.le_of_ble_eq_true rfl) (cq.cl (k))
theorem B_Ct_howManyCalm_22 {X : vX} {d : Nat} {M : vM} {Q : Option vV → vM → Prop} {l1 l2 s0 : Int}  (k1 : s0 = 0 → vw X d 30 28 [vR 53, vI l1, vI l2] [] M Q) (k2 : ¬ s0 = 0 → vw X d 30 25 [vR 53, vI l1, vI l2] [] M Q) : vw X d 30 22 [vR 53, vI l1, vI l2] [vI s0] M Q := by
  exact w_if_eq d30_22 rfl (fun h => k1 h) (fun h => k2 h)
theorem B_Ct_howManyCalm_25 {X : vX} {d : Nat} {M : vM} {Q : Option vV → vM → Prop} {l1 l2 : Int}  (k : vw X d 30 4 [vR 53, vI (w32 (l1 + 1)), vI (w32 (l2 + 1))] [] M Q) : vw X d 30 25 [vR 53, vI l1, vI l2] [] M Q := by
  refine w_iincE (ls' := [vR 53, vI (w32 (l1 + 1)), vI l2]) d30_25 rfl rfl ?_
  refine w_iincE (ls' := [vR 53, vI (w32 (l1 + 1)), vI (w32 (l2 + 1))]) d30_28 rfl rfl ?_
  refine w_goto (tgt := 4) d30_31 rfl ?_
  exact k
theorem B_Ct_howManyCalm_28 {X : vX} {d : Nat} {M : vM} {Q : Option vV → vM → Prop} {l1 l2 : Int}  (k : vw X d 30 4 [vR 53, vI l1, vI (w32 (l2 + 1))] [] M Q) : vw X d 30 28 [vR 53, vI l1, vI l2] [] M Q := by
  refine w_iincE (ls' := [vR 53, vI l1, vI (w32 (l2 + 1))]) d30_28 rfl rfl ?_
  refine w_goto (tgt := 4) d30_31 rfl ?_
  exact k
theorem B_Ct_howManyCalm_34 {X : vX} {d : Nat} {M : vM} {Q : Option vV → vM → Prop} {l1 l2 : Int}  (k : Q (some (vI l1)) M) : vw X d 30 34 [vR 53, vI l1, vI l2] [] M Q := by
  refine w_iload_n d30_34 rfl ?_
  exact w_iret d30_35 r30 ⟨_, rfl, k⟩
theorem E_Ct_howManyCalm {X : vX} {d : Nat} {M : vM} {Q : Option vV → vM → Prop} (k : vw X d 30 0 [vR 53, vN, vN] [] M Q) : cq X (d + 1) 30 [vR 53] M Q := wc_in (Nat.le_of_ble_eq_true rfl) (Nat.le_of_ble_eq_true rfl) k
theorem cd31 : vm_cd 31 = cX1_calmAt := rfl
theorem d31_0 : decode (vm_cd 31) 0 = .ok (.iconst 0, 1) := (congrArg (fun b => decode b 0) cd31).trans (by decide +kernel)
theorem d31_1 : decode (vm_cd 31) 1 = .ok (.istore_n 2, 1) := (congrArg (fun b => decode b 1) cd31).trans (by decide +kernel)
theorem d31_2 : decode (vm_cd 31) 2 = .ok (.iconst 0, 1) := (congrArg (fun b => decode b 2) cd31).trans (by decide +kernel)
theorem d31_3 : decode (vm_cd 31) 3 = .ok (.istore_n 3, 1) := (congrArg (fun b => decode b 3) cd31).trans (by decide +kernel)
theorem d31_4 : decode (vm_cd 31) 4 = .ok (.iload_n 3, 1) := (congrArg (fun b => decode b 4) cd31).trans (by decide +kernel)
theorem d31_5 : decode (vm_cd 31) 5 = .ok (.bipush 81, 2) := (congrArg (fun b => decode b 5) cd31).trans (by decide +kernel)
theorem d31_7 : decode (vm_cd 31) 7 = .ok (.if_icmp .ge 45, 3) := (congrArg (fun b => decode b 7) cd31).trans (by decide +kernel)
theorem d31_10 : decode (vm_cd 31) 10 = .ok (.aload_n 0, 1) := (congrArg (fun b => decode b 10) cd31).trans (by decide +kernel)
theorem d31_11 : decode (vm_cd 31) 11 = .ok (.iload_n 3, 1) := (congrArg (fun b => decode b 11) cd31).trans (by decide +kernel)
theorem d31_12 : decode (vm_cd 31) 12 = .ok (.bipush 9, 2) := (congrArg (fun b => decode b 12) cd31).trans (by decide +kernel)
theorem d31_14 : decode (vm_cd 31) 14 = .ok (.idiv, 1) := (congrArg (fun b => decode b 14) cd31).trans (by decide +kernel)
theorem d31_15 : decode (vm_cd 31) 15 = .ok (.iload_n 3, 1) := (congrArg (fun b => decode b 15) cd31).trans (by decide +kernel)
theorem d31_16 : decode (vm_cd 31) 16 = .ok (.bipush 9, 2) := (congrArg (fun b => decode b 16) cd31).trans (by decide +kernel)
theorem d31_18 : decode (vm_cd 31) 18 = .ok (.irem, 1) := (congrArg (fun b => decode b 18) cd31).trans (by decide +kernel)
theorem d31_19 : decode (vm_cd 31) 19 = .ok (.invokevirtual 26, 3) := (congrArg (fun b => decode b 19) cd31).trans (by decide +kernel)
theorem d31_22 : decode (vm_cd 31) 22 = .ok (.ifCond .eq 24, 3) := (congrArg (fun b => decode b 22) cd31).trans (by decide +kernel)
theorem d31_25 : decode (vm_cd 31) 25 = .ok (.iload_n 2, 1) := (congrArg (fun b => decode b 25) cd31).trans (by decide +kernel)
theorem d31_26 : decode (vm_cd 31) 26 = .ok (.iload_n 1, 1) := (congrArg (fun b => decode b 26) cd31).trans (by decide +kernel)
theorem d31_27 : decode (vm_cd 31) 27 = .ok (.if_icmp .ne 16, 3) := (congrArg (fun b => decode b 27) cd31).trans (by decide +kernel)
theorem d31_30 : decode (vm_cd 31) 30 = .ok (.bipush 10, 2) := (congrArg (fun b => decode b 30) cd31).trans (by decide +kernel)
theorem d31_32 : decode (vm_cd 31) 32 = .ok (.iload_n 3, 1) := (congrArg (fun b => decode b 32) cd31).trans (by decide +kernel)
theorem d31_33 : decode (vm_cd 31) 33 = .ok (.bipush 9, 2) := (congrArg (fun b => decode b 33) cd31).trans (by decide +kernel)
theorem d31_35 : decode (vm_cd 31) 35 = .ok (.idiv, 1) := (congrArg (fun b => decode b 35) cd31).trans (by decide +kernel)
theorem d31_36 : decode (vm_cd 31) 36 = .ok (.imul, 1) := (congrArg (fun b => decode b 36) cd31).trans (by decide +kernel)
theorem d31_37 : decode (vm_cd 31) 37 = .ok (.iload_n 3, 1) := (congrArg (fun b => decode b 37) cd31).trans (by decide +kernel)
theorem d31_38 : decode (vm_cd 31) 38 = .ok (.bipush 9, 2) := (congrArg (fun b => decode b 38) cd31).trans (by decide +kernel)
theorem d31_40 : decode (vm_cd 31) 40 = .ok (.irem, 1) := (congrArg (fun b => decode b 40) cd31).trans (by decide +kernel)
theorem d31_41 : decode (vm_cd 31) 41 = .ok (.iadd, 1) := (congrArg (fun b => decode b 41) cd31).trans (by decide +kernel)
theorem d31_42 : decode (vm_cd 31) 42 = .ok (.ireturn, 1) := (congrArg (fun b => decode b 42) cd31).trans (by decide +kernel)
theorem d31_43 : decode (vm_cd 31) 43 = .ok (.iinc 2 1, 3) := (congrArg (fun b => decode b 43) cd31).trans (by decide +kernel)
theorem d31_46 : decode (vm_cd 31) 46 = .ok (.iinc 3 1, 3) := (congrArg (fun b => decode b 46) cd31).trans (by decide +kernel)
theorem d31_49 : decode (vm_cd 31) 49 = .ok (.goto (-45), 3) := (congrArg (fun b => decode b 49) cd31).trans (by decide +kernel)
theorem d31_52 : decode (vm_cd 31) 52 = .ok (.iconst (-1), 1) := (congrArg (fun b => decode b 52) cd31).trans (by decide +kernel)
theorem d31_53 : decode (vm_cd 31) 53 = .ok (.ireturn, 1) := (congrArg (fun b => decode b 53) cd31).trans (by decide +kernel)
theorem c31_26 : vm_ml.lookup (vm_own 31, 26) = some (0, 32, 2, 722, 724, 17, 8) := vm_lk (by decide +kernel)
theorem r31 : vm_rt 31 = (some .int) := by decide +kernel
theorem B_Ct_calmAt_0 {X : vX} {d : Nat} {M : vM} {Q : Option vV → vM → Prop} {l1 : Int}  (k : vw X d 31 4 [vR 53, vI l1, vI 0, vI 0] [] M Q) : vw X d 31 0 [vR 53, vI l1, vN, vN] [] M Q := by
  refine w_ic (v := 0) d31_0 rfl ?_
  refine w_istore_nE (ls' := [vR 53, vI l1, vI 0, vN]) d31_1 (Nat.le_of_ble_eq_true rfl) rfl ?_
  refine w_ic (v := 0) d31_2 rfl ?_
  refine w_istore_nE (ls' := [vR 53, vI l1, vI 0, vI 0]) d31_3 (Nat.le_of_ble_eq_true rfl) rfl ?_
  exact k
theorem B_Ct_calmAt_4 {X : vX} {d : Nat} {M : vM} {Q : Option vV → vM → Prop} {l1 l2 l3 : Int}  (k1 : 81 ≤ l3 → vw X d 31 52 [vR 53, vI l1, vI l2, vI l3] [] M Q) (k2 : l3 < 81 → vw X d 31 10 [vR 53, vI l1, vI l2, vI l3] [] M Q) : vw X d 31 4 [vR 53, vI l1, vI l2, vI l3] [] M Q := by
  refine w_iload_n d31_4 rfl ?_
  refine w_bi (v := 81) d31_5 rfl ?_
  exact w_icmp_ge d31_7 rfl (fun h => k1 h) (fun h => k2 h)
theorem B_Ct_calmAt_10 {X : vX} {d : Nat} {M : vM} {Q : Option vV → vM → Prop} {l1 l2 l3 : Int}  (k : cq X d 32 [vR 53, vI (j_idiv l3 9), vI (j_irem l3 9)] M (fun r M1 => wp X d 31 22 [vR 53, vI l1, vI l2, vI l3] (r.toList ++ []) (vS0, M1) (vP Q))) : vw X d 31 10 [vR 53, vI l1, vI l2, vI l3] [] M Q := by
  refine w_aload_n d31_10 rfl ?_
  refine w_iload_n d31_11 rfl ?_
  refine w_bi (v := 9) d31_12 rfl ?_
  refine w_idiv d31_14 (by decide) ?_
  refine w_iload_n d31_15 rfl ?_
  refine w_bi (v := 9) d31_16 rfl ?_
  refine w_irem d31_18 (by decide) ?_
  exact w_inv0 (a := 53) (c := 1) d31_19 c31_26 rfl rfl rfl v32 (Nat.le_of_ble_eq_true rfl) (cq.cl (k))
theorem B_Ct_calmAt_22 {X : vX} {d : Nat} {M : vM} {Q : Option vV → vM → Prop} {l1 l2 l3 s0 : Int}  (k1 : s0 = 0 → vw X d 31 46 [vR 53, vI l1, vI l2, vI l3] [] M Q) (k2 : ¬ s0 = 0 → vw X d 31 25 [vR 53, vI l1, vI l2, vI l3] [] M Q) : vw X d 31 22 [vR 53, vI l1, vI l2, vI l3] [vI s0] M Q := by
  exact w_if_eq d31_22 rfl (fun h => k1 h) (fun h => k2 h)
theorem B_Ct_calmAt_25 {X : vX} {d : Nat} {M : vM} {Q : Option vV → vM → Prop} {l1 l2 l3 : Int}  (k1 : ¬ l2 = l1 → vw X d 31 43 [vR 53, vI l1, vI l2, vI l3] [] M Q) (k2 : l2 = l1 → vw X d 31 30 [vR 53, vI l1, vI l2, vI l3] [] M Q) : vw X d 31 25 [vR 53, vI l1, vI l2, vI l3] [] M Q := by
  refine w_iload_n d31_25 rfl ?_
  refine w_iload_n d31_26 rfl ?_
  exact w_icmp_ne d31_27 rfl (fun h => k1 h) (fun h => k2 h)
theorem B_Ct_calmAt_30 {X : vX} {d : Nat} {M : vM} {Q : Option vV → vM → Prop} {l1 l2 l3 : Int}  (k : Q (some (vI (w32 ((w32 (10 * (j_idiv l3 9))) + (j_irem l3 9))))) M) : vw X d 31 30 [vR 53, vI l1, vI l2, vI l3] [] M Q := by
  refine w_bi (v := 10) d31_30 rfl ?_
  refine w_iload_n d31_32 rfl ?_
  refine w_bi (v := 9) d31_33 rfl ?_
  refine w_idiv d31_35 (by decide) ?_
  refine w_imul d31_36 ?_
  refine w_iload_n d31_37 rfl ?_
  refine w_bi (v := 9) d31_38 rfl ?_
  refine w_irem d31_40 (by decide) ?_
  refine w_iadd d31_41 ?_
  exact w_iret d31_42 r31 ⟨_, rfl, k⟩
theorem B_Ct_calmAt_43 {X : vX} {d : Nat} {M : vM} {Q : Option vV → vM → Prop} {l1 l2 l3 : Int}  (k : vw X d 31 4 [vR 53, vI l1, vI (w32 (l2 + 1)), vI (w32 (l3 + 1))] [] M Q) : vw X d 31 43 [vR 53, vI l1, vI l2, vI l3] [] M Q := by
  refine w_iincE (ls' := [vR 53, vI l1, vI (w32 (l2 + 1)), vI l3]) d31_43 rfl rfl ?_
  refine w_iincE (ls' := [vR 53, vI l1, vI (w32 (l2 + 1)), vI (w32 (l3 + 1))]) d31_46 rfl rfl ?_
  refine w_goto (tgt := 4) d31_49 rfl ?_
  exact k
theorem B_Ct_calmAt_46 {X : vX} {d : Nat} {M : vM} {Q : Option vV → vM → Prop} {l1 l2 l3 : Int}  (k : vw X d 31 4 [vR 53, vI l1, vI l2, vI (w32 (l3 + 1))] [] M Q) : vw X d 31 46 [vR 53, vI l1, vI l2, vI l3] [] M Q := by
  refine w_iincE (ls' := [vR 53, vI l1, vI l2, vI (w32 (l3 + 1))]) d31_46 rfl rfl ?_
  refine w_goto (tgt := 4) d31_49 rfl ?_
  exact k
theorem B_Ct_calmAt_52 {X : vX} {d : Nat} {M : vM} {Q : Option vV → vM → Prop} {l1 l2 l3 : Int}  (k : Q (some (vI ((-1)))) M) : vw X d 31 52 [vR 53, vI l1, vI l2, vI l3] [] M Q := by
  refine w_ic (v := (-1)) d31_52 rfl ?_
  exact w_iret d31_53 r31 ⟨_, rfl, k⟩
theorem E_Ct_calmAt {X : vX} {d : Nat} {M : vM} {Q : Option vV → vM → Prop} {l1 : Int} (k : vw X d 31 0 [vR 53, vI l1, vN, vN] [] M Q) : cq X (d + 1) 31 [vR 53, vI l1] M Q := wc_in (Nat.le_of_ble_eq_true rfl) (Nat.le_of_ble_eq_true rfl) k
theorem cd32 : vm_cd 32 = cX1_isCalm := rfl
theorem d32_0 : decode (vm_cd 32) 0 = .ok (.aload_n 0, 1) := (congrArg (fun b => decode b 0) cd32).trans (by decide +kernel)
theorem d32_1 : decode (vm_cd 32) 1 = .ok (.iconst 0, 1) := (congrArg (fun b => decode b 1) cd32).trans (by decide +kernel)
theorem d32_2 : decode (vm_cd 32) 2 = .ok (.iload_n 1, 1) := (congrArg (fun b => decode b 2) cd32).trans (by decide +kernel)
theorem d32_3 : decode (vm_cd 32) 3 = .ok (.iload_n 2, 1) := (congrArg (fun b => decode b 3) cd32).trans (by decide +kernel)
theorem d32_4 : decode (vm_cd 32) 4 = .ok (.invokevirtual 30, 3) := (congrArg (fun b => decode b 4) cd32).trans (by decide +kernel)
theorem d32_7 : decode (vm_cd 32) 7 = .ok (.ifCond .eq 17, 3) := (congrArg (fun b => decode b 7) cd32).trans (by decide +kernel)
theorem d32_10 : decode (vm_cd 32) 10 = .ok (.aload_n 0, 1) := (congrArg (fun b => decode b 10) cd32).trans (by decide +kernel)
theorem d32_11 : decode (vm_cd 32) 11 = .ok (.iconst 1, 1) := (congrArg (fun b => decode b 11) cd32).trans (by decide +kernel)
theorem d32_12 : decode (vm_cd 32) 12 = .ok (.iload_n 2, 1) := (congrArg (fun b => decode b 12) cd32).trans (by decide +kernel)
theorem d32_13 : decode (vm_cd 32) 13 = .ok (.iload_n 1, 1) := (congrArg (fun b => decode b 13) cd32).trans (by decide +kernel)
theorem d32_14 : decode (vm_cd 32) 14 = .ok (.invokevirtual 30, 3) := (congrArg (fun b => decode b 14) cd32).trans (by decide +kernel)
theorem d32_17 : decode (vm_cd 32) 17 = .ok (.ifCond .eq 7, 3) := (congrArg (fun b => decode b 17) cd32).trans (by decide +kernel)
theorem d32_20 : decode (vm_cd 32) 20 = .ok (.iconst 1, 1) := (congrArg (fun b => decode b 20) cd32).trans (by decide +kernel)
theorem d32_21 : decode (vm_cd 32) 21 = .ok (.goto 4, 3) := (congrArg (fun b => decode b 21) cd32).trans (by decide +kernel)
theorem d32_24 : decode (vm_cd 32) 24 = .ok (.iconst 0, 1) := (congrArg (fun b => decode b 24) cd32).trans (by decide +kernel)
theorem d32_25 : decode (vm_cd 32) 25 = .ok (.ireturn, 1) := (congrArg (fun b => decode b 25) cd32).trans (by decide +kernel)
theorem c32_30 : vm_ml.lookup (vm_own 32, 30) = some (0, 33, 3, 726, 728, 18, 8) := vm_lk (by decide +kernel)
theorem r32 : vm_rt 32 = (some .boolean) := by decide +kernel
theorem B_Ct_isCalm_0 {X : vX} {d : Nat} {M : vM} {Q : Option vV → vM → Prop} {l1 l2 : Int}  (k : cq X d 33 [vR 53, vI 0, vI l1, vI l2] M (fun r M1 => wp X d 32 7 [vR 53, vI l1, vI l2] (r.toList ++ []) (vS0, M1) (vP Q))) : vw X d 32 0 [vR 53, vI l1, vI l2] [] M Q := by
  refine w_aload_n d32_0 rfl ?_
  refine w_ic (v := 0) d32_1 rfl ?_
  refine w_iload_n d32_2 rfl ?_
  refine w_iload_n d32_3 rfl ?_
  exact w_inv0 (a := 53) (c := 1) d32_4 c32_30 rfl rfl rfl v33 (Nat.le_of_ble_eq_true rfl) (cq.cl (k))
theorem B_Ct_isCalm_7 {X : vX} {d : Nat} {M : vM} {Q : Option vV → vM → Prop} {l1 l2 s0 : Int}  (k1 : s0 = 0 → vw X d 32 24 [vR 53, vI l1, vI l2] [] M Q) (k2 : ¬ s0 = 0 → vw X d 32 10 [vR 53, vI l1, vI l2] [] M Q) : vw X d 32 7 [vR 53, vI l1, vI l2] [vI s0] M Q := by
  exact w_if_eq d32_7 rfl (fun h => k1 h) (fun h => k2 h)
theorem B_Ct_isCalm_10 {X : vX} {d : Nat} {M : vM} {Q : Option vV → vM → Prop} {l1 l2 : Int}  (k : cq X d 33 [vR 53, vI 1, vI l2, vI l1] M (fun r M1 => wp X d 32 17 [vR 53, vI l1, vI l2] (r.toList ++ []) (vS0, M1) (vP Q))) : vw X d 32 10 [vR 53, vI l1, vI l2] [] M Q := by
  refine w_aload_n d32_10 rfl ?_
  refine w_ic (v := 1) d32_11 rfl ?_
  refine w_iload_n d32_12 rfl ?_
  refine w_iload_n d32_13 rfl ?_
  exact w_inv0 (a := 53) (c := 1) d32_14 c32_30 rfl rfl rfl v33 (Nat.le_of_ble_eq_true rfl) (cq.cl (k))
theorem B_Ct_isCalm_17 {X : vX} {d : Nat} {M : vM} {Q : Option vV → vM → Prop} {l1 l2 s0 : Int}  (k1 : s0 = 0 → vw X d 32 24 [vR 53, vI l1, vI l2] [] M Q) (k2 : ¬ s0 = 0 → vw X d 32 20 [vR 53, vI l1, vI l2] [] M Q) : vw X d 32 17 [vR 53, vI l1, vI l2] [vI s0] M Q := by
  exact w_if_eq d32_17 rfl (fun h => k1 h) (fun h => k2 h)
theorem B_Ct_isCalm_20 {X : vX} {d : Nat} {M : vM} {Q : Option vV → vM → Prop} {l1 l2 : Int}  (k : Q (some (vI 1)) M) : vw X d 32 20 [vR 53, vI l1, vI l2] [] M Q := by
  refine w_ic (v := 1) d32_20 rfl ?_
  refine w_goto (tgt := 25) d32_21 rfl ?_
  exact w_zret d32_25 r32 (by decide) ⟨_, rfl, k⟩
theorem B_Ct_isCalm_24 {X : vX} {d : Nat} {M : vM} {Q : Option vV → vM → Prop} {l1 l2 : Int}  (k : Q (some (vI 0)) M) : vw X d 32 24 [vR 53, vI l1, vI l2] [] M Q := by
  refine w_ic (v := 0) d32_24 rfl ?_
  exact w_zret d32_25 r32 (by decide) ⟨_, rfl, k⟩
theorem E_Ct_isCalm {X : vX} {d : Nat} {M : vM} {Q : Option vV → vM → Prop} {l1 l2 : Int} (k : vw X d 32 0 [vR 53, vI l1, vI l2] [] M Q) : cq X (d + 1) 32 [vR 53, vI l1, vI l2] M Q := wc_in (Nat.le_of_ble_eq_true rfl) (Nat.le_of_ble_eq_true rfl) k
theorem cd33 : vm_cd 33 = cX1_isContent := rfl
theorem d33_0 : decode (vm_cd 33) 0 = .ok (.iconst 0, 1) := (congrArg (fun b => decode b 0) cd33).trans (by decide +kernel)
theorem d33_1 : decode (vm_cd 33) 1 = .ok (.istore 4, 2) := (congrArg (fun b => decode b 1) cd33).trans (by decide +kernel)
theorem d33_3 : decode (vm_cd 33) 3 = .ok (.iload 4, 2) := (congrArg (fun b => decode b 3) cd33).trans (by decide +kernel)
theorem d33_5 : decode (vm_cd 33) 5 = .ok (.bipush 9, 2) := (congrArg (fun b => decode b 5) cd33).trans (by decide +kernel)
theorem d33_7 : decode (vm_cd 33) 7 = .ok (.if_icmp .ge 29, 3) := (congrArg (fun b => decode b 7) cd33).trans (by decide +kernel)
theorem d33_10 : decode (vm_cd 33) 10 = .ok (.aload_n 0, 1) := (congrArg (fun b => decode b 10) cd33).trans (by decide +kernel)
theorem d33_11 : decode (vm_cd 33) 11 = .ok (.iload_n 1, 1) := (congrArg (fun b => decode b 11) cd33).trans (by decide +kernel)
theorem d33_12 : decode (vm_cd 33) 12 = .ok (.iload 4, 2) := (congrArg (fun b => decode b 12) cd33).trans (by decide +kernel)
theorem d33_14 : decode (vm_cd 33) 14 = .ok (.iload_n 3, 1) := (congrArg (fun b => decode b 14) cd33).trans (by decide +kernel)
theorem d33_15 : decode (vm_cd 33) 15 = .ok (.invokevirtual 33, 3) := (congrArg (fun b => decode b 15) cd33).trans (by decide +kernel)
theorem d33_18 : decode (vm_cd 33) 18 = .ok (.aload_n 0, 1) := (congrArg (fun b => decode b 18) cd33).trans (by decide +kernel)
theorem d33_19 : decode (vm_cd 33) 19 = .ok (.iload_n 1, 1) := (congrArg (fun b => decode b 19) cd33).trans (by decide +kernel)
theorem d33_20 : decode (vm_cd 33) 20 = .ok (.iload_n 2, 1) := (congrArg (fun b => decode b 20) cd33).trans (by decide +kernel)
theorem d33_21 : decode (vm_cd 33) 21 = .ok (.iload_n 3, 1) := (congrArg (fun b => decode b 21) cd33).trans (by decide +kernel)
theorem d33_22 : decode (vm_cd 33) 22 = .ok (.invokevirtual 33, 3) := (congrArg (fun b => decode b 22) cd33).trans (by decide +kernel)
theorem d33_25 : decode (vm_cd 33) 25 = .ok (.if_icmp .le 5, 3) := (congrArg (fun b => decode b 25) cd33).trans (by decide +kernel)
theorem d33_28 : decode (vm_cd 33) 28 = .ok (.iconst 0, 1) := (congrArg (fun b => decode b 28) cd33).trans (by decide +kernel)
theorem d33_29 : decode (vm_cd 33) 29 = .ok (.ireturn, 1) := (congrArg (fun b => decode b 29) cd33).trans (by decide +kernel)
theorem d33_30 : decode (vm_cd 33) 30 = .ok (.iinc 4 1, 3) := (congrArg (fun b => decode b 30) cd33).trans (by decide +kernel)
theorem d33_33 : decode (vm_cd 33) 33 = .ok (.goto (-30), 3) := (congrArg (fun b => decode b 33) cd33).trans (by decide +kernel)
theorem d33_36 : decode (vm_cd 33) 36 = .ok (.iconst 1, 1) := (congrArg (fun b => decode b 36) cd33).trans (by decide +kernel)
theorem d33_37 : decode (vm_cd 33) 37 = .ok (.ireturn, 1) := (congrArg (fun b => decode b 37) cd33).trans (by decide +kernel)
theorem c33_33 : vm_ml.lookup (vm_own 33, 33) = some (0, 34, 3, 730, 732, 19, 8) := vm_lk (by decide +kernel)
theorem r33 : vm_rt 33 = (some .boolean) := by decide +kernel
theorem B_Ct_isContent_0 {X : vX} {d : Nat} {M : vM} {Q : Option vV → vM → Prop} {l1 l2 l3 : Int}  (k : vw X d 33 3 [vR 53, vI l1, vI l2, vI l3, vI 0] [] M Q) : vw X d 33 0 [vR 53, vI l1, vI l2, vI l3, vN] [] M Q := by
  refine w_ic (v := 0) d33_0 rfl ?_
  refine w_istoreE (ls' := [vR 53, vI l1, vI l2, vI l3, vI 0]) d33_1 (Nat.le_of_ble_eq_true rfl) rfl ?_
  exact k
theorem B_Ct_isContent_3 {X : vX} {d : Nat} {M : vM} {Q : Option vV → vM → Prop} {l1 l2 l3 l4 : Int}  (k1 : 9 ≤ l4 → vw X d 33 36 [vR 53, vI l1, vI l2, vI l3, vI l4] [] M Q) (k2 : l4 < 9 → vw X d 33 10 [vR 53, vI l1, vI l2, vI l3, vI l4] [] M Q) : vw X d 33 3 [vR 53, vI l1, vI l2, vI l3, vI l4] [] M Q := by
  refine w_iload d33_3 rfl ?_
  refine w_bi (v := 9) d33_5 rfl ?_
  exact w_icmp_ge d33_7 rfl (fun h => k1 h) (fun h => k2 h)
theorem B_Ct_isContent_10 {X : vX} {d : Nat} {M : vM} {Q : Option vV → vM → Prop} {l1 l2 l3 l4 : Int}  (k : cq X d 34 [vR 53, vI l1, vI l4, vI l3] M (fun r M1 => wp X d 33 18 [vR 53, vI l1, vI l2, vI l3, vI l4] (r.toList ++ []) (vS0, M1) (vP Q))) : vw X d 33 10 [vR 53, vI l1, vI l2, vI l3, vI l4] [] M Q := by
  refine w_aload_n d33_10 rfl ?_
  refine w_iload_n d33_11 rfl ?_
  refine w_iload d33_12 rfl ?_
  refine w_iload_n d33_14 rfl ?_
  exact w_inv0 (a := 53) (c := 1) d33_15 c33_33 rfl rfl rfl v34 (Nat.le_of_ble_eq_true rfl) (cq.cl (k))
theorem B_Ct_isContent_18 {X : vX} {d : Nat} {M : vM} {Q : Option vV → vM → Prop} {l1 l2 l3 l4 s0 : Int}  (k : cq X d 34 [vR 53, vI l1, vI l2, vI l3] M (fun r M1 => wp X d 33 25 [vR 53, vI l1, vI l2, vI l3, vI l4] (r.toList ++ [vI s0]) (vS0, M1) (vP Q))) : vw X d 33 18 [vR 53, vI l1, vI l2, vI l3, vI l4] [vI s0] M Q := by
  refine w_aload_n d33_18 rfl ?_
  refine w_iload_n d33_19 rfl ?_
  refine w_iload_n d33_20 rfl ?_
  refine w_iload_n d33_21 rfl ?_
  exact w_inv0 (a := 53) (c := 1) d33_22 c33_33 rfl rfl rfl v34 (Nat.le_of_ble_eq_true rfl) (cq.cl (k))
theorem B_Ct_isContent_25 {X : vX} {d : Nat} {M : vM} {Q : Option vV → vM → Prop} {l1 l2 l3 l4 s0 s1 : Int}  (k1 : s0 ≤ s1 → vw X d 33 30 [vR 53, vI l1, vI l2, vI l3, vI l4] [] M Q) (k2 : s1 < s0 → vw X d 33 28 [vR 53, vI l1, vI l2, vI l3, vI l4] [] M Q) : vw X d 33 25 [vR 53, vI l1, vI l2, vI l3, vI l4] [vI s1, vI s0] M Q := by
  exact w_icmp_le d33_25 rfl (fun h => k1 h) (fun h => k2 h)
theorem B_Ct_isContent_28 {X : vX} {d : Nat} {M : vM} {Q : Option vV → vM → Prop} {l1 l2 l3 l4 : Int}  (k : Q (some (vI 0)) M) : vw X d 33 28 [vR 53, vI l1, vI l2, vI l3, vI l4] [] M Q := by
  refine w_ic (v := 0) d33_28 rfl ?_
  exact w_zret d33_29 r33 (by decide) ⟨_, rfl, k⟩
theorem B_Ct_isContent_30 {X : vX} {d : Nat} {M : vM} {Q : Option vV → vM → Prop} {l1 l2 l3 l4 : Int}  (k : vw X d 33 3 [vR 53, vI l1, vI l2, vI l3, vI (w32 (l4 + 1))] [] M Q) : vw X d 33 30 [vR 53, vI l1, vI l2, vI l3, vI l4] [] M Q := by
  refine w_iincE (ls' := [vR 53, vI l1, vI l2, vI l3, vI (w32 (l4 + 1))]) d33_30 rfl rfl ?_
  refine w_goto (tgt := 3) d33_33 rfl ?_
  exact k
theorem B_Ct_isContent_36 {X : vX} {d : Nat} {M : vM} {Q : Option vV → vM → Prop} {l1 l2 l3 l4 : Int}  (k : Q (some (vI 1)) M) : vw X d 33 36 [vR 53, vI l1, vI l2, vI l3, vI l4] [] M Q := by
  refine w_ic (v := 1) d33_36 rfl ?_
  exact w_zret d33_37 r33 (by decide) ⟨_, rfl, k⟩
theorem E_Ct_isContent {X : vX} {d : Nat} {M : vM} {Q : Option vV → vM → Prop} {l1 l2 l3 : Int} (k : vw X d 33 0 [vR 53, vI l1, vI l2, vI l3, vN] [] M Q) : cq X (d + 1) 33 [vR 53, vI l1, vI l2, vI l3] M Q := wc_in (Nat.le_of_ble_eq_true rfl) (Nat.le_of_ble_eq_true rfl) k
theorem cd34 : vm_cd 34 = cX1_left := rfl
theorem d34_0 : decode (vm_cd 34) 0 = .ok (.iload_n 2, 1) := (congrArg (fun b => decode b 0) cd34).trans (by decide +kernel)
theorem d34_1 : decode (vm_cd 34) 1 = .ok (.aload_n 0, 1) := (congrArg (fun b => decode b 1) cd34).trans (by decide +kernel)
theorem d34_2 : decode (vm_cd 34) 2 = .ok (.getfield 15, 3) := (congrArg (fun b => decode b 2) cd34).trans (by decide +kernel)
theorem d34_5 : decode (vm_cd 34) 5 = .ok (.iload_n 1, 1) := (congrArg (fun b => decode b 5) cd34).trans (by decide +kernel)
theorem d34_6 : decode (vm_cd 34) 6 = .ok (.iaload, 1) := (congrArg (fun b => decode b 6) cd34).trans (by decide +kernel)
theorem d34_7 : decode (vm_cd 34) 7 = .ok (.iadd, 1) := (congrArg (fun b => decode b 7) cd34).trans (by decide +kernel)
theorem d34_8 : decode (vm_cd 34) 8 = .ok (.iload_n 3, 1) := (congrArg (fun b => decode b 8) cd34).trans (by decide +kernel)
theorem d34_9 : decode (vm_cd 34) 9 = .ok (.aload_n 0, 1) := (congrArg (fun b => decode b 9) cd34).trans (by decide +kernel)
theorem d34_10 : decode (vm_cd 34) 10 = .ok (.getfield 15, 3) := (congrArg (fun b => decode b 10) cd34).trans (by decide +kernel)
theorem d34_13 : decode (vm_cd 34) 13 = .ok (.iconst 1, 1) := (congrArg (fun b => decode b 13) cd34).trans (by decide +kernel)
theorem d34_14 : decode (vm_cd 34) 14 = .ok (.iload_n 1, 1) := (congrArg (fun b => decode b 14) cd34).trans (by decide +kernel)
theorem d34_15 : decode (vm_cd 34) 15 = .ok (.isub, 1) := (congrArg (fun b => decode b 15) cd34).trans (by decide +kernel)
theorem d34_16 : decode (vm_cd 34) 16 = .ok (.iaload, 1) := (congrArg (fun b => decode b 16) cd34).trans (by decide +kernel)
theorem d34_17 : decode (vm_cd 34) 17 = .ok (.iadd, 1) := (congrArg (fun b => decode b 17) cd34).trans (by decide +kernel)
theorem d34_18 : decode (vm_cd 34) 18 = .ok (.invokestatic 37, 3) := (congrArg (fun b => decode b 18) cd34).trans (by decide +kernel)
theorem d34_21 : decode (vm_cd 34) 21 = .ok (.istore 4, 2) := (congrArg (fun b => decode b 21) cd34).trans (by decide +kernel)
theorem d34_23 : decode (vm_cd 34) 23 = .ok (.aload_n 0, 1) := (congrArg (fun b => decode b 23) cd34).trans (by decide +kernel)
theorem d34_24 : decode (vm_cd 34) 24 = .ok (.getfield 22, 3) := (congrArg (fun b => decode b 24) cd34).trans (by decide +kernel)
theorem d34_27 : decode (vm_cd 34) 27 = .ok (.iconst 1, 1) := (congrArg (fun b => decode b 27) cd34).trans (by decide +kernel)
theorem d34_28 : decode (vm_cd 34) 28 = .ok (.iload 4, 2) := (congrArg (fun b => decode b 28) cd34).trans (by decide +kernel)
theorem d34_30 : decode (vm_cd 34) 30 = .ok (.iadd, 1) := (congrArg (fun b => decode b 30) cd34).trans (by decide +kernel)
theorem d34_31 : decode (vm_cd 34) 31 = .ok (.imul, 1) := (congrArg (fun b => decode b 31) cd34).trans (by decide +kernel)
theorem d34_32 : decode (vm_cd 34) 32 = .ok (.iconst 2, 1) := (congrArg (fun b => decode b 32) cd34).trans (by decide +kernel)
theorem d34_33 : decode (vm_cd 34) 33 = .ok (.iload_n 2, 1) := (congrArg (fun b => decode b 33) cd34).trans (by decide +kernel)
theorem d34_34 : decode (vm_cd 34) 34 = .ok (.imul, 1) := (congrArg (fun b => decode b 34) cd34).trans (by decide +kernel)
theorem d34_35 : decode (vm_cd 34) 35 = .ok (.iload_n 2, 1) := (congrArg (fun b => decode b 35) cd34).trans (by decide +kernel)
theorem d34_36 : decode (vm_cd 34) 36 = .ok (.imul, 1) := (congrArg (fun b => decode b 36) cd34).trans (by decide +kernel)
theorem d34_37 : decode (vm_cd 34) 37 = .ok (.aload_n 0, 1) := (congrArg (fun b => decode b 37) cd34).trans (by decide +kernel)
theorem d34_38 : decode (vm_cd 34) 38 = .ok (.getfield 9, 3) := (congrArg (fun b => decode b 38) cd34).trans (by decide +kernel)
theorem d34_41 : decode (vm_cd 34) 41 = .ok (.iload_n 1, 1) := (congrArg (fun b => decode b 41) cd34).trans (by decide +kernel)
theorem d34_42 : decode (vm_cd 34) 42 = .ok (.iaload, 1) := (congrArg (fun b => decode b 42) cd34).trans (by decide +kernel)
theorem d34_43 : decode (vm_cd 34) 43 = .ok (.imul, 1) := (congrArg (fun b => decode b 43) cd34).trans (by decide +kernel)
theorem d34_44 : decode (vm_cd 34) 44 = .ok (.isub, 1) := (congrArg (fun b => decode b 44) cd34).trans (by decide +kernel)
theorem d34_45 : decode (vm_cd 34) 45 = .ok (.ireturn, 1) := (congrArg (fun b => decode b 45) cd34).trans (by decide +kernel)
theorem f34_9 : vm_fl.lookup (vm_own 34, 9) = some (1, 0, 140) := by decide +kernel
theorem f34_15 : vm_fl.lookup (vm_own 34, 15) = some (1, 1, 141) := by decide +kernel
theorem f34_22 : vm_fl.lookup (vm_own 34, 22) = some (1, 2, 142) := by decide +kernel
theorem c34_37 : vm_ml.lookup (vm_own 34, 37) = some (1, 280, 2, 734, 735, 0, 14) := vm_lk (by decide +kernel)
theorem r34 : vm_rt 34 = (some .int) := by decide +kernel
theorem B_Ct_left_0 {X : vX} {d : Nat} {M : vM} {Q : Option vV → vM → Prop} {l1 l2 l3 : Int} (hR : vRefs M) (h1 : 0 ≤ l1 ∧ l1 < (2 : Nat)) (h2 : 0 ≤ (w32 (1 - l1)) ∧ (w32 (1 - l1)) < (2 : Nat)) (k : cq X d 280 [vI (w32 (l2 + (M 55 l1.toNat))), vI (w32 (l3 + (M 55 (w32 (1 - l1)).toNat)))] M (fun r M1 => wp X d 34 21 [vR 53, vI l1, vI l2, vI l3, vN] (r.toList ++ []) (vS0, M1) (vP Q))) : vw X d 34 0 [vR 53, vI l1, vI l2, vI l3, vN] [] M Q := by
  refine w_iload_n d34_0 rfl ?_
  refine w_aload_n d34_1 rfl ?_
  refine w_getf (a := 53) (v := vR 55) d34_2 f34_15 rfl rfl (congrArg vR (rf_53_1 hR)) ?_
  refine w_iload_n d34_5 rfl ?_
  refine w_iaload (a := 55) d34_6 rfl rfl h1 ?_
  refine w_iadd d34_7 ?_
  refine w_iload_n d34_8 rfl ?_
  refine w_aload_n d34_9 rfl ?_
  refine w_getf (a := 53) (v := vR 55) d34_10 f34_15 rfl rfl (congrArg vR (rf_53_1 hR)) ?_
  refine w_ic (v := 1) d34_13 rfl ?_
  refine w_iload_n d34_14 rfl ?_
  refine w_isub d34_15 ?_
  refine w_iaload (a := 55) d34_16 rfl rfl h2 ?_
  refine w_iadd d34_17 ?_
  exact w_inv1 d34_18 c34_37 (by decide) rfl (Nat.le_of_ble_eq_true rfl) (cq.cl (k))
theorem B_Ct_left_21 {X : vX} {d : Nat} {M : vM} {Q : Option vV → vM → Prop} {l1 l2 l3 s0 : Int} (hR : vRefs M) (h1 : 0 ≤ l1 ∧ l1 < (2 : Nat)) (k : Q (some (vI (w32 ((w32 ((M 53 2) * (w32 (1 + s0)))) - (w32 ((w32 ((w32 (2 * l2)) * l2)) * (M 54 l1.toNat))))))) M) : vw X d 34 21 [vR 53, vI l1, vI l2, vI l3, vN] [vI s0] M Q := by
  refine w_istoreE (ls' := [vR 53, vI l1, vI l2, vI l3, vI s0]) d34_21 (Nat.le_of_ble_eq_true rfl) rfl ?_
  refine w_aload_n d34_23 rfl ?_
  refine w_getf (a := 53) (v := vI (M 53 2)) d34_24 f34_22 rfl rfl rfl ?_
  refine w_ic (v := 1) d34_27 rfl ?_
  refine w_iload d34_28 rfl ?_
  refine w_iadd d34_30 ?_
  refine w_imul d34_31 ?_
  refine w_ic (v := 2) d34_32 rfl ?_
  refine w_iload_n d34_33 rfl ?_
  refine w_imul d34_34 ?_
  refine w_iload_n d34_35 rfl ?_
  refine w_imul d34_36 ?_
  refine w_aload_n d34_37 rfl ?_
  refine w_getf (a := 53) (v := vR 54) d34_38 f34_9 rfl rfl (congrArg vR (rf_53_0 hR)) ?_
  refine w_iload_n d34_41 rfl ?_
  refine w_iaload (a := 54) d34_42 rfl rfl h1 ?_
  refine w_imul d34_43 ?_
  refine w_isub d34_44 ?_
  exact w_iret d34_45 r34 ⟨_, rfl, k⟩
theorem E_Ct_left {X : vX} {d : Nat} {M : vM} {Q : Option vV → vM → Prop} {l1 l2 l3 : Int} (k : vw X d 34 0 [vR 53, vI l1, vI l2, vI l3, vN] [] M Q) : cq X (d + 1) 34 [vR 53, vI l1, vI l2, vI l3] M Q := wc_in (Nat.le_of_ble_eq_true rfl) (Nat.le_of_ble_eq_true rfl) k
theorem cd45 : vm_cd 45 = cX3_areRates := rfl
theorem d45_0 : decode (vm_cd 45) 0 = .ok (.iload_n 0, 1) := (congrArg (fun b => decode b 0) cd45).trans (by decide +kernel)
theorem d45_1 : decode (vm_cd 45) 1 = .ok (.iconst 1, 1) := (congrArg (fun b => decode b 1) cd45).trans (by decide +kernel)
theorem d45_2 : decode (vm_cd 45) 2 = .ok (.if_icmp .lt 18, 3) := (congrArg (fun b => decode b 2) cd45).trans (by decide +kernel)
theorem d45_5 : decode (vm_cd 45) 5 = .ok (.iload_n 0, 1) := (congrArg (fun b => decode b 5) cd45).trans (by decide +kernel)
theorem d45_6 : decode (vm_cd 45) 6 = .ok (.iload_n 1, 1) := (congrArg (fun b => decode b 6) cd45).trans (by decide +kernel)
theorem d45_7 : decode (vm_cd 45) 7 = .ok (.if_icmp .ge 13, 3) := (congrArg (fun b => decode b 7) cd45).trans (by decide +kernel)
theorem d45_10 : decode (vm_cd 45) 10 = .ok (.iload_n 1, 1) := (congrArg (fun b => decode b 10) cd45).trans (by decide +kernel)
theorem d45_11 : decode (vm_cd 45) 11 = .ok (.bipush 20, 2) := (congrArg (fun b => decode b 11) cd45).trans (by decide +kernel)
theorem d45_13 : decode (vm_cd 45) 13 = .ok (.if_icmp .gt 7, 3) := (congrArg (fun b => decode b 13) cd45).trans (by decide +kernel)
theorem d45_16 : decode (vm_cd 45) 16 = .ok (.iconst 1, 1) := (congrArg (fun b => decode b 16) cd45).trans (by decide +kernel)
theorem d45_17 : decode (vm_cd 45) 17 = .ok (.goto 4, 3) := (congrArg (fun b => decode b 17) cd45).trans (by decide +kernel)
theorem d45_20 : decode (vm_cd 45) 20 = .ok (.iconst 0, 1) := (congrArg (fun b => decode b 20) cd45).trans (by decide +kernel)
theorem d45_21 : decode (vm_cd 45) 21 = .ok (.ireturn, 1) := (congrArg (fun b => decode b 21) cd45).trans (by decide +kernel)
theorem r45 : vm_rt 45 = (some .boolean) := by decide +kernel
theorem B_Me_areRates_0 {X : vX} {d : Nat} {M : vM} {Q : Option vV → vM → Prop} {l0 l1 : Int}  (k1 : l0 < 1 → vw X d 45 20 [vI l0, vI l1] [] M Q) (k2 : 1 ≤ l0 → vw X d 45 5 [vI l0, vI l1] [] M Q) : vw X d 45 0 [vI l0, vI l1] [] M Q := by
  refine w_iload_n d45_0 rfl ?_
  refine w_ic (v := 1) d45_1 rfl ?_
  exact w_icmp_lt d45_2 rfl (fun h => k1 h) (fun h => k2 h)
theorem B_Me_areRates_5 {X : vX} {d : Nat} {M : vM} {Q : Option vV → vM → Prop} {l0 l1 : Int}  (k1 : l1 ≤ l0 → vw X d 45 20 [vI l0, vI l1] [] M Q) (k2 : l0 < l1 → vw X d 45 10 [vI l0, vI l1] [] M Q) : vw X d 45 5 [vI l0, vI l1] [] M Q := by
  refine w_iload_n d45_5 rfl ?_
  refine w_iload_n d45_6 rfl ?_
  exact w_icmp_ge d45_7 rfl (fun h => k1 h) (fun h => k2 h)
theorem B_Me_areRates_10 {X : vX} {d : Nat} {M : vM} {Q : Option vV → vM → Prop} {l0 l1 : Int}  (k1 : 20 < l1 → vw X d 45 20 [vI l0, vI l1] [] M Q) (k2 : l1 ≤ 20 → vw X d 45 16 [vI l0, vI l1] [] M Q) : vw X d 45 10 [vI l0, vI l1] [] M Q := by
  refine w_iload_n d45_10 rfl ?_
  refine w_bi (v := 20) d45_11 rfl ?_
  exact w_icmp_gt d45_13 rfl (fun h => k1 h) (fun h => k2 h)
theorem B_Me_areRates_16 {X : vX} {d : Nat} {M : vM} {Q : Option vV → vM → Prop} {l0 l1 : Int}  (k : Q (some (vI 1)) M) : vw X d 45 16 [vI l0, vI l1] [] M Q := by
  refine w_ic (v := 1) d45_16 rfl ?_
  refine w_goto (tgt := 21) d45_17 rfl ?_
  exact w_zret d45_21 r45 (by decide) ⟨_, rfl, k⟩
theorem B_Me_areRates_20 {X : vX} {d : Nat} {M : vM} {Q : Option vV → vM → Prop} {l0 l1 : Int}  (k : Q (some (vI 0)) M) : vw X d 45 20 [vI l0, vI l1] [] M Q := by
  refine w_ic (v := 0) d45_20 rfl ?_
  exact w_zret d45_21 r45 (by decide) ⟨_, rfl, k⟩
theorem E_Me_areRates {X : vX} {d : Nat} {M : vM} {Q : Option vV → vM → Prop} {l0 l1 : Int} (k : vw X d 45 0 [vI l0, vI l1] [] M Q) : cq X (d + 1) 45 [vI l0, vI l1] M Q := wc_in (Nat.le_of_ble_eq_true rfl) (Nat.le_of_ble_eq_true rfl) k
theorem cd46 : vm_cd 46 = cX3_areHeads := rfl
theorem d46_0 : decode (vm_cd 46) 0 = .ok (.iload_n 0, 1) := (congrArg (fun b => decode b 0) cd46).trans (by decide +kernel)
theorem d46_1 : decode (vm_cd 46) 1 = .ok (.ifCond .le 18, 3) := (congrArg (fun b => decode b 1) cd46).trans (by decide +kernel)
theorem d46_4 : decode (vm_cd 46) 4 = .ok (.iload_n 0, 1) := (congrArg (fun b => decode b 4) cd46).trans (by decide +kernel)
theorem d46_5 : decode (vm_cd 46) 5 = .ok (.iload_n 1, 1) := (congrArg (fun b => decode b 5) cd46).trans (by decide +kernel)
theorem d46_6 : decode (vm_cd 46) 6 = .ok (.if_icmp .ge 13, 3) := (congrArg (fun b => decode b 6) cd46).trans (by decide +kernel)
theorem d46_9 : decode (vm_cd 46) 9 = .ok (.iload_n 1, 1) := (congrArg (fun b => decode b 9) cd46).trans (by decide +kernel)
theorem d46_10 : decode (vm_cd 46) 10 = .ok (.bipush 20, 2) := (congrArg (fun b => decode b 10) cd46).trans (by decide +kernel)
theorem d46_12 : decode (vm_cd 46) 12 = .ok (.if_icmp .gt 7, 3) := (congrArg (fun b => decode b 12) cd46).trans (by decide +kernel)
theorem d46_15 : decode (vm_cd 46) 15 = .ok (.iconst 1, 1) := (congrArg (fun b => decode b 15) cd46).trans (by decide +kernel)
theorem d46_16 : decode (vm_cd 46) 16 = .ok (.goto 4, 3) := (congrArg (fun b => decode b 16) cd46).trans (by decide +kernel)
theorem d46_19 : decode (vm_cd 46) 19 = .ok (.iconst 0, 1) := (congrArg (fun b => decode b 19) cd46).trans (by decide +kernel)
theorem d46_20 : decode (vm_cd 46) 20 = .ok (.ireturn, 1) := (congrArg (fun b => decode b 20) cd46).trans (by decide +kernel)
theorem r46 : vm_rt 46 = (some .boolean) := by decide +kernel
theorem B_Me_areHeads_0 {X : vX} {d : Nat} {M : vM} {Q : Option vV → vM → Prop} {l0 l1 : Int}  (k1 : l0 ≤ 0 → vw X d 46 19 [vI l0, vI l1] [] M Q) (k2 : 0 < l0 → vw X d 46 4 [vI l0, vI l1] [] M Q) : vw X d 46 0 [vI l0, vI l1] [] M Q := by
  refine w_iload_n d46_0 rfl ?_
  exact w_if_le d46_1 rfl (fun h => k1 h) (fun h => k2 h)
theorem B_Me_areHeads_4 {X : vX} {d : Nat} {M : vM} {Q : Option vV → vM → Prop} {l0 l1 : Int}  (k1 : l1 ≤ l0 → vw X d 46 19 [vI l0, vI l1] [] M Q) (k2 : l0 < l1 → vw X d 46 9 [vI l0, vI l1] [] M Q) : vw X d 46 4 [vI l0, vI l1] [] M Q := by
  refine w_iload_n d46_4 rfl ?_
  refine w_iload_n d46_5 rfl ?_
  exact w_icmp_ge d46_6 rfl (fun h => k1 h) (fun h => k2 h)
theorem B_Me_areHeads_9 {X : vX} {d : Nat} {M : vM} {Q : Option vV → vM → Prop} {l0 l1 : Int}  (k1 : 20 < l1 → vw X d 46 19 [vI l0, vI l1] [] M Q) (k2 : l1 ≤ 20 → vw X d 46 15 [vI l0, vI l1] [] M Q) : vw X d 46 9 [vI l0, vI l1] [] M Q := by
  refine w_iload_n d46_9 rfl ?_
  refine w_bi (v := 20) d46_10 rfl ?_
  exact w_icmp_gt d46_12 rfl (fun h => k1 h) (fun h => k2 h)
theorem B_Me_areHeads_15 {X : vX} {d : Nat} {M : vM} {Q : Option vV → vM → Prop} {l0 l1 : Int}  (k : Q (some (vI 1)) M) : vw X d 46 15 [vI l0, vI l1] [] M Q := by
  refine w_ic (v := 1) d46_15 rfl ?_
  refine w_goto (tgt := 20) d46_16 rfl ?_
  exact w_zret d46_20 r46 (by decide) ⟨_, rfl, k⟩
theorem B_Me_areHeads_19 {X : vX} {d : Nat} {M : vM} {Q : Option vV → vM → Prop} {l0 l1 : Int}  (k : Q (some (vI 0)) M) : vw X d 46 19 [vI l0, vI l1] [] M Q := by
  refine w_ic (v := 0) d46_19 rfl ?_
  exact w_zret d46_20 r46 (by decide) ⟨_, rfl, k⟩
theorem E_Me_areHeads {X : vX} {d : Nat} {M : vM} {Q : Option vV → vM → Prop} {l0 l1 : Int} (k : vw X d 46 0 [vI l0, vI l1] [] M Q) : cq X (d + 1) 46 [vI l0, vI l1] M Q := wc_in (Nat.le_of_ble_eq_true rfl) (Nat.le_of_ble_eq_true rfl) k
theorem cd47 : vm_cd 47 = cX3_isOffer := rfl
theorem d47_0 : decode (vm_cd 47) 0 = .ok (.iload_n 0, 1) := (congrArg (fun b => decode b 0) cd47).trans (by decide +kernel)
theorem d47_1 : decode (vm_cd 47) 1 = .ok (.iconst 0, 1) := (congrArg (fun b => decode b 1) cd47).trans (by decide +kernel)
theorem d47_2 : decode (vm_cd 47) 2 = .ok (.bipush 9, 2) := (congrArg (fun b => decode b 2) cd47).trans (by decide +kernel)
theorem d47_4 : decode (vm_cd 47) 4 = .ok (.invokestatic 13, 3) := (congrArg (fun b => decode b 4) cd47).trans (by decide +kernel)
theorem d47_7 : decode (vm_cd 47) 7 = .ok (.ifCond .eq 18, 3) := (congrArg (fun b => decode b 7) cd47).trans (by decide +kernel)
theorem d47_10 : decode (vm_cd 47) 10 = .ok (.iload_n 1, 1) := (congrArg (fun b => decode b 10) cd47).trans (by decide +kernel)
theorem d47_11 : decode (vm_cd 47) 11 = .ok (.iconst 0, 1) := (congrArg (fun b => decode b 11) cd47).trans (by decide +kernel)
theorem d47_12 : decode (vm_cd 47) 12 = .ok (.sipush 9999, 3) := (congrArg (fun b => decode b 12) cd47).trans (by decide +kernel)
theorem d47_15 : decode (vm_cd 47) 15 = .ok (.invokestatic 13, 3) := (congrArg (fun b => decode b 15) cd47).trans (by decide +kernel)
theorem d47_18 : decode (vm_cd 47) 18 = .ok (.ifCond .eq 7, 3) := (congrArg (fun b => decode b 18) cd47).trans (by decide +kernel)
theorem d47_21 : decode (vm_cd 47) 21 = .ok (.iconst 1, 1) := (congrArg (fun b => decode b 21) cd47).trans (by decide +kernel)
theorem d47_22 : decode (vm_cd 47) 22 = .ok (.goto 4, 3) := (congrArg (fun b => decode b 22) cd47).trans (by decide +kernel)
theorem d47_25 : decode (vm_cd 47) 25 = .ok (.iconst 0, 1) := (congrArg (fun b => decode b 25) cd47).trans (by decide +kernel)
theorem d47_26 : decode (vm_cd 47) 26 = .ok (.ireturn, 1) := (congrArg (fun b => decode b 26) cd47).trans (by decide +kernel)
theorem c47_13 : vm_ml.lookup (vm_own 47, 13) = some (3, 179, 3, 561, 292, 0, 1) := vm_lk (by decide +kernel)
theorem r47 : vm_rt 47 = (some .boolean) := by decide +kernel
theorem B_Me_isOffer_0 {X : vX} {d : Nat} {M : vM} {Q : Option vV → vM → Prop} {l0 l1 : Int}  (k : cq X d 179 [vI l0, vI 0, vI 9] M (fun r M1 => wp X d 47 7 [vI l0, vI l1] (r.toList ++ []) (vS0, M1) (vP Q))) : vw X d 47 0 [vI l0, vI l1] [] M Q := by
  refine w_iload_n d47_0 rfl ?_
  refine w_ic (v := 0) d47_1 rfl ?_
  refine w_bi (v := 9) d47_2 rfl ?_
  exact w_inv1 d47_4 c47_13 (by decide) rfl (Nat.le_of_ble_eq_true rfl) (cq.cl (k))
theorem B_Me_isOffer_7 {X : vX} {d : Nat} {M : vM} {Q : Option vV → vM → Prop} {l0 l1 s0 : Int}  (k1 : s0 = 0 → vw X d 47 25 [vI l0, vI l1] [] M Q) (k2 : ¬ s0 = 0 → vw X d 47 10 [vI l0, vI l1] [] M Q) : vw X d 47 7 [vI l0, vI l1] [vI s0] M Q := by
  exact w_if_eq d47_7 rfl (fun h => k1 h) (fun h => k2 h)
theorem B_Me_isOffer_10 {X : vX} {d : Nat} {M : vM} {Q : Option vV → vM → Prop} {l0 l1 : Int}  (k : cq X d 179 [vI l1, vI 0, vI 9999] M (fun r M1 => wp X d 47 18 [vI l0, vI l1] (r.toList ++ []) (vS0, M1) (vP Q))) : vw X d 47 10 [vI l0, vI l1] [] M Q := by
  refine w_iload_n d47_10 rfl ?_
  refine w_ic (v := 0) d47_11 rfl ?_
  refine w_si (v := 9999) d47_12 rfl ?_
  exact w_inv1 d47_15 c47_13 (by decide) rfl (Nat.le_of_ble_eq_true rfl) (cq.cl (k))
theorem B_Me_isOffer_18 {X : vX} {d : Nat} {M : vM} {Q : Option vV → vM → Prop} {l0 l1 s0 : Int}  (k1 : s0 = 0 → vw X d 47 25 [vI l0, vI l1] [] M Q) (k2 : ¬ s0 = 0 → vw X d 47 21 [vI l0, vI l1] [] M Q) : vw X d 47 18 [vI l0, vI l1] [vI s0] M Q := by
  exact w_if_eq d47_18 rfl (fun h => k1 h) (fun h => k2 h)
theorem B_Me_isOffer_21 {X : vX} {d : Nat} {M : vM} {Q : Option vV → vM → Prop} {l0 l1 : Int}  (k : Q (some (vI 1)) M) : vw X d 47 21 [vI l0, vI l1] [] M Q := by
  refine w_ic (v := 1) d47_21 rfl ?_
  refine w_goto (tgt := 26) d47_22 rfl ?_
  exact w_zret d47_26 r47 (by decide) ⟨_, rfl, k⟩
theorem B_Me_isOffer_25 {X : vX} {d : Nat} {M : vM} {Q : Option vV → vM → Prop} {l0 l1 : Int}  (k : Q (some (vI 0)) M) : vw X d 47 25 [vI l0, vI l1] [] M Q := by
  refine w_ic (v := 0) d47_25 rfl ?_
  exact w_zret d47_26 r47 (by decide) ⟨_, rfl, k⟩
theorem E_Me_isOffer {X : vX} {d : Nat} {M : vM} {Q : Option vV → vM → Prop} {l0 l1 : Int} (k : vw X d 47 0 [vI l0, vI l1] [] M Q) : cq X (d + 1) 47 [vI l0, vI l1] M Q := wc_in (Nat.le_of_ble_eq_true rfl) (Nat.le_of_ble_eq_true rfl) k
theorem cd48 : vm_cd 48 = cX3_keeps := rfl
theorem d48_0 : decode (vm_cd 48) 0 = .ok (.iload_n 2, 1) := (congrArg (fun b => decode b 0) cd48).trans (by decide +kernel)
theorem d48_1 : decode (vm_cd 48) 1 = .ok (.iload_n 0, 1) := (congrArg (fun b => decode b 1) cd48).trans (by decide +kernel)
theorem d48_2 : decode (vm_cd 48) 2 = .ok (.iload_n 1, 1) := (congrArg (fun b => decode b 2) cd48).trans (by decide +kernel)
theorem d48_3 : decode (vm_cd 48) 3 = .ok (.imul, 1) := (congrArg (fun b => decode b 3) cd48).trans (by decide +kernel)
theorem d48_4 : decode (vm_cd 48) 4 = .ok (.iload_n 1, 1) := (congrArg (fun b => decode b 4) cd48).trans (by decide +kernel)
theorem d48_5 : decode (vm_cd 48) 5 = .ok (.imul, 1) := (congrArg (fun b => decode b 5) cd48).trans (by decide +kernel)
theorem d48_6 : decode (vm_cd 48) 6 = .ok (.isub, 1) := (congrArg (fun b => decode b 6) cd48).trans (by decide +kernel)
theorem d48_7 : decode (vm_cd 48) 7 = .ok (.istore 5, 2) := (congrArg (fun b => decode b 7) cd48).trans (by decide +kernel)
theorem d48_9 : decode (vm_cd 48) 9 = .ok (.iload 5, 2) := (congrArg (fun b => decode b 9) cd48).trans (by decide +kernel)
theorem d48_11 : decode (vm_cd 48) 11 = .ok (.ifCond .lt 20, 3) := (congrArg (fun b => decode b 11) cd48).trans (by decide +kernel)
theorem d48_14 : decode (vm_cd 48) 14 = .ok (.iload 5, 2) := (congrArg (fun b => decode b 14) cd48).trans (by decide +kernel)
theorem d48_16 : decode (vm_cd 48) 16 = .ok (.iload 4, 2) := (congrArg (fun b => decode b 16) cd48).trans (by decide +kernel)
theorem d48_18 : decode (vm_cd 48) 18 = .ok (.iload_n 0, 1) := (congrArg (fun b => decode b 18) cd48).trans (by decide +kernel)
theorem d48_19 : decode (vm_cd 48) 19 = .ok (.iload_n 3, 1) := (congrArg (fun b => decode b 19) cd48).trans (by decide +kernel)
theorem d48_20 : decode (vm_cd 48) 20 = .ok (.imul, 1) := (congrArg (fun b => decode b 20) cd48).trans (by decide +kernel)
theorem d48_21 : decode (vm_cd 48) 21 = .ok (.iload_n 3, 1) := (congrArg (fun b => decode b 21) cd48).trans (by decide +kernel)
theorem d48_22 : decode (vm_cd 48) 22 = .ok (.imul, 1) := (congrArg (fun b => decode b 22) cd48).trans (by decide +kernel)
theorem d48_23 : decode (vm_cd 48) 23 = .ok (.isub, 1) := (congrArg (fun b => decode b 23) cd48).trans (by decide +kernel)
theorem d48_24 : decode (vm_cd 48) 24 = .ok (.if_icmp .lt 7, 3) := (congrArg (fun b => decode b 24) cd48).trans (by decide +kernel)
theorem d48_27 : decode (vm_cd 48) 27 = .ok (.iconst 1, 1) := (congrArg (fun b => decode b 27) cd48).trans (by decide +kernel)
theorem d48_28 : decode (vm_cd 48) 28 = .ok (.goto 4, 3) := (congrArg (fun b => decode b 28) cd48).trans (by decide +kernel)
theorem d48_31 : decode (vm_cd 48) 31 = .ok (.iconst 0, 1) := (congrArg (fun b => decode b 31) cd48).trans (by decide +kernel)
theorem d48_32 : decode (vm_cd 48) 32 = .ok (.ireturn, 1) := (congrArg (fun b => decode b 32) cd48).trans (by decide +kernel)
theorem r48 : vm_rt 48 = (some .boolean) := by decide +kernel
theorem B_Me_keeps_0 {X : vX} {d : Nat} {M : vM} {Q : Option vV → vM → Prop} {l0 l1 l2 l3 l4 : Int}  (k1 : (w32 (l2 - (w32 ((w32 (l0 * l1)) * l1)))) < 0 → vw X d 48 31 [vI l0, vI l1, vI l2, vI l3, vI l4, vI (w32 (l2 - (w32 ((w32 (l0 * l1)) * l1))))] [] M Q) (k2 : 0 ≤ (w32 (l2 - (w32 ((w32 (l0 * l1)) * l1)))) → vw X d 48 14 [vI l0, vI l1, vI l2, vI l3, vI l4, vI (w32 (l2 - (w32 ((w32 (l0 * l1)) * l1))))] [] M Q) : vw X d 48 0 [vI l0, vI l1, vI l2, vI l3, vI l4, vN] [] M Q := by
  refine w_iload_n d48_0 rfl ?_
  refine w_iload_n d48_1 rfl ?_
  refine w_iload_n d48_2 rfl ?_
  refine w_imul d48_3 ?_
  refine w_iload_n d48_4 rfl ?_
  refine w_imul d48_5 ?_
  refine w_isub d48_6 ?_
  refine w_istoreE (ls' := [vI l0, vI l1, vI l2, vI l3, vI l4, vI (w32 (l2 - (w32 ((w32 (l0 * l1)) * l1))))]) d48_7 (Nat.le_of_ble_eq_true rfl) rfl ?_
  refine w_iload d48_9 rfl ?_
  exact w_if_lt d48_11 rfl (fun h => k1 h) (fun h => k2 h)
theorem B_Me_keeps_14 {X : vX} {d : Nat} {M : vM} {Q : Option vV → vM → Prop} {l0 l1 l2 l3 l4 l5 : Int}  (k1 : l5 < (w32 (l4 - (w32 ((w32 (l0 * l3)) * l3)))) → vw X d 48 31 [vI l0, vI l1, vI l2, vI l3, vI l4, vI l5] [] M Q) (k2 : (w32 (l4 - (w32 ((w32 (l0 * l3)) * l3)))) ≤ l5 → vw X d 48 27 [vI l0, vI l1, vI l2, vI l3, vI l4, vI l5] [] M Q) : vw X d 48 14 [vI l0, vI l1, vI l2, vI l3, vI l4, vI l5] [] M Q := by
  refine w_iload d48_14 rfl ?_
  refine w_iload d48_16 rfl ?_
  refine w_iload_n d48_18 rfl ?_
  refine w_iload_n d48_19 rfl ?_
  refine w_imul d48_20 ?_
  refine w_iload_n d48_21 rfl ?_
  refine w_imul d48_22 ?_
  refine w_isub d48_23 ?_
  exact w_icmp_lt d48_24 rfl (fun h => k1 h) (fun h => k2 h)
theorem B_Me_keeps_27 {X : vX} {d : Nat} {M : vM} {Q : Option vV → vM → Prop} {l0 l1 l2 l3 l4 l5 : Int}  (k : Q (some (vI 1)) M) : vw X d 48 27 [vI l0, vI l1, vI l2, vI l3, vI l4, vI l5] [] M Q := by
  refine w_ic (v := 1) d48_27 rfl ?_
  refine w_goto (tgt := 32) d48_28 rfl ?_
  exact w_zret d48_32 r48 (by decide) ⟨_, rfl, k⟩
theorem B_Me_keeps_31 {X : vX} {d : Nat} {M : vM} {Q : Option vV → vM → Prop} {l0 l1 l2 l3 l4 l5 : Int}  (k : Q (some (vI 0)) M) : vw X d 48 31 [vI l0, vI l1, vI l2, vI l3, vI l4, vI l5] [] M Q := by
  refine w_ic (v := 0) d48_31 rfl ?_
  exact w_zret d48_32 r48 (by decide) ⟨_, rfl, k⟩
theorem E_Me_keeps {X : vX} {d : Nat} {M : vM} {Q : Option vV → vM → Prop} {l0 l1 l2 l3 l4 : Int} (k : vw X d 48 0 [vI l0, vI l1, vI l2, vI l3, vI l4, vN] [] M Q) : cq X (d + 1) 48 [vI l0, vI l1, vI l2, vI l3, vI l4] M Q := wc_in (Nat.le_of_ble_eq_true rfl) (Nat.le_of_ble_eq_true rfl) k
theorem cd49 : vm_cd 49 = cX3_setValue := rfl
theorem d49_0 : decode (vm_cd 49) 0 = .ok (.aload_n 0, 1) := (congrArg (fun b => decode b 0) cd49).trans (by decide +kernel)
theorem d49_1 : decode (vm_cd 49) 1 = .ok (.getfield 9, 3) := (congrArg (fun b => decode b 1) cd49).trans (by decide +kernel)
theorem d49_4 : decode (vm_cd 49) 4 = .ok (.iload_n 1, 1) := (congrArg (fun b => decode b 4) cd49).trans (by decide +kernel)
theorem d49_5 : decode (vm_cd 49) 5 = .ok (.iaload, 1) := (congrArg (fun b => decode b 5) cd49).trans (by decide +kernel)
theorem d49_6 : decode (vm_cd 49) 6 = .ok (.istore_n 3, 1) := (congrArg (fun b => decode b 6) cd49).trans (by decide +kernel)
theorem d49_7 : decode (vm_cd 49) 7 = .ok (.aload_n 0, 1) := (congrArg (fun b => decode b 7) cd49).trans (by decide +kernel)
theorem d49_8 : decode (vm_cd 49) 8 = .ok (.getfield 9, 3) := (congrArg (fun b => decode b 8) cd49).trans (by decide +kernel)
theorem d49_11 : decode (vm_cd 49) 11 = .ok (.iload_n 1, 1) := (congrArg (fun b => decode b 11) cd49).trans (by decide +kernel)
theorem d49_12 : decode (vm_cd 49) 12 = .ok (.iload_n 2, 1) := (congrArg (fun b => decode b 12) cd49).trans (by decide +kernel)
theorem d49_13 : decode (vm_cd 49) 13 = .ok (.iastore, 1) := (congrArg (fun b => decode b 13) cd49).trans (by decide +kernel)
theorem d49_14 : decode (vm_cd 49) 14 = .ok (.iload_n 3, 1) := (congrArg (fun b => decode b 14) cd49).trans (by decide +kernel)
theorem d49_15 : decode (vm_cd 49) 15 = .ok (.ireturn, 1) := (congrArg (fun b => decode b 15) cd49).trans (by decide +kernel)
theorem f49_9 : vm_fl.lookup (vm_own 49, 9) = some (3, 0, 84) := by decide +kernel
theorem r49 : vm_rt 49 = (some .int) := by decide +kernel
theorem B_Me_setValue_0 {X : vX} {d : Nat} {M : vM} {Q : Option vV → vM → Prop} {l1 l2 : Int} (hR : vRefs M) (h1 : 0 ≤ l1 ∧ l1 < (10 : Nat)) (h2 : 0 ≤ l1 ∧ l1 < (10 : Nat)) (k : vRefs (vm_up M 29 l1.toNat l2) → Q (some (vI (M 29 l1.toNat))) (vm_up M 29 l1.toNat l2)) : vw X d 49 0 [vR 28, vI l1, vI l2, vN] [] M Q := by
  refine w_aload_n d49_0 rfl ?_
  refine w_getf (a := 28) (v := vR 29) d49_1 f49_9 rfl rfl (congrArg vR (rf_28_0 hR)) ?_
  refine w_iload_n d49_4 rfl ?_
  refine w_iaload (a := 29) d49_5 rfl rfl h1 ?_
  refine w_istore_nE (ls' := [vR 28, vI l1, vI l2, vI (M 29 l1.toNat)]) d49_6 (Nat.le_of_ble_eq_true rfl) rfl ?_
  refine w_aload_n d49_7 rfl ?_
  refine w_getf (a := 28) (v := vR 29) d49_8 f49_9 rfl rfl (congrArg vR (rf_28_0 hR)) ?_
  refine w_iload_n d49_11 rfl ?_
  refine w_iload_n d49_12 rfl ?_
  refine w_iast (a := 29) d49_13 rfl rfl h2 ?_
  refine w_iload_n d49_14 rfl ?_
  exact w_iret d49_15 r49 ⟨_, rfl, k (vRefs_free hR ⟨by decide, by decide⟩)⟩
theorem E_Me_setValue {X : vX} {d : Nat} {M : vM} {Q : Option vV → vM → Prop} {l1 l2 : Int} (k : vw X d 49 0 [vR 28, vI l1, vI l2, vN] [] M Q) : cq X (d + 1) 49 [vR 28, vI l1, vI l2] M Q := wc_in (Nat.le_of_ble_eq_true rfl) (Nat.le_of_ble_eq_true rfl) k
theorem cd50 : vm_cd 50 = cX3_told := rfl
theorem d50_0 : decode (vm_cd 50) 0 = .ok (.iconst 0, 1) := (congrArg (fun b => decode b 0) cd50).trans (by decide +kernel)
theorem d50_1 : decode (vm_cd 50) 1 = .ok (.istore 6, 2) := (congrArg (fun b => decode b 1) cd50).trans (by decide +kernel)
theorem d50_3 : decode (vm_cd 50) 3 = .ok (.iconst 0, 1) := (congrArg (fun b => decode b 3) cd50).trans (by decide +kernel)
theorem d50_4 : decode (vm_cd 50) 4 = .ok (.istore 7, 2) := (congrArg (fun b => decode b 4) cd50).trans (by decide +kernel)
theorem d50_6 : decode (vm_cd 50) 6 = .ok (.iconst 0, 1) := (congrArg (fun b => decode b 6) cd50).trans (by decide +kernel)
theorem d50_7 : decode (vm_cd 50) 7 = .ok (.istore 8, 2) := (congrArg (fun b => decode b 7) cd50).trans (by decide +kernel)
theorem d50_9 : decode (vm_cd 50) 9 = .ok (.iconst 0, 1) := (congrArg (fun b => decode b 9) cd50).trans (by decide +kernel)
theorem d50_10 : decode (vm_cd 50) 10 = .ok (.istore 9, 2) := (congrArg (fun b => decode b 10) cd50).trans (by decide +kernel)
theorem d50_12 : decode (vm_cd 50) 12 = .ok (.iload 9, 2) := (congrArg (fun b => decode b 12) cd50).trans (by decide +kernel)
theorem d50_14 : decode (vm_cd 50) 14 = .ok (.bipush 9, 2) := (congrArg (fun b => decode b 14) cd50).trans (by decide +kernel)
theorem d50_16 : decode (vm_cd 50) 16 = .ok (.if_icmp .gt 85, 3) := (congrArg (fun b => decode b 16) cd50).trans (by decide +kernel)
theorem d50_19 : decode (vm_cd 50) 19 = .ok (.iconst 0, 1) := (congrArg (fun b => decode b 19) cd50).trans (by decide +kernel)
theorem d50_20 : decode (vm_cd 50) 20 = .ok (.istore 10, 2) := (congrArg (fun b => decode b 20) cd50).trans (by decide +kernel)
theorem d50_22 : decode (vm_cd 50) 22 = .ok (.iload 10, 2) := (congrArg (fun b => decode b 22) cd50).trans (by decide +kernel)
theorem d50_24 : decode (vm_cd 50) 24 = .ok (.iload 9, 2) := (congrArg (fun b => decode b 24) cd50).trans (by decide +kernel)
theorem d50_26 : decode (vm_cd 50) 26 = .ok (.if_icmp .gt 69, 3) := (congrArg (fun b => decode b 26) cd50).trans (by decide +kernel)
theorem d50_29 : decode (vm_cd 50) 29 = .ok (.iload 4, 2) := (congrArg (fun b => decode b 29) cd50).trans (by decide +kernel)
theorem d50_31 : decode (vm_cd 50) 31 = .ok (.iload_n 3, 1) := (congrArg (fun b => decode b 31) cd50).trans (by decide +kernel)
theorem d50_32 : decode (vm_cd 50) 32 = .ok (.isub, 1) := (congrArg (fun b => decode b 32) cd50).trans (by decide +kernel)
theorem d50_33 : decode (vm_cd 50) 33 = .ok (.aload_n 0, 1) := (congrArg (fun b => decode b 33) cd50).trans (by decide +kernel)
theorem d50_34 : decode (vm_cd 50) 34 = .ok (.getfield 9, 3) := (congrArg (fun b => decode b 34) cd50).trans (by decide +kernel)
theorem d50_37 : decode (vm_cd 50) 37 = .ok (.iload 9, 2) := (congrArg (fun b => decode b 37) cd50).trans (by decide +kernel)
theorem d50_39 : decode (vm_cd 50) 39 = .ok (.iaload, 1) := (congrArg (fun b => decode b 39) cd50).trans (by decide +kernel)
theorem d50_40 : decode (vm_cd 50) 40 = .ok (.iload_n 1, 1) := (congrArg (fun b => decode b 40) cd50).trans (by decide +kernel)
theorem d50_41 : decode (vm_cd 50) 41 = .ok (.iload_n 2, 1) := (congrArg (fun b => decode b 41) cd50).trans (by decide +kernel)
theorem d50_42 : decode (vm_cd 50) 42 = .ok (.iload 9, 2) := (congrArg (fun b => decode b 42) cd50).trans (by decide +kernel)
theorem d50_44 : decode (vm_cd 50) 44 = .ok (.iload 10, 2) := (congrArg (fun b => decode b 44) cd50).trans (by decide +kernel)
theorem d50_46 : decode (vm_cd 50) 46 = .ok (.invokestatic 19, 3) := (congrArg (fun b => decode b 46) cd50).trans (by decide +kernel)
theorem d50_49 : decode (vm_cd 50) 49 = .ok (.isub, 1) := (congrArg (fun b => decode b 49) cd50).trans (by decide +kernel)
theorem d50_50 : decode (vm_cd 50) 50 = .ok (.imul, 1) := (congrArg (fun b => decode b 50) cd50).trans (by decide +kernel)
theorem d50_51 : decode (vm_cd 50) 51 = .ok (.iload_n 3, 1) := (congrArg (fun b => decode b 51) cd50).trans (by decide +kernel)
theorem d50_52 : decode (vm_cd 50) 52 = .ok (.aload_n 0, 1) := (congrArg (fun b => decode b 52) cd50).trans (by decide +kernel)
theorem d50_53 : decode (vm_cd 50) 53 = .ok (.getfield 9, 3) := (congrArg (fun b => decode b 53) cd50).trans (by decide +kernel)
theorem d50_56 : decode (vm_cd 50) 56 = .ok (.iload 10, 2) := (congrArg (fun b => decode b 56) cd50).trans (by decide +kernel)
theorem d50_58 : decode (vm_cd 50) 58 = .ok (.iaload, 1) := (congrArg (fun b => decode b 58) cd50).trans (by decide +kernel)
theorem d50_59 : decode (vm_cd 50) 59 = .ok (.iload_n 2, 1) := (congrArg (fun b => decode b 59) cd50).trans (by decide +kernel)
theorem d50_60 : decode (vm_cd 50) 60 = .ok (.iload 10, 2) := (congrArg (fun b => decode b 60) cd50).trans (by decide +kernel)
theorem d50_62 : decode (vm_cd 50) 62 = .ok (.invokestatic 23, 3) := (congrArg (fun b => decode b 62) cd50).trans (by decide +kernel)
theorem d50_65 : decode (vm_cd 50) 65 = .ok (.isub, 1) := (congrArg (fun b => decode b 65) cd50).trans (by decide +kernel)
theorem d50_66 : decode (vm_cd 50) 66 = .ok (.imul, 1) := (congrArg (fun b => decode b 66) cd50).trans (by decide +kernel)
theorem d50_67 : decode (vm_cd 50) 67 = .ok (.iadd, 1) := (congrArg (fun b => decode b 67) cd50).trans (by decide +kernel)
theorem d50_68 : decode (vm_cd 50) 68 = .ok (.istore 11, 2) := (congrArg (fun b => decode b 68) cd50).trans (by decide +kernel)
theorem d50_70 : decode (vm_cd 50) 70 = .ok (.iload 11, 2) := (congrArg (fun b => decode b 70) cd50).trans (by decide +kernel)
theorem d50_72 : decode (vm_cd 50) 72 = .ok (.iload 8, 2) := (congrArg (fun b => decode b 72) cd50).trans (by decide +kernel)
theorem d50_74 : decode (vm_cd 50) 74 = .ok (.if_icmp .le 15, 3) := (congrArg (fun b => decode b 74) cd50).trans (by decide +kernel)
theorem d50_77 : decode (vm_cd 50) 77 = .ok (.iload 9, 2) := (congrArg (fun b => decode b 77) cd50).trans (by decide +kernel)
theorem d50_79 : decode (vm_cd 50) 79 = .ok (.istore 6, 2) := (congrArg (fun b => decode b 79) cd50).trans (by decide +kernel)
theorem d50_81 : decode (vm_cd 50) 81 = .ok (.iload 10, 2) := (congrArg (fun b => decode b 81) cd50).trans (by decide +kernel)
theorem d50_83 : decode (vm_cd 50) 83 = .ok (.istore 7, 2) := (congrArg (fun b => decode b 83) cd50).trans (by decide +kernel)
theorem d50_85 : decode (vm_cd 50) 85 = .ok (.iload 11, 2) := (congrArg (fun b => decode b 85) cd50).trans (by decide +kernel)
theorem d50_87 : decode (vm_cd 50) 87 = .ok (.istore 8, 2) := (congrArg (fun b => decode b 87) cd50).trans (by decide +kernel)
theorem d50_89 : decode (vm_cd 50) 89 = .ok (.iinc 10 1, 3) := (congrArg (fun b => decode b 89) cd50).trans (by decide +kernel)
theorem d50_92 : decode (vm_cd 50) 92 = .ok (.goto (-70), 3) := (congrArg (fun b => decode b 92) cd50).trans (by decide +kernel)
theorem d50_95 : decode (vm_cd 50) 95 = .ok (.iinc 9 1, 3) := (congrArg (fun b => decode b 95) cd50).trans (by decide +kernel)
theorem d50_98 : decode (vm_cd 50) 98 = .ok (.goto (-86), 3) := (congrArg (fun b => decode b 98) cd50).trans (by decide +kernel)
theorem d50_101 : decode (vm_cd 50) 101 = .ok (.iload 5, 2) := (congrArg (fun b => decode b 101) cd50).trans (by decide +kernel)
theorem d50_103 : decode (vm_cd 50) 103 = .ok (.tableswitch 69 0 4 #[33, 36, 46, 49, 56], 33) := (congrArg (fun b => decode b 103) cd50).trans (by decide +kernel)
theorem d50_136 : decode (vm_cd 50) 136 = .ok (.iload 6, 2) := (congrArg (fun b => decode b 136) cd50).trans (by decide +kernel)
theorem d50_138 : decode (vm_cd 50) 138 = .ok (.ireturn, 1) := (congrArg (fun b => decode b 138) cd50).trans (by decide +kernel)
theorem d50_139 : decode (vm_cd 50) 139 = .ok (.iload_n 1, 1) := (congrArg (fun b => decode b 139) cd50).trans (by decide +kernel)
theorem d50_140 : decode (vm_cd 50) 140 = .ok (.iload_n 2, 1) := (congrArg (fun b => decode b 140) cd50).trans (by decide +kernel)
theorem d50_141 : decode (vm_cd 50) 141 = .ok (.iload 6, 2) := (congrArg (fun b => decode b 141) cd50).trans (by decide +kernel)
theorem d50_143 : decode (vm_cd 50) 143 = .ok (.iload 7, 2) := (congrArg (fun b => decode b 143) cd50).trans (by decide +kernel)
theorem d50_145 : decode (vm_cd 50) 145 = .ok (.invokestatic 19, 3) := (congrArg (fun b => decode b 145) cd50).trans (by decide +kernel)
theorem d50_148 : decode (vm_cd 50) 148 = .ok (.ireturn, 1) := (congrArg (fun b => decode b 148) cd50).trans (by decide +kernel)
theorem d50_149 : decode (vm_cd 50) 149 = .ok (.iload 7, 2) := (congrArg (fun b => decode b 149) cd50).trans (by decide +kernel)
theorem d50_151 : decode (vm_cd 50) 151 = .ok (.ireturn, 1) := (congrArg (fun b => decode b 151) cd50).trans (by decide +kernel)
theorem d50_152 : decode (vm_cd 50) 152 = .ok (.iload_n 2, 1) := (congrArg (fun b => decode b 152) cd50).trans (by decide +kernel)
theorem d50_153 : decode (vm_cd 50) 153 = .ok (.iload 7, 2) := (congrArg (fun b => decode b 153) cd50).trans (by decide +kernel)
theorem d50_155 : decode (vm_cd 50) 155 = .ok (.invokestatic 23, 3) := (congrArg (fun b => decode b 155) cd50).trans (by decide +kernel)
theorem d50_158 : decode (vm_cd 50) 158 = .ok (.ireturn, 1) := (congrArg (fun b => decode b 158) cd50).trans (by decide +kernel)
theorem d50_159 : decode (vm_cd 50) 159 = .ok (.iload 6, 2) := (congrArg (fun b => decode b 159) cd50).trans (by decide +kernel)
theorem d50_161 : decode (vm_cd 50) 161 = .ok (.iload 7, 2) := (congrArg (fun b => decode b 161) cd50).trans (by decide +kernel)
theorem d50_163 : decode (vm_cd 50) 163 = .ok (.if_icmp .ne 7, 3) := (congrArg (fun b => decode b 163) cd50).trans (by decide +kernel)
theorem d50_166 : decode (vm_cd 50) 166 = .ok (.iconst 1, 1) := (congrArg (fun b => decode b 166) cd50).trans (by decide +kernel)
theorem d50_167 : decode (vm_cd 50) 167 = .ok (.goto 4, 3) := (congrArg (fun b => decode b 167) cd50).trans (by decide +kernel)
theorem d50_170 : decode (vm_cd 50) 170 = .ok (.iconst 0, 1) := (congrArg (fun b => decode b 170) cd50).trans (by decide +kernel)
theorem d50_171 : decode (vm_cd 50) 171 = .ok (.ireturn, 1) := (congrArg (fun b => decode b 171) cd50).trans (by decide +kernel)
theorem d50_172 : decode (vm_cd 50) 172 = .ok (.iload 8, 2) := (congrArg (fun b => decode b 172) cd50).trans (by decide +kernel)
theorem d50_174 : decode (vm_cd 50) 174 = .ok (.ireturn, 1) := (congrArg (fun b => decode b 174) cd50).trans (by decide +kernel)
theorem f50_9 : vm_fl.lookup (vm_own 50, 9) = some (3, 0, 84) := by decide +kernel
theorem c50_19 : vm_ml.lookup (vm_own 50, 19) = some (1, 51, 4, 548, 549, 0, 5) := vm_lk (by decide +kernel)
theorem c50_23 : vm_ml.lookup (vm_own 50, 23) = some (1, 52, 2, 551, 552, 0, 5) := vm_lk (by decide +kernel)
theorem r50 : vm_rt 50 = (some .int) := by decide +kernel
theorem B_Me_told_0 {X : vX} {d : Nat} {M : vM} {Q : Option vV → vM → Prop} {l1 l2 l3 l4 l5 : Int}  (k : vw X d 50 12 [vR 28, vI l1, vI l2, vI l3, vI l4, vI l5, vI 0, vI 0, vI 0, vI 0, vN, vN] [] M Q) : vw X d 50 0 [vR 28, vI l1, vI l2, vI l3, vI l4, vI l5, vN, vN, vN, vN, vN, vN] [] M Q := by
  refine w_ic (v := 0) d50_0 rfl ?_
  refine w_istoreE (ls' := [vR 28, vI l1, vI l2, vI l3, vI l4, vI l5, vI 0, vN, vN, vN, vN, vN]) d50_1 (Nat.le_of_ble_eq_true rfl) rfl ?_
  refine w_ic (v := 0) d50_3 rfl ?_
  refine w_istoreE (ls' := [vR 28, vI l1, vI l2, vI l3, vI l4, vI l5, vI 0, vI 0, vN, vN, vN, vN]) d50_4 (Nat.le_of_ble_eq_true rfl) rfl ?_
  refine w_ic (v := 0) d50_6 rfl ?_
  refine w_istoreE (ls' := [vR 28, vI l1, vI l2, vI l3, vI l4, vI l5, vI 0, vI 0, vI 0, vN, vN, vN]) d50_7 (Nat.le_of_ble_eq_true rfl) rfl ?_
  refine w_ic (v := 0) d50_9 rfl ?_
  refine w_istoreE (ls' := [vR 28, vI l1, vI l2, vI l3, vI l4, vI l5, vI 0, vI 0, vI 0, vI 0, vN, vN]) d50_10 (Nat.le_of_ble_eq_true rfl) rfl ?_
  exact k
theorem B_Me_told_12 {X : vX} {d : Nat} {M : vM} {Q : Option vV → vM → Prop} {l1 l2 l3 l4 l5 l6 l7 l8 l9 : Int} {w10 w11 : vV}  (k1 : 9 < l9 → vw X d 50 101 [vR 28, vI l1, vI l2, vI l3, vI l4, vI l5, vI l6, vI l7, vI l8, vI l9, w10, w11] [] M Q) (k2 : l9 ≤ 9 → vw X d 50 19 [vR 28, vI l1, vI l2, vI l3, vI l4, vI l5, vI l6, vI l7, vI l8, vI l9, w10, w11] [] M Q) : vw X d 50 12 [vR 28, vI l1, vI l2, vI l3, vI l4, vI l5, vI l6, vI l7, vI l8, vI l9, w10, w11] [] M Q := by
  refine w_iload d50_12 rfl ?_
  refine w_bi (v := 9) d50_14 rfl ?_
  exact w_icmp_gt d50_16 rfl (fun h => k1 h) (fun h => k2 h)
theorem B_Me_told_19 {X : vX} {d : Nat} {M : vM} {Q : Option vV → vM → Prop} {l1 l2 l3 l4 l5 l6 l7 l8 l9 : Int} {w10 w11 : vV}  (k : vw X d 50 22 [vR 28, vI l1, vI l2, vI l3, vI l4, vI l5, vI l6, vI l7, vI l8, vI l9, vI 0, w11] [] M Q) : vw X d 50 19 [vR 28, vI l1, vI l2, vI l3, vI l4, vI l5, vI l6, vI l7, vI l8, vI l9, w10, w11] [] M Q := by
  refine w_ic (v := 0) d50_19 rfl ?_
  refine w_istoreE (ls' := [vR 28, vI l1, vI l2, vI l3, vI l4, vI l5, vI l6, vI l7, vI l8, vI l9, vI 0, w11]) d50_20 (Nat.le_of_ble_eq_true rfl) rfl ?_
  exact k
theorem B_Me_told_22 {X : vX} {d : Nat} {M : vM} {Q : Option vV → vM → Prop} {l1 l2 l3 l4 l5 l6 l7 l8 l9 l10 : Int} {w11 : vV}  (k1 : l9 < l10 → vw X d 50 95 [vR 28, vI l1, vI l2, vI l3, vI l4, vI l5, vI l6, vI l7, vI l8, vI l9, vI l10, w11] [] M Q) (k2 : l10 ≤ l9 → vw X d 50 29 [vR 28, vI l1, vI l2, vI l3, vI l4, vI l5, vI l6, vI l7, vI l8, vI l9, vI l10, w11] [] M Q) : vw X d 50 22 [vR 28, vI l1, vI l2, vI l3, vI l4, vI l5, vI l6, vI l7, vI l8, vI l9, vI l10, w11] [] M Q := by
  refine w_iload d50_22 rfl ?_
  refine w_iload d50_24 rfl ?_
  exact w_icmp_gt d50_26 rfl (fun h => k1 h) (fun h => k2 h)
theorem B_Me_told_29 {X : vX} {d : Nat} {M : vM} {Q : Option vV → vM → Prop} {l1 l2 l3 l4 l5 l6 l7 l8 l9 l10 : Int} {w11 : vV} (hR : vRefs M) (h1 : 0 ≤ l9 ∧ l9 < (10 : Nat)) (k : cq X d 51 [vI l1, vI l2, vI l9, vI l10] M (fun r M1 => wp X d 50 49 [vR 28, vI l1, vI l2, vI l3, vI l4, vI l5, vI l6, vI l7, vI l8, vI l9, vI l10, w11] (r.toList ++ [vI (M 29 l9.toNat), vI (w32 (l4 - l3))]) (vS0, M1) (vP Q))) : vw X d 50 29 [vR 28, vI l1, vI l2, vI l3, vI l4, vI l5, vI l6, vI l7, vI l8, vI l9, vI l10, w11] [] M Q := by
  refine w_iload d50_29 rfl ?_
  refine w_iload_n d50_31 rfl ?_
  refine w_isub d50_32 ?_
  refine w_aload_n d50_33 rfl ?_
  refine w_getf (a := 28) (v := vR 29) d50_34 f50_9 rfl rfl (congrArg vR (rf_28_0 hR)) ?_
  refine w_iload d50_37 rfl ?_
  refine w_iaload (a := 29) d50_39 rfl rfl h1 ?_
  refine w_iload_n d50_40 rfl ?_
  refine w_iload_n d50_41 rfl ?_
  refine w_iload d50_42 rfl ?_
  refine w_iload d50_44 rfl ?_
  exact w_inv1 d50_46 c50_19 (by decide) rfl (Nat.le_of_ble_eq_true rfl) (cq.cl (k))
theorem B_Me_told_49 {X : vX} {d : Nat} {M : vM} {Q : Option vV → vM → Prop} {l1 l2 l3 l4 l5 l6 l7 l8 l9 l10 s0 s1 s2 : Int} {w11 : vV} (hR : vRefs M) (h1 : 0 ≤ l10 ∧ l10 < (10 : Nat)) (k : cq X d 52 [vI l2, vI l10] M (fun r M1 => wp X d 50 65 [vR 28, vI l1, vI l2, vI l3, vI l4, vI l5, vI l6, vI l7, vI l8, vI l9, vI l10, w11] (r.toList ++ [vI (M 29 l10.toNat), vI l3, vI (w32 (s0 * (w32 (s1 - s2))))]) (vS0, M1) (vP Q))) : vw X d 50 49 [vR 28, vI l1, vI l2, vI l3, vI l4, vI l5, vI l6, vI l7, vI l8, vI l9, vI l10, w11] [vI s2, vI s1, vI s0] M Q := by
  refine w_isub d50_49 ?_
  refine w_imul d50_50 ?_
  refine w_iload_n d50_51 rfl ?_
  refine w_aload_n d50_52 rfl ?_
  refine w_getf (a := 28) (v := vR 29) d50_53 f50_9 rfl rfl (congrArg vR (rf_28_0 hR)) ?_
  refine w_iload d50_56 rfl ?_
  refine w_iaload (a := 29) d50_58 rfl rfl h1 ?_
  refine w_iload_n d50_59 rfl ?_
  refine w_iload d50_60 rfl ?_
  exact w_inv1 d50_62 c50_23 (by decide) rfl (Nat.le_of_ble_eq_true rfl) (cq.cl (k))
theorem B_Me_told_65 {X : vX} {d : Nat} {M : vM} {Q : Option vV → vM → Prop} {l1 l2 l3 l4 l5 l6 l7 l8 l9 l10 s0 s1 s2 s3 : Int} {w11 : vV}  (k1 : (w32 (s0 + (w32 (s1 * (w32 (s2 - s3)))))) ≤ l8 → vw X d 50 89 [vR 28, vI l1, vI l2, vI l3, vI l4, vI l5, vI l6, vI l7, vI l8, vI l9, vI l10, vI (w32 (s0 + (w32 (s1 * (w32 (s2 - s3))))))] [] M Q) (k2 : l8 < (w32 (s0 + (w32 (s1 * (w32 (s2 - s3)))))) → vw X d 50 77 [vR 28, vI l1, vI l2, vI l3, vI l4, vI l5, vI l6, vI l7, vI l8, vI l9, vI l10, vI (w32 (s0 + (w32 (s1 * (w32 (s2 - s3))))))] [] M Q) : vw X d 50 65 [vR 28, vI l1, vI l2, vI l3, vI l4, vI l5, vI l6, vI l7, vI l8, vI l9, vI l10, w11] [vI s3, vI s2, vI s1, vI s0] M Q := by
  refine w_isub d50_65 ?_
  refine w_imul d50_66 ?_
  refine w_iadd d50_67 ?_
  refine w_istoreE (ls' := [vR 28, vI l1, vI l2, vI l3, vI l4, vI l5, vI l6, vI l7, vI l8, vI l9, vI l10, vI (w32 (s0 + (w32 (s1 * (w32 (s2 - s3))))))]) d50_68 (Nat.le_of_ble_eq_true rfl) rfl ?_
  refine w_iload d50_70 rfl ?_
  refine w_iload d50_72 rfl ?_
  exact w_icmp_le d50_74 rfl (fun h => k1 h) (fun h => k2 h)
theorem B_Me_told_77 {X : vX} {d : Nat} {M : vM} {Q : Option vV → vM → Prop} {l1 l2 l3 l4 l5 l6 l7 l8 l9 l10 l11 : Int}  (k : vw X d 50 22 [vR 28, vI l1, vI l2, vI l3, vI l4, vI l5, vI l9, vI l10, vI l11, vI l9, vI (w32 (l10 + 1)), vI l11] [] M Q) : vw X d 50 77 [vR 28, vI l1, vI l2, vI l3, vI l4, vI l5, vI l6, vI l7, vI l8, vI l9, vI l10, vI l11] [] M Q := by
  refine w_iload d50_77 rfl ?_
  refine w_istoreE (ls' := [vR 28, vI l1, vI l2, vI l3, vI l4, vI l5, vI l9, vI l7, vI l8, vI l9, vI l10, vI l11]) d50_79 (Nat.le_of_ble_eq_true rfl) rfl ?_
  refine w_iload d50_81 rfl ?_
  refine w_istoreE (ls' := [vR 28, vI l1, vI l2, vI l3, vI l4, vI l5, vI l9, vI l10, vI l8, vI l9, vI l10, vI l11]) d50_83 (Nat.le_of_ble_eq_true rfl) rfl ?_
  refine w_iload d50_85 rfl ?_
  refine w_istoreE (ls' := [vR 28, vI l1, vI l2, vI l3, vI l4, vI l5, vI l9, vI l10, vI l11, vI l9, vI l10, vI l11]) d50_87 (Nat.le_of_ble_eq_true rfl) rfl ?_
  refine w_iincE (ls' := [vR 28, vI l1, vI l2, vI l3, vI l4, vI l5, vI l9, vI l10, vI l11, vI l9, vI (w32 (l10 + 1)), vI l11]) d50_89 rfl rfl ?_
  refine w_goto (tgt := 22) d50_92 rfl ?_
  exact k
theorem B_Me_told_89 {X : vX} {d : Nat} {M : vM} {Q : Option vV → vM → Prop} {l1 l2 l3 l4 l5 l6 l7 l8 l9 l10 l11 : Int}  (k : vw X d 50 22 [vR 28, vI l1, vI l2, vI l3, vI l4, vI l5, vI l6, vI l7, vI l8, vI l9, vI (w32 (l10 + 1)), vI l11] [] M Q) : vw X d 50 89 [vR 28, vI l1, vI l2, vI l3, vI l4, vI l5, vI l6, vI l7, vI l8, vI l9, vI l10, vI l11] [] M Q := by
  refine w_iincE (ls' := [vR 28, vI l1, vI l2, vI l3, vI l4, vI l5, vI l6, vI l7, vI l8, vI l9, vI (w32 (l10 + 1)), vI l11]) d50_89 rfl rfl ?_
  refine w_goto (tgt := 22) d50_92 rfl ?_
  exact k
theorem B_Me_told_95 {X : vX} {d : Nat} {M : vM} {Q : Option vV → vM → Prop} {l1 l2 l3 l4 l5 l6 l7 l8 l9 l10 : Int} {w11 : vV}  (k : vw X d 50 12 [vR 28, vI l1, vI l2, vI l3, vI l4, vI l5, vI l6, vI l7, vI l8, vI (w32 (l9 + 1)), vI l10, w11] [] M Q) : vw X d 50 95 [vR 28, vI l1, vI l2, vI l3, vI l4, vI l5, vI l6, vI l7, vI l8, vI l9, vI l10, w11] [] M Q := by
  refine w_iincE (ls' := [vR 28, vI l1, vI l2, vI l3, vI l4, vI l5, vI l6, vI l7, vI l8, vI (w32 (l9 + 1)), vI l10, w11]) d50_95 rfl rfl ?_
  refine w_goto (tgt := 12) d50_98 rfl ?_
  exact k
theorem B_Me_told_101 {X : vX} {d : Nat} {M : vM} {Q : Option vV → vM → Prop} {l1 l2 l3 l4 l5 l6 l7 l8 l9 : Int} {w10 w11 : vV}  (kd : (l5 < 0 ∨ 4 < l5) → vw X d 50 172 [vR 28, vI l1, vI l2, vI l3, vI l4, vI l5, vI l6, vI l7, vI l8, vI l9, w10, w11] [] M Q) (k0 : l5 = 0 → vw X d 50 136 [vR 28, vI l1, vI l2, vI l3, vI l4, vI l5, vI l6, vI l7, vI l8, vI l9, w10, w11] [] M Q) (k1 : l5 = 1 → vw X d 50 139 [vR 28, vI l1, vI l2, vI l3, vI l4, vI l5, vI l6, vI l7, vI l8, vI l9, w10, w11] [] M Q) (k2 : l5 = 2 → vw X d 50 149 [vR 28, vI l1, vI l2, vI l3, vI l4, vI l5, vI l6, vI l7, vI l8, vI l9, w10, w11] [] M Q) (k3 : l5 = 3 → vw X d 50 152 [vR 28, vI l1, vI l2, vI l3, vI l4, vI l5, vI l6, vI l7, vI l8, vI l9, w10, w11] [] M Q) (k4 : l5 = 4 → vw X d 50 159 [vR 28, vI l1, vI l2, vI l3, vI l4, vI l5, vI l6, vI l7, vI l8, vI l9, w10, w11] [] M Q) : vw X d 50 101 [vR 28, vI l1, vI l2, vI l3, vI l4, vI l5, vI l6, vI l7, vI l8, vI l9, w10, w11] [] M Q := by
  refine w_iload d50_101 rfl ?_
  rcases (show l5 < 0 ∨ 4 < l5 ∨ l5 = 0 ∨ l5 = 1 ∨ l5 = 2 ∨ l5 = 3 ∨ l5 = 4 by omega) with h | h | h | h | h | h | h
  · exact w_tab (off := 69) d50_103 (if_pos (Or.inl h)) rfl (kd (Or.inl h))
  · exact w_tab (off := 69) d50_103 (if_pos (Or.inr h)) rfl (kd (Or.inr h))
  · exact w_tab (off := 33) d50_103 (by rw [h]; rfl) rfl (k0 h)
  · exact w_tab (off := 36) d50_103 (by rw [h]; rfl) rfl (k1 h)
  · exact w_tab (off := 46) d50_103 (by rw [h]; rfl) rfl (k2 h)
  · exact w_tab (off := 49) d50_103 (by rw [h]; rfl) rfl (k3 h)
  · exact w_tab (off := 56) d50_103 (by rw [h]; rfl) rfl (k4 h)
theorem B_Me_told_136 {X : vX} {d : Nat} {M : vM} {Q : Option vV → vM → Prop} {l1 l2 l3 l4 l5 l6 l7 l8 l9 : Int} {w10 w11 : vV}  (k : Q (some (vI l6)) M) : vw X d 50 136 [vR 28, vI l1, vI l2, vI l3, vI l4, vI l5, vI l6, vI l7, vI l8, vI l9, w10, w11] [] M Q := by
  refine w_iload d50_136 rfl ?_
  exact w_iret d50_138 r50 ⟨_, rfl, k⟩
theorem B_Me_told_139 {X : vX} {d : Nat} {M : vM} {Q : Option vV → vM → Prop} {l1 l2 l3 l4 l5 l6 l7 l8 l9 : Int} {w10 w11 : vV}  (k : cq X d 51 [vI l1, vI l2, vI l6, vI l7] M (fun r M1 => wp X d 50 148 [vR 28, vI l1, vI l2, vI l3, vI l4, vI l5, vI l6, vI l7, vI l8, vI l9, w10, w11] (r.toList ++ []) (vS0, M1) (vP Q))) : vw X d 50 139 [vR 28, vI l1, vI l2, vI l3, vI l4, vI l5, vI l6, vI l7, vI l8, vI l9, w10, w11] [] M Q := by
  refine w_iload_n d50_139 rfl ?_
  refine w_iload_n d50_140 rfl ?_
  refine w_iload d50_141 rfl ?_
  refine w_iload d50_143 rfl ?_
  exact w_inv1 d50_145 c50_19 (by decide) rfl (Nat.le_of_ble_eq_true rfl) (cq.cl (k))
theorem B_Me_told_148 {X : vX} {d : Nat} {M : vM} {Q : Option vV → vM → Prop} {l1 l2 l3 l4 l5 l6 l7 l8 l9 s0 : Int} {w10 w11 : vV}  (k : Q (some (vI s0)) M) : vw X d 50 148 [vR 28, vI l1, vI l2, vI l3, vI l4, vI l5, vI l6, vI l7, vI l8, vI l9, w10, w11] [vI s0] M Q := by
  exact w_iret d50_148 r50 ⟨_, rfl, k⟩
theorem B_Me_told_149 {X : vX} {d : Nat} {M : vM} {Q : Option vV → vM → Prop} {l1 l2 l3 l4 l5 l6 l7 l8 l9 : Int} {w10 w11 : vV}  (k : Q (some (vI l7)) M) : vw X d 50 149 [vR 28, vI l1, vI l2, vI l3, vI l4, vI l5, vI l6, vI l7, vI l8, vI l9, w10, w11] [] M Q := by
  refine w_iload d50_149 rfl ?_
  exact w_iret d50_151 r50 ⟨_, rfl, k⟩
theorem B_Me_told_152 {X : vX} {d : Nat} {M : vM} {Q : Option vV → vM → Prop} {l1 l2 l3 l4 l5 l6 l7 l8 l9 : Int} {w10 w11 : vV}  (k : cq X d 52 [vI l2, vI l7] M (fun r M1 => wp X d 50 158 [vR 28, vI l1, vI l2, vI l3, vI l4, vI l5, vI l6, vI l7, vI l8, vI l9, w10, w11] (r.toList ++ []) (vS0, M1) (vP Q))) : vw X d 50 152 [vR 28, vI l1, vI l2, vI l3, vI l4, vI l5, vI l6, vI l7, vI l8, vI l9, w10, w11] [] M Q := by
  refine w_iload_n d50_152 rfl ?_
  refine w_iload d50_153 rfl ?_
  exact w_inv1 d50_155 c50_23 (by decide) rfl (Nat.le_of_ble_eq_true rfl) (cq.cl (k))
theorem B_Me_told_158 {X : vX} {d : Nat} {M : vM} {Q : Option vV → vM → Prop} {l1 l2 l3 l4 l5 l6 l7 l8 l9 s0 : Int} {w10 w11 : vV}  (k : Q (some (vI s0)) M) : vw X d 50 158 [vR 28, vI l1, vI l2, vI l3, vI l4, vI l5, vI l6, vI l7, vI l8, vI l9, w10, w11] [vI s0] M Q := by
  exact w_iret d50_158 r50 ⟨_, rfl, k⟩
theorem B_Me_told_159 {X : vX} {d : Nat} {M : vM} {Q : Option vV → vM → Prop} {l1 l2 l3 l4 l5 l6 l7 l8 l9 : Int} {w10 w11 : vV}  (k1 : ¬ l6 = l7 → vw X d 50 170 [vR 28, vI l1, vI l2, vI l3, vI l4, vI l5, vI l6, vI l7, vI l8, vI l9, w10, w11] [] M Q) (k2 : l6 = l7 → vw X d 50 166 [vR 28, vI l1, vI l2, vI l3, vI l4, vI l5, vI l6, vI l7, vI l8, vI l9, w10, w11] [] M Q) : vw X d 50 159 [vR 28, vI l1, vI l2, vI l3, vI l4, vI l5, vI l6, vI l7, vI l8, vI l9, w10, w11] [] M Q := by
  refine w_iload d50_159 rfl ?_
  refine w_iload d50_161 rfl ?_
  exact w_icmp_ne d50_163 rfl (fun h => k1 h) (fun h => k2 h)
theorem B_Me_told_166 {X : vX} {d : Nat} {M : vM} {Q : Option vV → vM → Prop} {l1 l2 l3 l4 l5 l6 l7 l8 l9 : Int} {w10 w11 : vV}  (k : Q (some (vI 1)) M) : vw X d 50 166 [vR 28, vI l1, vI l2, vI l3, vI l4, vI l5, vI l6, vI l7, vI l8, vI l9, w10, w11] [] M Q := by
  refine w_ic (v := 1) d50_166 rfl ?_
  refine w_goto (tgt := 171) d50_167 rfl ?_
  exact w_iret d50_171 r50 ⟨_, rfl, k⟩
theorem B_Me_told_170 {X : vX} {d : Nat} {M : vM} {Q : Option vV → vM → Prop} {l1 l2 l3 l4 l5 l6 l7 l8 l9 : Int} {w10 w11 : vV}  (k : Q (some (vI 0)) M) : vw X d 50 170 [vR 28, vI l1, vI l2, vI l3, vI l4, vI l5, vI l6, vI l7, vI l8, vI l9, w10, w11] [] M Q := by
  refine w_ic (v := 0) d50_170 rfl ?_
  exact w_iret d50_171 r50 ⟨_, rfl, k⟩
theorem B_Me_told_172 {X : vX} {d : Nat} {M : vM} {Q : Option vV → vM → Prop} {l1 l2 l3 l4 l5 l6 l7 l8 l9 : Int} {w10 w11 : vV}  (k : Q (some (vI l8)) M) : vw X d 50 172 [vR 28, vI l1, vI l2, vI l3, vI l4, vI l5, vI l6, vI l7, vI l8, vI l9, w10, w11] [] M Q := by
  refine w_iload d50_172 rfl ?_
  exact w_iret d50_174 r50 ⟨_, rfl, k⟩
theorem E_Me_told {X : vX} {d : Nat} {M : vM} {Q : Option vV → vM → Prop} {l1 l2 l3 l4 l5 : Int} (k : vw X d 50 0 [vR 28, vI l1, vI l2, vI l3, vI l4, vI l5, vN, vN, vN, vN, vN, vN] [] M Q) : cq X (d + 1) 50 [vR 28, vI l1, vI l2, vI l3, vI l4, vI l5] M Q := wc_in (Nat.le_of_ble_eq_true rfl) (Nat.le_of_ble_eq_true rfl) k
theorem cd51 : vm_cd 51 = cX3_leastPay0 := rfl
theorem d51_0 : decode (vm_cd 51) 0 = .ok (.iload_n 0, 1) := (congrArg (fun b => decode b 0) cd51).trans (by decide +kernel)
theorem d51_1 : decode (vm_cd 51) 1 = .ok (.iload_n 2, 1) := (congrArg (fun b => decode b 1) cd51).trans (by decide +kernel)
theorem d51_2 : decode (vm_cd 51) 2 = .ok (.imul, 1) := (congrArg (fun b => decode b 2) cd51).trans (by decide +kernel)
theorem d51_3 : decode (vm_cd 51) 3 = .ok (.iload_n 2, 1) := (congrArg (fun b => decode b 3) cd51).trans (by decide +kernel)
theorem d51_4 : decode (vm_cd 51) 4 = .ok (.imul, 1) := (congrArg (fun b => decode b 4) cd51).trans (by decide +kernel)
theorem d51_5 : decode (vm_cd 51) 5 = .ok (.iload_n 1, 1) := (congrArg (fun b => decode b 5) cd51).trans (by decide +kernel)
theorem d51_6 : decode (vm_cd 51) 6 = .ok (.iload_n 0, 1) := (congrArg (fun b => decode b 6) cd51).trans (by decide +kernel)
theorem d51_7 : decode (vm_cd 51) 7 = .ok (.isub, 1) := (congrArg (fun b => decode b 7) cd51).trans (by decide +kernel)
theorem d51_8 : decode (vm_cd 51) 8 = .ok (.iload_n 3, 1) := (congrArg (fun b => decode b 8) cd51).trans (by decide +kernel)
theorem d51_9 : decode (vm_cd 51) 9 = .ok (.imul, 1) := (congrArg (fun b => decode b 9) cd51).trans (by decide +kernel)
theorem d51_10 : decode (vm_cd 51) 10 = .ok (.iload_n 3, 1) := (congrArg (fun b => decode b 10) cd51).trans (by decide +kernel)
theorem d51_11 : decode (vm_cd 51) 11 = .ok (.imul, 1) := (congrArg (fun b => decode b 11) cd51).trans (by decide +kernel)
theorem d51_12 : decode (vm_cd 51) 12 = .ok (.iadd, 1) := (congrArg (fun b => decode b 12) cd51).trans (by decide +kernel)
theorem d51_13 : decode (vm_cd 51) 13 = .ok (.ireturn, 1) := (congrArg (fun b => decode b 13) cd51).trans (by decide +kernel)
theorem r51 : vm_rt 51 = (some .int) := by decide +kernel
theorem B_Me_leastPay0_0 {X : vX} {d : Nat} {M : vM} {Q : Option vV → vM → Prop} {l0 l1 l2 l3 : Int}  (k : Q (some (vI (w32 ((w32 ((w32 (l0 * l2)) * l2)) + (w32 ((w32 ((w32 (l1 - l0)) * l3)) * l3)))))) M) : vw X d 51 0 [vI l0, vI l1, vI l2, vI l3] [] M Q := by
  refine w_iload_n d51_0 rfl ?_
  refine w_iload_n d51_1 rfl ?_
  refine w_imul d51_2 ?_
  refine w_iload_n d51_3 rfl ?_
  refine w_imul d51_4 ?_
  refine w_iload_n d51_5 rfl ?_
  refine w_iload_n d51_6 rfl ?_
  refine w_isub d51_7 ?_
  refine w_iload_n d51_8 rfl ?_
  refine w_imul d51_9 ?_
  refine w_iload_n d51_10 rfl ?_
  refine w_imul d51_11 ?_
  refine w_iadd d51_12 ?_
  exact w_iret d51_13 r51 ⟨_, rfl, k⟩
theorem E_Me_leastPay0 {X : vX} {d : Nat} {M : vM} {Q : Option vV → vM → Prop} {l0 l1 l2 l3 : Int} (k : vw X d 51 0 [vI l0, vI l1, vI l2, vI l3] [] M Q) : cq X (d + 1) 51 [vI l0, vI l1, vI l2, vI l3] M Q := wc_in (Nat.le_of_ble_eq_true rfl) (Nat.le_of_ble_eq_true rfl) k
theorem cd52 : vm_cd 52 = cX3_leastPay1 := rfl
theorem d52_0 : decode (vm_cd 52) 0 = .ok (.iload_n 0, 1) := (congrArg (fun b => decode b 0) cd52).trans (by decide +kernel)
theorem d52_1 : decode (vm_cd 52) 1 = .ok (.iload_n 1, 1) := (congrArg (fun b => decode b 1) cd52).trans (by decide +kernel)
theorem d52_2 : decode (vm_cd 52) 2 = .ok (.imul, 1) := (congrArg (fun b => decode b 2) cd52).trans (by decide +kernel)
theorem d52_3 : decode (vm_cd 52) 3 = .ok (.iload_n 1, 1) := (congrArg (fun b => decode b 3) cd52).trans (by decide +kernel)
theorem d52_4 : decode (vm_cd 52) 4 = .ok (.imul, 1) := (congrArg (fun b => decode b 4) cd52).trans (by decide +kernel)
theorem d52_5 : decode (vm_cd 52) 5 = .ok (.ireturn, 1) := (congrArg (fun b => decode b 5) cd52).trans (by decide +kernel)
theorem r52 : vm_rt 52 = (some .int) := by decide +kernel
theorem B_Me_leastPay1_0 {X : vX} {d : Nat} {M : vM} {Q : Option vV → vM → Prop} {l0 l1 : Int}  (k : Q (some (vI (w32 ((w32 (l0 * l1)) * l1)))) M) : vw X d 52 0 [vI l0, vI l1] [] M Q := by
  refine w_iload_n d52_0 rfl ?_
  refine w_iload_n d52_1 rfl ?_
  refine w_imul d52_2 ?_
  refine w_iload_n d52_3 rfl ?_
  refine w_imul d52_4 ?_
  exact w_iret d52_5 r52 ⟨_, rfl, k⟩
theorem E_Me_leastPay1 {X : vX} {d : Nat} {M : vM} {Q : Option vV → vM → Prop} {l0 l1 : Int} (k : vw X d 52 0 [vI l0, vI l1] [] M Q) : cq X (d + 1) 52 [vI l0, vI l1] M Q := wc_in (Nat.le_of_ble_eq_true rfl) (Nat.le_of_ble_eq_true rfl) k
theorem cd66 : vm_cd 66 = cX5_taken := rfl
theorem d66_0 : decode (vm_cd 66) 0 = .ok (.iconst 0, 1) := (congrArg (fun b => decode b 0) cd66).trans (by decide +kernel)
theorem d66_1 : decode (vm_cd 66) 1 = .ok (.istore 4, 2) := (congrArg (fun b => decode b 1) cd66).trans (by decide +kernel)
theorem d66_3 : decode (vm_cd 66) 3 = .ok (.iconst 0, 1) := (congrArg (fun b => decode b 3) cd66).trans (by decide +kernel)
theorem d66_4 : decode (vm_cd 66) 4 = .ok (.istore 5, 2) := (congrArg (fun b => decode b 4) cd66).trans (by decide +kernel)
theorem d66_6 : decode (vm_cd 66) 6 = .ok (.iconst 0, 1) := (congrArg (fun b => decode b 6) cd66).trans (by decide +kernel)
theorem d66_7 : decode (vm_cd 66) 7 = .ok (.istore 6, 2) := (congrArg (fun b => decode b 7) cd66).trans (by decide +kernel)
theorem d66_9 : decode (vm_cd 66) 9 = .ok (.iconst 0, 1) := (congrArg (fun b => decode b 9) cd66).trans (by decide +kernel)
theorem d66_10 : decode (vm_cd 66) 10 = .ok (.istore 7, 2) := (congrArg (fun b => decode b 10) cd66).trans (by decide +kernel)
theorem d66_12 : decode (vm_cd 66) 12 = .ok (.iload 7, 2) := (congrArg (fun b => decode b 12) cd66).trans (by decide +kernel)
theorem d66_14 : decode (vm_cd 66) 14 = .ok (.bipush 19, 2) := (congrArg (fun b => decode b 14) cd66).trans (by decide +kernel)
theorem d66_16 : decode (vm_cd 66) 16 = .ok (.if_icmp .gt 96, 3) := (congrArg (fun b => decode b 16) cd66).trans (by decide +kernel)
theorem d66_19 : decode (vm_cd 66) 19 = .ok (.iload_n 1, 1) := (congrArg (fun b => decode b 19) cd66).trans (by decide +kernel)
theorem d66_20 : decode (vm_cd 66) 20 = .ok (.iload 7, 2) := (congrArg (fun b => decode b 20) cd66).trans (by decide +kernel)
theorem d66_22 : decode (vm_cd 66) 22 = .ok (.imul, 1) := (congrArg (fun b => decode b 22) cd66).trans (by decide +kernel)
theorem d66_23 : decode (vm_cd 66) 23 = .ok (.iload_n 0, 1) := (congrArg (fun b => decode b 23) cd66).trans (by decide +kernel)
theorem d66_24 : decode (vm_cd 66) 24 = .ok (.iload 7, 2) := (congrArg (fun b => decode b 24) cd66).trans (by decide +kernel)
theorem d66_26 : decode (vm_cd 66) 26 = .ok (.invokestatic 9, 3) := (congrArg (fun b => decode b 26) cd66).trans (by decide +kernel)
theorem d66_29 : decode (vm_cd 66) 29 = .ok (.isub, 1) := (congrArg (fun b => decode b 29) cd66).trans (by decide +kernel)
theorem d66_30 : decode (vm_cd 66) 30 = .ok (.istore 8, 2) := (congrArg (fun b => decode b 30) cd66).trans (by decide +kernel)
theorem d66_32 : decode (vm_cd 66) 32 = .ok (.iload 8, 2) := (congrArg (fun b => decode b 32) cd66).trans (by decide +kernel)
theorem d66_34 : decode (vm_cd 66) 34 = .ok (.iload 6, 2) := (congrArg (fun b => decode b 34) cd66).trans (by decide +kernel)
theorem d66_36 : decode (vm_cd 66) 36 = .ok (.if_icmp .le 14, 3) := (congrArg (fun b => decode b 36) cd66).trans (by decide +kernel)
theorem d66_39 : decode (vm_cd 66) 39 = .ok (.iload 7, 2) := (congrArg (fun b => decode b 39) cd66).trans (by decide +kernel)
theorem d66_41 : decode (vm_cd 66) 41 = .ok (.istore 4, 2) := (congrArg (fun b => decode b 41) cd66).trans (by decide +kernel)
theorem d66_43 : decode (vm_cd 66) 43 = .ok (.iconst 0, 1) := (congrArg (fun b => decode b 43) cd66).trans (by decide +kernel)
theorem d66_44 : decode (vm_cd 66) 44 = .ok (.istore 5, 2) := (congrArg (fun b => decode b 44) cd66).trans (by decide +kernel)
theorem d66_46 : decode (vm_cd 66) 46 = .ok (.iload 8, 2) := (congrArg (fun b => decode b 46) cd66).trans (by decide +kernel)
theorem d66_48 : decode (vm_cd 66) 48 = .ok (.istore 6, 2) := (congrArg (fun b => decode b 48) cd66).trans (by decide +kernel)
theorem d66_50 : decode (vm_cd 66) 50 = .ok (.iconst 0, 1) := (congrArg (fun b => decode b 50) cd66).trans (by decide +kernel)
theorem d66_51 : decode (vm_cd 66) 51 = .ok (.istore 9, 2) := (congrArg (fun b => decode b 51) cd66).trans (by decide +kernel)
theorem d66_53 : decode (vm_cd 66) 53 = .ok (.iload 9, 2) := (congrArg (fun b => decode b 53) cd66).trans (by decide +kernel)
theorem d66_55 : decode (vm_cd 66) 55 = .ok (.bipush 19, 2) := (congrArg (fun b => decode b 55) cd66).trans (by decide +kernel)
theorem d66_57 : decode (vm_cd 66) 57 = .ok (.if_icmp .gt 49, 3) := (congrArg (fun b => decode b 57) cd66).trans (by decide +kernel)
theorem d66_60 : decode (vm_cd 66) 60 = .ok (.iload 8, 2) := (congrArg (fun b => decode b 60) cd66).trans (by decide +kernel)
theorem d66_62 : decode (vm_cd 66) 62 = .ok (.iload_n 1, 1) := (congrArg (fun b => decode b 62) cd66).trans (by decide +kernel)
theorem d66_63 : decode (vm_cd 66) 63 = .ok (.iload 9, 2) := (congrArg (fun b => decode b 63) cd66).trans (by decide +kernel)
theorem d66_65 : decode (vm_cd 66) 65 = .ok (.iload 7, 2) := (congrArg (fun b => decode b 65) cd66).trans (by decide +kernel)
theorem d66_67 : decode (vm_cd 66) 67 = .ok (.isub, 1) := (congrArg (fun b => decode b 67) cd66).trans (by decide +kernel)
theorem d66_68 : decode (vm_cd 66) 68 = .ok (.iload_n 2, 1) := (congrArg (fun b => decode b 68) cd66).trans (by decide +kernel)
theorem d66_69 : decode (vm_cd 66) 69 = .ok (.isub, 1) := (congrArg (fun b => decode b 69) cd66).trans (by decide +kernel)
theorem d66_70 : decode (vm_cd 66) 70 = .ok (.imul, 1) := (congrArg (fun b => decode b 70) cd66).trans (by decide +kernel)
theorem d66_71 : decode (vm_cd 66) 71 = .ok (.iadd, 1) := (congrArg (fun b => decode b 71) cd66).trans (by decide +kernel)
theorem d66_72 : decode (vm_cd 66) 72 = .ok (.iload_n 0, 1) := (congrArg (fun b => decode b 72) cd66).trans (by decide +kernel)
theorem d66_73 : decode (vm_cd 66) 73 = .ok (.iload 9, 2) := (congrArg (fun b => decode b 73) cd66).trans (by decide +kernel)
theorem d66_75 : decode (vm_cd 66) 75 = .ok (.invokestatic 9, 3) := (congrArg (fun b => decode b 75) cd66).trans (by decide +kernel)
theorem d66_78 : decode (vm_cd 66) 78 = .ok (.isub, 1) := (congrArg (fun b => decode b 78) cd66).trans (by decide +kernel)
theorem d66_79 : decode (vm_cd 66) 79 = .ok (.istore 10, 2) := (congrArg (fun b => decode b 79) cd66).trans (by decide +kernel)
theorem d66_81 : decode (vm_cd 66) 81 = .ok (.iload 10, 2) := (congrArg (fun b => decode b 81) cd66).trans (by decide +kernel)
theorem d66_83 : decode (vm_cd 66) 83 = .ok (.iload 6, 2) := (congrArg (fun b => decode b 83) cd66).trans (by decide +kernel)
theorem d66_85 : decode (vm_cd 66) 85 = .ok (.if_icmp .le 15, 3) := (congrArg (fun b => decode b 85) cd66).trans (by decide +kernel)
theorem d66_88 : decode (vm_cd 66) 88 = .ok (.iload 7, 2) := (congrArg (fun b => decode b 88) cd66).trans (by decide +kernel)
theorem d66_90 : decode (vm_cd 66) 90 = .ok (.istore 4, 2) := (congrArg (fun b => decode b 90) cd66).trans (by decide +kernel)
theorem d66_92 : decode (vm_cd 66) 92 = .ok (.iload 9, 2) := (congrArg (fun b => decode b 92) cd66).trans (by decide +kernel)
theorem d66_94 : decode (vm_cd 66) 94 = .ok (.istore 5, 2) := (congrArg (fun b => decode b 94) cd66).trans (by decide +kernel)
theorem d66_96 : decode (vm_cd 66) 96 = .ok (.iload 10, 2) := (congrArg (fun b => decode b 96) cd66).trans (by decide +kernel)
theorem d66_98 : decode (vm_cd 66) 98 = .ok (.istore 6, 2) := (congrArg (fun b => decode b 98) cd66).trans (by decide +kernel)
theorem d66_100 : decode (vm_cd 66) 100 = .ok (.iinc 9 1, 3) := (congrArg (fun b => decode b 100) cd66).trans (by decide +kernel)
theorem d66_103 : decode (vm_cd 66) 103 = .ok (.goto (-50), 3) := (congrArg (fun b => decode b 103) cd66).trans (by decide +kernel)
theorem d66_106 : decode (vm_cd 66) 106 = .ok (.iinc 7 1, 3) := (congrArg (fun b => decode b 106) cd66).trans (by decide +kernel)
theorem d66_109 : decode (vm_cd 66) 109 = .ok (.goto (-97), 3) := (congrArg (fun b => decode b 109) cd66).trans (by decide +kernel)
theorem d66_112 : decode (vm_cd 66) 112 = .ok (.iload_n 3, 1) := (congrArg (fun b => decode b 112) cd66).trans (by decide +kernel)
theorem d66_113 : decode (vm_cd 66) 113 = .ok (.ifCond .ne 8, 3) := (congrArg (fun b => decode b 113) cd66).trans (by decide +kernel)
theorem d66_116 : decode (vm_cd 66) 116 = .ok (.iload 4, 2) := (congrArg (fun b => decode b 116) cd66).trans (by decide +kernel)
theorem d66_118 : decode (vm_cd 66) 118 = .ok (.goto 15, 3) := (congrArg (fun b => decode b 118) cd66).trans (by decide +kernel)
theorem d66_121 : decode (vm_cd 66) 121 = .ok (.iload_n 3, 1) := (congrArg (fun b => decode b 121) cd66).trans (by decide +kernel)
theorem d66_122 : decode (vm_cd 66) 122 = .ok (.iconst 1, 1) := (congrArg (fun b => decode b 122) cd66).trans (by decide +kernel)
theorem d66_123 : decode (vm_cd 66) 123 = .ok (.if_icmp .ne 8, 3) := (congrArg (fun b => decode b 123) cd66).trans (by decide +kernel)
theorem d66_126 : decode (vm_cd 66) 126 = .ok (.iload 5, 2) := (congrArg (fun b => decode b 126) cd66).trans (by decide +kernel)
theorem d66_128 : decode (vm_cd 66) 128 = .ok (.goto 5, 3) := (congrArg (fun b => decode b 128) cd66).trans (by decide +kernel)
theorem d66_131 : decode (vm_cd 66) 131 = .ok (.iload 6, 2) := (congrArg (fun b => decode b 131) cd66).trans (by decide +kernel)
theorem d66_133 : decode (vm_cd 66) 133 = .ok (.ireturn, 1) := (congrArg (fun b => decode b 133) cd66).trans (by decide +kernel)
theorem c66_9 : vm_ml.lookup (vm_own 66, 9) = some (1, 67, 2, 1003, 1004, 0, 16) := vm_lk (by decide +kernel)
theorem r66 : vm_rt 66 = (some .int) := by decide +kernel
theorem B_Ra_taken_0 {X : vX} {d : Nat} {M : vM} {Q : Option vV → vM → Prop} {l0 l1 l2 l3 : Int}  (k : vw X d 66 12 [vI l0, vI l1, vI l2, vI l3, vI 0, vI 0, vI 0, vI 0, vN, vN, vN] [] M Q) : vw X d 66 0 [vI l0, vI l1, vI l2, vI l3, vN, vN, vN, vN, vN, vN, vN] [] M Q := by
  refine w_ic (v := 0) d66_0 rfl ?_
  refine w_istoreE (ls' := [vI l0, vI l1, vI l2, vI l3, vI 0, vN, vN, vN, vN, vN, vN]) d66_1 (Nat.le_of_ble_eq_true rfl) rfl ?_
  refine w_ic (v := 0) d66_3 rfl ?_
  refine w_istoreE (ls' := [vI l0, vI l1, vI l2, vI l3, vI 0, vI 0, vN, vN, vN, vN, vN]) d66_4 (Nat.le_of_ble_eq_true rfl) rfl ?_
  refine w_ic (v := 0) d66_6 rfl ?_
  refine w_istoreE (ls' := [vI l0, vI l1, vI l2, vI l3, vI 0, vI 0, vI 0, vN, vN, vN, vN]) d66_7 (Nat.le_of_ble_eq_true rfl) rfl ?_
  refine w_ic (v := 0) d66_9 rfl ?_
  refine w_istoreE (ls' := [vI l0, vI l1, vI l2, vI l3, vI 0, vI 0, vI 0, vI 0, vN, vN, vN]) d66_10 (Nat.le_of_ble_eq_true rfl) rfl ?_
  exact k
theorem B_Ra_taken_12 {X : vX} {d : Nat} {M : vM} {Q : Option vV → vM → Prop} {l0 l1 l2 l3 l4 l5 l6 l7 : Int} {w8 w9 w10 : vV}  (k1 : 19 < l7 → vw X d 66 112 [vI l0, vI l1, vI l2, vI l3, vI l4, vI l5, vI l6, vI l7, w8, w9, w10] [] M Q) (k2 : l7 ≤ 19 → vw X d 66 19 [vI l0, vI l1, vI l2, vI l3, vI l4, vI l5, vI l6, vI l7, w8, w9, w10] [] M Q) : vw X d 66 12 [vI l0, vI l1, vI l2, vI l3, vI l4, vI l5, vI l6, vI l7, w8, w9, w10] [] M Q := by
  refine w_iload d66_12 rfl ?_
  refine w_bi (v := 19) d66_14 rfl ?_
  exact w_icmp_gt d66_16 rfl (fun h => k1 h) (fun h => k2 h)
theorem B_Ra_taken_19 {X : vX} {d : Nat} {M : vM} {Q : Option vV → vM → Prop} {l0 l1 l2 l3 l4 l5 l6 l7 : Int} {w8 w9 w10 : vV}  (k : cq X d 67 [vI l0, vI l7] M (fun r M1 => wp X d 66 29 [vI l0, vI l1, vI l2, vI l3, vI l4, vI l5, vI l6, vI l7, w8, w9, w10] (r.toList ++ [vI (w32 (l1 * l7))]) (vS0, M1) (vP Q))) : vw X d 66 19 [vI l0, vI l1, vI l2, vI l3, vI l4, vI l5, vI l6, vI l7, w8, w9, w10] [] M Q := by
  refine w_iload_n d66_19 rfl ?_
  refine w_iload d66_20 rfl ?_
  refine w_imul d66_22 ?_
  refine w_iload_n d66_23 rfl ?_
  refine w_iload d66_24 rfl ?_
  exact w_inv1 d66_26 c66_9 (by decide) rfl (Nat.le_of_ble_eq_true rfl) (cq.cl (k))
theorem B_Ra_taken_29 {X : vX} {d : Nat} {M : vM} {Q : Option vV → vM → Prop} {l0 l1 l2 l3 l4 l5 l6 l7 s0 s1 : Int} {w8 w9 w10 : vV}  (k1 : (w32 (s0 - s1)) ≤ l6 → vw X d 66 50 [vI l0, vI l1, vI l2, vI l3, vI l4, vI l5, vI l6, vI l7, vI (w32 (s0 - s1)), w9, w10] [] M Q) (k2 : l6 < (w32 (s0 - s1)) → vw X d 66 39 [vI l0, vI l1, vI l2, vI l3, vI l4, vI l5, vI l6, vI l7, vI (w32 (s0 - s1)), w9, w10] [] M Q) : vw X d 66 29 [vI l0, vI l1, vI l2, vI l3, vI l4, vI l5, vI l6, vI l7, w8, w9, w10] [vI s1, vI s0] M Q := by
  refine w_isub d66_29 ?_
  refine w_istoreE (ls' := [vI l0, vI l1, vI l2, vI l3, vI l4, vI l5, vI l6, vI l7, vI (w32 (s0 - s1)), w9, w10]) d66_30 (Nat.le_of_ble_eq_true rfl) rfl ?_
  refine w_iload d66_32 rfl ?_
  refine w_iload d66_34 rfl ?_
  exact w_icmp_le d66_36 rfl (fun h => k1 h) (fun h => k2 h)
theorem B_Ra_taken_39 {X : vX} {d : Nat} {M : vM} {Q : Option vV → vM → Prop} {l0 l1 l2 l3 l4 l5 l6 l7 l8 : Int} {w9 w10 : vV}  (k : vw X d 66 53 [vI l0, vI l1, vI l2, vI l3, vI l7, vI 0, vI l8, vI l7, vI l8, vI 0, w10] [] M Q) : vw X d 66 39 [vI l0, vI l1, vI l2, vI l3, vI l4, vI l5, vI l6, vI l7, vI l8, w9, w10] [] M Q := by
  refine w_iload d66_39 rfl ?_
  refine w_istoreE (ls' := [vI l0, vI l1, vI l2, vI l3, vI l7, vI l5, vI l6, vI l7, vI l8, w9, w10]) d66_41 (Nat.le_of_ble_eq_true rfl) rfl ?_
  refine w_ic (v := 0) d66_43 rfl ?_
  refine w_istoreE (ls' := [vI l0, vI l1, vI l2, vI l3, vI l7, vI 0, vI l6, vI l7, vI l8, w9, w10]) d66_44 (Nat.le_of_ble_eq_true rfl) rfl ?_
  refine w_iload d66_46 rfl ?_
  refine w_istoreE (ls' := [vI l0, vI l1, vI l2, vI l3, vI l7, vI 0, vI l8, vI l7, vI l8, w9, w10]) d66_48 (Nat.le_of_ble_eq_true rfl) rfl ?_
  refine w_ic (v := 0) d66_50 rfl ?_
  refine w_istoreE (ls' := [vI l0, vI l1, vI l2, vI l3, vI l7, vI 0, vI l8, vI l7, vI l8, vI 0, w10]) d66_51 (Nat.le_of_ble_eq_true rfl) rfl ?_
  exact k
theorem B_Ra_taken_50 {X : vX} {d : Nat} {M : vM} {Q : Option vV → vM → Prop} {l0 l1 l2 l3 l4 l5 l6 l7 l8 : Int} {w9 w10 : vV}  (k : vw X d 66 53 [vI l0, vI l1, vI l2, vI l3, vI l4, vI l5, vI l6, vI l7, vI l8, vI 0, w10] [] M Q) : vw X d 66 50 [vI l0, vI l1, vI l2, vI l3, vI l4, vI l5, vI l6, vI l7, vI l8, w9, w10] [] M Q := by
  refine w_ic (v := 0) d66_50 rfl ?_
  refine w_istoreE (ls' := [vI l0, vI l1, vI l2, vI l3, vI l4, vI l5, vI l6, vI l7, vI l8, vI 0, w10]) d66_51 (Nat.le_of_ble_eq_true rfl) rfl ?_
  exact k
theorem B_Ra_taken_53 {X : vX} {d : Nat} {M : vM} {Q : Option vV → vM → Prop} {l0 l1 l2 l3 l4 l5 l6 l7 l8 l9 : Int} {w10 : vV}  (k1 : 19 < l9 → vw X d 66 106 [vI l0, vI l1, vI l2, vI l3, vI l4, vI l5, vI l6, vI l7, vI l8, vI l9, w10] [] M Q) (k2 : l9 ≤ 19 → vw X d 66 60 [vI l0, vI l1, vI l2, vI l3, vI l4, vI l5, vI l6, vI l7, vI l8, vI l9, w10] [] M Q) : vw X d 66 53 [vI l0, vI l1, vI l2, vI l3, vI l4, vI l5, vI l6, vI l7, vI l8, vI l9, w10] [] M Q := by
  refine w_iload d66_53 rfl ?_
  refine w_bi (v := 19) d66_55 rfl ?_
  exact w_icmp_gt d66_57 rfl (fun h => k1 h) (fun h => k2 h)
theorem B_Ra_taken_60 {X : vX} {d : Nat} {M : vM} {Q : Option vV → vM → Prop} {l0 l1 l2 l3 l4 l5 l6 l7 l8 l9 : Int} {w10 : vV}  (k : cq X d 67 [vI l0, vI l9] M (fun r M1 => wp X d 66 78 [vI l0, vI l1, vI l2, vI l3, vI l4, vI l5, vI l6, vI l7, vI l8, vI l9, w10] (r.toList ++ [vI (w32 (l8 + (w32 (l1 * (w32 ((w32 (l9 - l7)) - l2))))))]) (vS0, M1) (vP Q))) : vw X d 66 60 [vI l0, vI l1, vI l2, vI l3, vI l4, vI l5, vI l6, vI l7, vI l8, vI l9, w10] [] M Q := by
  refine w_iload d66_60 rfl ?_
  refine w_iload_n d66_62 rfl ?_
  refine w_iload d66_63 rfl ?_
  refine w_iload d66_65 rfl ?_
  refine w_isub d66_67 ?_
  refine w_iload_n d66_68 rfl ?_
  refine w_isub d66_69 ?_
  refine w_imul d66_70 ?_
  refine w_iadd d66_71 ?_
  refine w_iload_n d66_72 rfl ?_
  refine w_iload d66_73 rfl ?_
  exact w_inv1 d66_75 c66_9 (by decide) rfl (Nat.le_of_ble_eq_true rfl) (cq.cl (k))
theorem B_Ra_taken_78 {X : vX} {d : Nat} {M : vM} {Q : Option vV → vM → Prop} {l0 l1 l2 l3 l4 l5 l6 l7 l8 l9 s0 s1 : Int} {w10 : vV}  (k1 : (w32 (s0 - s1)) ≤ l6 → vw X d 66 100 [vI l0, vI l1, vI l2, vI l3, vI l4, vI l5, vI l6, vI l7, vI l8, vI l9, vI (w32 (s0 - s1))] [] M Q) (k2 : l6 < (w32 (s0 - s1)) → vw X d 66 88 [vI l0, vI l1, vI l2, vI l3, vI l4, vI l5, vI l6, vI l7, vI l8, vI l9, vI (w32 (s0 - s1))] [] M Q) : vw X d 66 78 [vI l0, vI l1, vI l2, vI l3, vI l4, vI l5, vI l6, vI l7, vI l8, vI l9, w10] [vI s1, vI s0] M Q := by
  refine w_isub d66_78 ?_
  refine w_istoreE (ls' := [vI l0, vI l1, vI l2, vI l3, vI l4, vI l5, vI l6, vI l7, vI l8, vI l9, vI (w32 (s0 - s1))]) d66_79 (Nat.le_of_ble_eq_true rfl) rfl ?_
  refine w_iload d66_81 rfl ?_
  refine w_iload d66_83 rfl ?_
  exact w_icmp_le d66_85 rfl (fun h => k1 h) (fun h => k2 h)
theorem B_Ra_taken_88 {X : vX} {d : Nat} {M : vM} {Q : Option vV → vM → Prop} {l0 l1 l2 l3 l4 l5 l6 l7 l8 l9 l10 : Int}  (k : vw X d 66 53 [vI l0, vI l1, vI l2, vI l3, vI l7, vI l9, vI l10, vI l7, vI l8, vI (w32 (l9 + 1)), vI l10] [] M Q) : vw X d 66 88 [vI l0, vI l1, vI l2, vI l3, vI l4, vI l5, vI l6, vI l7, vI l8, vI l9, vI l10] [] M Q := by
  refine w_iload d66_88 rfl ?_
  refine w_istoreE (ls' := [vI l0, vI l1, vI l2, vI l3, vI l7, vI l5, vI l6, vI l7, vI l8, vI l9, vI l10]) d66_90 (Nat.le_of_ble_eq_true rfl) rfl ?_
  refine w_iload d66_92 rfl ?_
  refine w_istoreE (ls' := [vI l0, vI l1, vI l2, vI l3, vI l7, vI l9, vI l6, vI l7, vI l8, vI l9, vI l10]) d66_94 (Nat.le_of_ble_eq_true rfl) rfl ?_
  refine w_iload d66_96 rfl ?_
  refine w_istoreE (ls' := [vI l0, vI l1, vI l2, vI l3, vI l7, vI l9, vI l10, vI l7, vI l8, vI l9, vI l10]) d66_98 (Nat.le_of_ble_eq_true rfl) rfl ?_
  refine w_iincE (ls' := [vI l0, vI l1, vI l2, vI l3, vI l7, vI l9, vI l10, vI l7, vI l8, vI (w32 (l9 + 1)), vI l10]) d66_100 rfl rfl ?_
  refine w_goto (tgt := 53) d66_103 rfl ?_
  exact k
theorem B_Ra_taken_100 {X : vX} {d : Nat} {M : vM} {Q : Option vV → vM → Prop} {l0 l1 l2 l3 l4 l5 l6 l7 l8 l9 l10 : Int}  (k : vw X d 66 53 [vI l0, vI l1, vI l2, vI l3, vI l4, vI l5, vI l6, vI l7, vI l8, vI (w32 (l9 + 1)), vI l10] [] M Q) : vw X d 66 100 [vI l0, vI l1, vI l2, vI l3, vI l4, vI l5, vI l6, vI l7, vI l8, vI l9, vI l10] [] M Q := by
  refine w_iincE (ls' := [vI l0, vI l1, vI l2, vI l3, vI l4, vI l5, vI l6, vI l7, vI l8, vI (w32 (l9 + 1)), vI l10]) d66_100 rfl rfl ?_
  refine w_goto (tgt := 53) d66_103 rfl ?_
  exact k
theorem B_Ra_taken_106 {X : vX} {d : Nat} {M : vM} {Q : Option vV → vM → Prop} {l0 l1 l2 l3 l4 l5 l6 l7 l8 l9 : Int} {w10 : vV}  (k : vw X d 66 12 [vI l0, vI l1, vI l2, vI l3, vI l4, vI l5, vI l6, vI (w32 (l7 + 1)), vI l8, vI l9, w10] [] M Q) : vw X d 66 106 [vI l0, vI l1, vI l2, vI l3, vI l4, vI l5, vI l6, vI l7, vI l8, vI l9, w10] [] M Q := by
  refine w_iincE (ls' := [vI l0, vI l1, vI l2, vI l3, vI l4, vI l5, vI l6, vI (w32 (l7 + 1)), vI l8, vI l9, w10]) d66_106 rfl rfl ?_
  refine w_goto (tgt := 12) d66_109 rfl ?_
  exact k
theorem B_Ra_taken_112 {X : vX} {d : Nat} {M : vM} {Q : Option vV → vM → Prop} {l0 l1 l2 l3 l4 l5 l6 l7 : Int} {w8 w9 w10 : vV}  (k1 : ¬ l3 = 0 → vw X d 66 121 [vI l0, vI l1, vI l2, vI l3, vI l4, vI l5, vI l6, vI l7, w8, w9, w10] [] M Q) (k2 : l3 = 0 → vw X d 66 116 [vI l0, vI l1, vI l2, vI l3, vI l4, vI l5, vI l6, vI l7, w8, w9, w10] [] M Q) : vw X d 66 112 [vI l0, vI l1, vI l2, vI l3, vI l4, vI l5, vI l6, vI l7, w8, w9, w10] [] M Q := by
  refine w_iload_n d66_112 rfl ?_
  exact w_if_ne d66_113 rfl (fun h => k1 h) (fun h => k2 h)
theorem B_Ra_taken_116 {X : vX} {d : Nat} {M : vM} {Q : Option vV → vM → Prop} {l0 l1 l2 l3 l4 l5 l6 l7 : Int} {w8 w9 w10 : vV}  (k : Q (some (vI l4)) M) : vw X d 66 116 [vI l0, vI l1, vI l2, vI l3, vI l4, vI l5, vI l6, vI l7, w8, w9, w10] [] M Q := by
  refine w_iload d66_116 rfl ?_
  refine w_goto (tgt := 133) d66_118 rfl ?_
  exact w_iret d66_133 r66 ⟨_, rfl, k⟩
theorem B_Ra_taken_121 {X : vX} {d : Nat} {M : vM} {Q : Option vV → vM → Prop} {l0 l1 l2 l3 l4 l5 l6 l7 : Int} {w8 w9 w10 : vV}  (k1 : ¬ l3 = 1 → vw X d 66 131 [vI l0, vI l1, vI l2, vI l3, vI l4, vI l5, vI l6, vI l7, w8, w9, w10] [] M Q) (k2 : l3 = 1 → vw X d 66 126 [vI l0, vI l1, vI l2, vI l3, vI l4, vI l5, vI l6, vI l7, w8, w9, w10] [] M Q) : vw X d 66 121 [vI l0, vI l1, vI l2, vI l3, vI l4, vI l5, vI l6, vI l7, w8, w9, w10] [] M Q := by
  refine w_iload_n d66_121 rfl ?_
  refine w_ic (v := 1) d66_122 rfl ?_
  exact w_icmp_ne d66_123 rfl (fun h => k1 h) (fun h => k2 h)
theorem B_Ra_taken_126 {X : vX} {d : Nat} {M : vM} {Q : Option vV → vM → Prop} {l0 l1 l2 l3 l4 l5 l6 l7 : Int} {w8 w9 w10 : vV}  (k : Q (some (vI l5)) M) : vw X d 66 126 [vI l0, vI l1, vI l2, vI l3, vI l4, vI l5, vI l6, vI l7, w8, w9, w10] [] M Q := by
  refine w_iload d66_126 rfl ?_
  refine w_goto (tgt := 133) d66_128 rfl ?_
  exact w_iret d66_133 r66 ⟨_, rfl, k⟩
theorem B_Ra_taken_131 {X : vX} {d : Nat} {M : vM} {Q : Option vV → vM → Prop} {l0 l1 l2 l3 l4 l5 l6 l7 : Int} {w8 w9 w10 : vV}  (k : Q (some (vI l6)) M) : vw X d 66 131 [vI l0, vI l1, vI l2, vI l3, vI l4, vI l5, vI l6, vI l7, w8, w9, w10] [] M Q := by
  refine w_iload d66_131 rfl ?_
  exact w_iret d66_133 r66 ⟨_, rfl, k⟩
theorem E_Ra_taken {X : vX} {d : Nat} {M : vM} {Q : Option vV → vM → Prop} {l0 l1 l2 l3 : Int} (k : vw X d 66 0 [vI l0, vI l1, vI l2, vI l3, vN, vN, vN, vN, vN, vN, vN] [] M Q) : cq X (d + 1) 66 [vI l0, vI l1, vI l2, vI l3] M Q := wc_in (Nat.le_of_ble_eq_true rfl) (Nat.le_of_ble_eq_true rfl) k
theorem cd67 : vm_cd 67 = cX5_toil := rfl
theorem d67_0 : decode (vm_cd 67) 0 = .ok (.iload_n 0, 1) := (congrArg (fun b => decode b 0) cd67).trans (by decide +kernel)
theorem d67_1 : decode (vm_cd 67) 1 = .ok (.iconst 1, 1) := (congrArg (fun b => decode b 1) cd67).trans (by decide +kernel)
theorem d67_2 : decode (vm_cd 67) 2 = .ok (.iadd, 1) := (congrArg (fun b => decode b 2) cd67).trans (by decide +kernel)
theorem d67_3 : decode (vm_cd 67) 3 = .ok (.iload_n 1, 1) := (congrArg (fun b => decode b 3) cd67).trans (by decide +kernel)
theorem d67_4 : decode (vm_cd 67) 4 = .ok (.imul, 1) := (congrArg (fun b => decode b 4) cd67).trans (by decide +kernel)
theorem d67_5 : decode (vm_cd 67) 5 = .ok (.iload_n 1, 1) := (congrArg (fun b => decode b 5) cd67).trans (by decide +kernel)
theorem d67_6 : decode (vm_cd 67) 6 = .ok (.imul, 1) := (congrArg (fun b => decode b 6) cd67).trans (by decide +kernel)
theorem d67_7 : decode (vm_cd 67) 7 = .ok (.ireturn, 1) := (congrArg (fun b => decode b 7) cd67).trans (by decide +kernel)
theorem r67 : vm_rt 67 = (some .int) := by decide +kernel
theorem B_Ra_toil_0 {X : vX} {d : Nat} {M : vM} {Q : Option vV → vM → Prop} {l0 l1 : Int}  (k : Q (some (vI (w32 ((w32 ((w32 (l0 + 1)) * l1)) * l1)))) M) : vw X d 67 0 [vI l0, vI l1] [] M Q := by
  refine w_iload_n d67_0 rfl ?_
  refine w_ic (v := 1) d67_1 rfl ?_
  refine w_iadd d67_2 ?_
  refine w_iload_n d67_3 rfl ?_
  refine w_imul d67_4 ?_
  refine w_iload_n d67_5 rfl ?_
  refine w_imul d67_6 ?_
  exact w_iret d67_7 r67 ⟨_, rfl, k⟩
theorem E_Ra_toil {X : vX} {d : Nat} {M : vM} {Q : Option vV → vM → Prop} {l0 l1 : Int} (k : vw X d 67 0 [vI l0, vI l1] [] M Q) : cq X (d + 1) 67 [vI l0, vI l1] M Q := wc_in (Nat.le_of_ble_eq_true rfl) (Nat.le_of_ble_eq_true rfl) k
theorem cd99 : vm_cd 99 = cX8_digitAt := rfl
theorem d99_0 : decode (vm_cd 99) 0 = .ok (.iload_n 0, 1) := (congrArg (fun b => decode b 0) cd99).trans (by decide +kernel)
theorem d99_1 : decode (vm_cd 99) 1 = .ok (.bipush 7, 2) := (congrArg (fun b => decode b 1) cd99).trans (by decide +kernel)
theorem d99_3 : decode (vm_cd 99) 3 = .ok (.iload_n 1, 1) := (congrArg (fun b => decode b 3) cd99).trans (by decide +kernel)
theorem d99_4 : decode (vm_cd 99) 4 = .ok (.imul, 1) := (congrArg (fun b => decode b 4) cd99).trans (by decide +kernel)
theorem d99_5 : decode (vm_cd 99) 5 = .ok (.iushr, 1) := (congrArg (fun b => decode b 5) cd99).trans (by decide +kernel)
theorem d99_6 : decode (vm_cd 99) 6 = .ok (.bipush 127, 2) := (congrArg (fun b => decode b 6) cd99).trans (by decide +kernel)
theorem d99_8 : decode (vm_cd 99) 8 = .ok (.iand, 1) := (congrArg (fun b => decode b 8) cd99).trans (by decide +kernel)
theorem d99_9 : decode (vm_cd 99) 9 = .ok (.ireturn, 1) := (congrArg (fun b => decode b 9) cd99).trans (by decide +kernel)
theorem r99 : vm_rt 99 = (some .int) := by decide +kernel
theorem B_Te_digitAt_0 {X : vX} {d : Nat} {M : vM} {Q : Option vV → vM → Prop} {l0 l1 : Int}  (k : Q (some (vI (j_iand (j_iushr l0 (w32 (7 * l1))) 127))) M) : vw X d 99 0 [vI l0, vI l1] [] M Q := by
  refine w_iload_n d99_0 rfl ?_
  refine w_bi (v := 7) d99_1 rfl ?_
  refine w_iload_n d99_3 rfl ?_
  refine w_imul d99_4 ?_
  refine w_iushr d99_5 ?_
  refine w_bi (v := 127) d99_6 rfl ?_
  refine w_iand d99_8 ?_
  exact w_iret d99_9 r99 ⟨_, rfl, k⟩
theorem E_Te_digitAt {X : vX} {d : Nat} {M : vM} {Q : Option vV → vM → Prop} {l0 l1 : Int} (k : vw X d 99 0 [vI l0, vI l1] [] M Q) : cq X (d + 1) 99 [vI l0, vI l1] M Q := wc_in (Nat.le_of_ble_eq_true rfl) (Nat.le_of_ble_eq_true rfl) k
theorem cd100 : vm_cd 100 = cX8_hasMoreDigits := rfl
theorem d100_0 : decode (vm_cd 100) 0 = .ok (.iload_n 1, 1) := (congrArg (fun b => decode b 0) cd100).trans (by decide +kernel)
theorem d100_1 : decode (vm_cd 100) 1 = .ok (.bipush 7, 2) := (congrArg (fun b => decode b 1) cd100).trans (by decide +kernel)
theorem d100_3 : decode (vm_cd 100) 3 = .ok (.iload_n 0, 1) := (congrArg (fun b => decode b 3) cd100).trans (by decide +kernel)
theorem d100_4 : decode (vm_cd 100) 4 = .ok (.imul, 1) := (congrArg (fun b => decode b 4) cd100).trans (by decide +kernel)
theorem d100_5 : decode (vm_cd 100) 5 = .ok (.iushr, 1) := (congrArg (fun b => decode b 5) cd100).trans (by decide +kernel)
theorem d100_6 : decode (vm_cd 100) 6 = .ok (.ifCond .eq 7, 3) := (congrArg (fun b => decode b 6) cd100).trans (by decide +kernel)
theorem d100_9 : decode (vm_cd 100) 9 = .ok (.iconst 1, 1) := (congrArg (fun b => decode b 9) cd100).trans (by decide +kernel)
theorem d100_10 : decode (vm_cd 100) 10 = .ok (.goto 4, 3) := (congrArg (fun b => decode b 10) cd100).trans (by decide +kernel)
theorem d100_13 : decode (vm_cd 100) 13 = .ok (.iconst 0, 1) := (congrArg (fun b => decode b 13) cd100).trans (by decide +kernel)
theorem d100_14 : decode (vm_cd 100) 14 = .ok (.ireturn, 1) := (congrArg (fun b => decode b 14) cd100).trans (by decide +kernel)
theorem r100 : vm_rt 100 = (some .boolean) := by decide +kernel
theorem B_Te_hasMoreDigits_0 {X : vX} {d : Nat} {M : vM} {Q : Option vV → vM → Prop} {l0 l1 : Int}  (k1 : (j_iushr l1 (w32 (7 * l0))) = 0 → vw X d 100 13 [vI l0, vI l1] [] M Q) (k2 : ¬ (j_iushr l1 (w32 (7 * l0))) = 0 → vw X d 100 9 [vI l0, vI l1] [] M Q) : vw X d 100 0 [vI l0, vI l1] [] M Q := by
  refine w_iload_n d100_0 rfl ?_
  refine w_bi (v := 7) d100_1 rfl ?_
  refine w_iload_n d100_3 rfl ?_
  refine w_imul d100_4 ?_
  refine w_iushr d100_5 ?_
  exact w_if_eq d100_6 rfl (fun h => k1 h) (fun h => k2 h)
theorem B_Te_hasMoreDigits_9 {X : vX} {d : Nat} {M : vM} {Q : Option vV → vM → Prop} {l0 l1 : Int}  (k : Q (some (vI 1)) M) : vw X d 100 9 [vI l0, vI l1] [] M Q := by
  refine w_ic (v := 1) d100_9 rfl ?_
  refine w_goto (tgt := 14) d100_10 rfl ?_
  exact w_zret d100_14 r100 (by decide) ⟨_, rfl, k⟩
theorem B_Te_hasMoreDigits_13 {X : vX} {d : Nat} {M : vM} {Q : Option vV → vM → Prop} {l0 l1 : Int}  (k : Q (some (vI 0)) M) : vw X d 100 13 [vI l0, vI l1] [] M Q := by
  refine w_ic (v := 0) d100_13 rfl ?_
  exact w_zret d100_14 r100 (by decide) ⟨_, rfl, k⟩
theorem E_Te_hasMoreDigits {X : vX} {d : Nat} {M : vM} {Q : Option vV → vM → Prop} {l0 l1 : Int} (k : vw X d 100 0 [vI l0, vI l1] [] M Q) : cq X (d + 1) 100 [vI l0, vI l1] M Q := wc_in (Nat.le_of_ble_eq_true rfl) (Nat.le_of_ble_eq_true rfl) k
theorem cd101 : vm_cd 101 = cX8_areCosts := rfl
theorem d101_0 : decode (vm_cd 101) 0 = .ok (.iconst 0, 1) := (congrArg (fun b => decode b 0) cd101).trans (by decide +kernel)
theorem d101_1 : decode (vm_cd 101) 1 = .ok (.istore_n 2, 1) := (congrArg (fun b => decode b 1) cd101).trans (by decide +kernel)
theorem d101_2 : decode (vm_cd 101) 2 = .ok (.iload_n 2, 1) := (congrArg (fun b => decode b 2) cd101).trans (by decide +kernel)
theorem d101_3 : decode (vm_cd 101) 3 = .ok (.iload_n 0, 1) := (congrArg (fun b => decode b 3) cd101).trans (by decide +kernel)
theorem d101_4 : decode (vm_cd 101) 4 = .ok (.if_icmp .ge 21, 3) := (congrArg (fun b => decode b 4) cd101).trans (by decide +kernel)
theorem d101_7 : decode (vm_cd 101) 7 = .ok (.iload_n 1, 1) := (congrArg (fun b => decode b 7) cd101).trans (by decide +kernel)
theorem d101_8 : decode (vm_cd 101) 8 = .ok (.iload_n 2, 1) := (congrArg (fun b => decode b 8) cd101).trans (by decide +kernel)
theorem d101_9 : decode (vm_cd 101) 9 = .ok (.invokestatic 25, 3) := (congrArg (fun b => decode b 9) cd101).trans (by decide +kernel)
theorem d101_12 : decode (vm_cd 101) 12 = .ok (.bipush 99, 2) := (congrArg (fun b => decode b 12) cd101).trans (by decide +kernel)
theorem d101_14 : decode (vm_cd 101) 14 = .ok (.if_icmp .le 5, 3) := (congrArg (fun b => decode b 14) cd101).trans (by decide +kernel)
theorem d101_17 : decode (vm_cd 101) 17 = .ok (.iconst 0, 1) := (congrArg (fun b => decode b 17) cd101).trans (by decide +kernel)
theorem d101_18 : decode (vm_cd 101) 18 = .ok (.ireturn, 1) := (congrArg (fun b => decode b 18) cd101).trans (by decide +kernel)
theorem d101_19 : decode (vm_cd 101) 19 = .ok (.iinc 2 1, 3) := (congrArg (fun b => decode b 19) cd101).trans (by decide +kernel)
theorem d101_22 : decode (vm_cd 101) 22 = .ok (.goto (-20), 3) := (congrArg (fun b => decode b 22) cd101).trans (by decide +kernel)
theorem d101_25 : decode (vm_cd 101) 25 = .ok (.iload_n 0, 1) := (congrArg (fun b => decode b 25) cd101).trans (by decide +kernel)
theorem d101_26 : decode (vm_cd 101) 26 = .ok (.iload_n 1, 1) := (congrArg (fun b => decode b 26) cd101).trans (by decide +kernel)
theorem d101_27 : decode (vm_cd 101) 27 = .ok (.invokestatic 29, 3) := (congrArg (fun b => decode b 27) cd101).trans (by decide +kernel)
theorem d101_30 : decode (vm_cd 101) 30 = .ok (.ifCond .ne 7, 3) := (congrArg (fun b => decode b 30) cd101).trans (by decide +kernel)
theorem d101_33 : decode (vm_cd 101) 33 = .ok (.iconst 1, 1) := (congrArg (fun b => decode b 33) cd101).trans (by decide +kernel)
theorem d101_34 : decode (vm_cd 101) 34 = .ok (.goto 4, 3) := (congrArg (fun b => decode b 34) cd101).trans (by decide +kernel)
theorem d101_37 : decode (vm_cd 101) 37 = .ok (.iconst 0, 1) := (congrArg (fun b => decode b 37) cd101).trans (by decide +kernel)
theorem d101_38 : decode (vm_cd 101) 38 = .ok (.ireturn, 1) := (congrArg (fun b => decode b 38) cd101).trans (by decide +kernel)
theorem c101_25 : vm_ml.lookup (vm_own 101, 25) = some (1, 99, 2, 638, 639, 0, 7) := vm_lk (by decide +kernel)
theorem c101_29 : vm_ml.lookup (vm_own 101, 29) = some (1, 100, 2, 641, 642, 0, 7) := vm_lk (by decide +kernel)
theorem r101 : vm_rt 101 = (some .boolean) := by decide +kernel
theorem B_Te_areCosts_0 {X : vX} {d : Nat} {M : vM} {Q : Option vV → vM → Prop} {l0 l1 : Int}  (k : vw X d 101 2 [vI l0, vI l1, vI 0] [] M Q) : vw X d 101 0 [vI l0, vI l1, vN] [] M Q := by
  refine w_ic (v := 0) d101_0 rfl ?_
  refine w_istore_nE (ls' := [vI l0, vI l1, vI 0]) d101_1 (Nat.le_of_ble_eq_true rfl) rfl ?_
  exact k
theorem B_Te_areCosts_2 {X : vX} {d : Nat} {M : vM} {Q : Option vV → vM → Prop} {l0 l1 l2 : Int}  (k1 : l0 ≤ l2 → vw X d 101 25 [vI l0, vI l1, vI l2] [] M Q) (k2 : l2 < l0 → vw X d 101 7 [vI l0, vI l1, vI l2] [] M Q) : vw X d 101 2 [vI l0, vI l1, vI l2] [] M Q := by
  refine w_iload_n d101_2 rfl ?_
  refine w_iload_n d101_3 rfl ?_
  exact w_icmp_ge d101_4 rfl (fun h => k1 h) (fun h => k2 h)
theorem B_Te_areCosts_7 {X : vX} {d : Nat} {M : vM} {Q : Option vV → vM → Prop} {l0 l1 l2 : Int}  (k : cq X d 99 [vI l1, vI l2] M (fun r M1 => wp X d 101 12 [vI l0, vI l1, vI l2] (r.toList ++ []) (vS0, M1) (vP Q))) : vw X d 101 7 [vI l0, vI l1, vI l2] [] M Q := by
  refine w_iload_n d101_7 rfl ?_
  refine w_iload_n d101_8 rfl ?_
  exact w_inv1 d101_9 c101_25 (by decide) rfl (Nat.le_of_ble_eq_true rfl) (cq.cl (k))
theorem B_Te_areCosts_12 {X : vX} {d : Nat} {M : vM} {Q : Option vV → vM → Prop} {l0 l1 l2 s0 : Int}  (k1 : s0 ≤ 99 → vw X d 101 19 [vI l0, vI l1, vI l2] [] M Q) (k2 : 99 < s0 → vw X d 101 17 [vI l0, vI l1, vI l2] [] M Q) : vw X d 101 12 [vI l0, vI l1, vI l2] [vI s0] M Q := by
  refine w_bi (v := 99) d101_12 rfl ?_
  exact w_icmp_le d101_14 rfl (fun h => k1 h) (fun h => k2 h)
theorem B_Te_areCosts_17 {X : vX} {d : Nat} {M : vM} {Q : Option vV → vM → Prop} {l0 l1 l2 : Int}  (k : Q (some (vI 0)) M) : vw X d 101 17 [vI l0, vI l1, vI l2] [] M Q := by
  refine w_ic (v := 0) d101_17 rfl ?_
  exact w_zret d101_18 r101 (by decide) ⟨_, rfl, k⟩
theorem B_Te_areCosts_19 {X : vX} {d : Nat} {M : vM} {Q : Option vV → vM → Prop} {l0 l1 l2 : Int}  (k : vw X d 101 2 [vI l0, vI l1, vI (w32 (l2 + 1))] [] M Q) : vw X d 101 19 [vI l0, vI l1, vI l2] [] M Q := by
  refine w_iincE (ls' := [vI l0, vI l1, vI (w32 (l2 + 1))]) d101_19 rfl rfl ?_
  refine w_goto (tgt := 2) d101_22 rfl ?_
  exact k
theorem B_Te_areCosts_25 {X : vX} {d : Nat} {M : vM} {Q : Option vV → vM → Prop} {l0 l1 l2 : Int}  (k : cq X d 100 [vI l0, vI l1] M (fun r M1 => wp X d 101 30 [vI l0, vI l1, vI l2] (r.toList ++ []) (vS0, M1) (vP Q))) : vw X d 101 25 [vI l0, vI l1, vI l2] [] M Q := by
  refine w_iload_n d101_25 rfl ?_
  refine w_iload_n d101_26 rfl ?_
  exact w_inv1 d101_27 c101_29 (by decide) rfl (Nat.le_of_ble_eq_true rfl) (cq.cl (k))
theorem B_Te_areCosts_30 {X : vX} {d : Nat} {M : vM} {Q : Option vV → vM → Prop} {l0 l1 l2 s0 : Int}  (k1 : ¬ s0 = 0 → vw X d 101 37 [vI l0, vI l1, vI l2] [] M Q) (k2 : s0 = 0 → vw X d 101 33 [vI l0, vI l1, vI l2] [] M Q) : vw X d 101 30 [vI l0, vI l1, vI l2] [vI s0] M Q := by
  exact w_if_ne d101_30 rfl (fun h => k1 h) (fun h => k2 h)
theorem B_Te_areCosts_33 {X : vX} {d : Nat} {M : vM} {Q : Option vV → vM → Prop} {l0 l1 l2 : Int}  (k : Q (some (vI 1)) M) : vw X d 101 33 [vI l0, vI l1, vI l2] [] M Q := by
  refine w_ic (v := 1) d101_33 rfl ?_
  refine w_goto (tgt := 38) d101_34 rfl ?_
  exact w_zret d101_38 r101 (by decide) ⟨_, rfl, k⟩
theorem B_Te_areCosts_37 {X : vX} {d : Nat} {M : vM} {Q : Option vV → vM → Prop} {l0 l1 l2 : Int}  (k : Q (some (vI 0)) M) : vw X d 101 37 [vI l0, vI l1, vI l2] [] M Q := by
  refine w_ic (v := 0) d101_37 rfl ?_
  exact w_zret d101_38 r101 (by decide) ⟨_, rfl, k⟩
theorem E_Te_areCosts {X : vX} {d : Nat} {M : vM} {Q : Option vV → vM → Prop} {l0 l1 : Int} (k : vw X d 101 0 [vI l0, vI l1, vN] [] M Q) : cq X (d + 1) 101 [vI l0, vI l1] M Q := wc_in (Nat.le_of_ble_eq_true rfl) (Nat.le_of_ble_eq_true rfl) k
theorem cd102 : vm_cd 102 = cX8_areShares := rfl
theorem d102_0 : decode (vm_cd 102) 0 = .ok (.iconst 0, 1) := (congrArg (fun b => decode b 0) cd102).trans (by decide +kernel)
theorem d102_1 : decode (vm_cd 102) 1 = .ok (.istore_n 2, 1) := (congrArg (fun b => decode b 1) cd102).trans (by decide +kernel)
theorem d102_2 : decode (vm_cd 102) 2 = .ok (.iconst 0, 1) := (congrArg (fun b => decode b 2) cd102).trans (by decide +kernel)
theorem d102_3 : decode (vm_cd 102) 3 = .ok (.istore_n 3, 1) := (congrArg (fun b => decode b 3) cd102).trans (by decide +kernel)
theorem d102_4 : decode (vm_cd 102) 4 = .ok (.iload_n 3, 1) := (congrArg (fun b => decode b 4) cd102).trans (by decide +kernel)
theorem d102_5 : decode (vm_cd 102) 5 = .ok (.iload_n 0, 1) := (congrArg (fun b => decode b 5) cd102).trans (by decide +kernel)
theorem d102_6 : decode (vm_cd 102) 6 = .ok (.if_icmp .ge 17, 3) := (congrArg (fun b => decode b 6) cd102).trans (by decide +kernel)
theorem d102_9 : decode (vm_cd 102) 9 = .ok (.iload_n 2, 1) := (congrArg (fun b => decode b 9) cd102).trans (by decide +kernel)
theorem d102_10 : decode (vm_cd 102) 10 = .ok (.iload_n 1, 1) := (congrArg (fun b => decode b 10) cd102).trans (by decide +kernel)
theorem d102_11 : decode (vm_cd 102) 11 = .ok (.iload_n 3, 1) := (congrArg (fun b => decode b 11) cd102).trans (by decide +kernel)
theorem d102_12 : decode (vm_cd 102) 12 = .ok (.invokestatic 25, 3) := (congrArg (fun b => decode b 12) cd102).trans (by decide +kernel)
theorem d102_15 : decode (vm_cd 102) 15 = .ok (.iadd, 1) := (congrArg (fun b => decode b 15) cd102).trans (by decide +kernel)
theorem d102_16 : decode (vm_cd 102) 16 = .ok (.istore_n 2, 1) := (congrArg (fun b => decode b 16) cd102).trans (by decide +kernel)
theorem d102_17 : decode (vm_cd 102) 17 = .ok (.iinc 3 1, 3) := (congrArg (fun b => decode b 17) cd102).trans (by decide +kernel)
theorem d102_20 : decode (vm_cd 102) 20 = .ok (.goto (-16), 3) := (congrArg (fun b => decode b 20) cd102).trans (by decide +kernel)
theorem d102_23 : decode (vm_cd 102) 23 = .ok (.iload_n 2, 1) := (congrArg (fun b => decode b 23) cd102).trans (by decide +kernel)
theorem d102_24 : decode (vm_cd 102) 24 = .ok (.bipush 24, 2) := (congrArg (fun b => decode b 24) cd102).trans (by decide +kernel)
theorem d102_26 : decode (vm_cd 102) 26 = .ok (.if_icmp .gt 15, 3) := (congrArg (fun b => decode b 26) cd102).trans (by decide +kernel)
theorem d102_29 : decode (vm_cd 102) 29 = .ok (.iload_n 0, 1) := (congrArg (fun b => decode b 29) cd102).trans (by decide +kernel)
theorem d102_30 : decode (vm_cd 102) 30 = .ok (.iload_n 1, 1) := (congrArg (fun b => decode b 30) cd102).trans (by decide +kernel)
theorem d102_31 : decode (vm_cd 102) 31 = .ok (.invokestatic 29, 3) := (congrArg (fun b => decode b 31) cd102).trans (by decide +kernel)
theorem d102_34 : decode (vm_cd 102) 34 = .ok (.ifCond .ne 7, 3) := (congrArg (fun b => decode b 34) cd102).trans (by decide +kernel)
theorem d102_37 : decode (vm_cd 102) 37 = .ok (.iconst 1, 1) := (congrArg (fun b => decode b 37) cd102).trans (by decide +kernel)
theorem d102_38 : decode (vm_cd 102) 38 = .ok (.goto 4, 3) := (congrArg (fun b => decode b 38) cd102).trans (by decide +kernel)
theorem d102_41 : decode (vm_cd 102) 41 = .ok (.iconst 0, 1) := (congrArg (fun b => decode b 41) cd102).trans (by decide +kernel)
theorem d102_42 : decode (vm_cd 102) 42 = .ok (.ireturn, 1) := (congrArg (fun b => decode b 42) cd102).trans (by decide +kernel)
theorem c102_25 : vm_ml.lookup (vm_own 102, 25) = some (1, 99, 2, 638, 639, 0, 7) := vm_lk (by decide +kernel)
theorem c102_29 : vm_ml.lookup (vm_own 102, 29) = some (1, 100, 2, 641, 642, 0, 7) := vm_lk (by decide +kernel)
theorem r102 : vm_rt 102 = (some .boolean) := by decide +kernel
theorem B_Te_areShares_0 {X : vX} {d : Nat} {M : vM} {Q : Option vV → vM → Prop} {l0 l1 : Int}  (k : vw X d 102 4 [vI l0, vI l1, vI 0, vI 0] [] M Q) : vw X d 102 0 [vI l0, vI l1, vN, vN] [] M Q := by
  refine w_ic (v := 0) d102_0 rfl ?_
  refine w_istore_nE (ls' := [vI l0, vI l1, vI 0, vN]) d102_1 (Nat.le_of_ble_eq_true rfl) rfl ?_
  refine w_ic (v := 0) d102_2 rfl ?_
  refine w_istore_nE (ls' := [vI l0, vI l1, vI 0, vI 0]) d102_3 (Nat.le_of_ble_eq_true rfl) rfl ?_
  exact k
theorem B_Te_areShares_4 {X : vX} {d : Nat} {M : vM} {Q : Option vV → vM → Prop} {l0 l1 l2 l3 : Int}  (k1 : l0 ≤ l3 → vw X d 102 23 [vI l0, vI l1, vI l2, vI l3] [] M Q) (k2 : l3 < l0 → vw X d 102 9 [vI l0, vI l1, vI l2, vI l3] [] M Q) : vw X d 102 4 [vI l0, vI l1, vI l2, vI l3] [] M Q := by
  refine w_iload_n d102_4 rfl ?_
  refine w_iload_n d102_5 rfl ?_
  exact w_icmp_ge d102_6 rfl (fun h => k1 h) (fun h => k2 h)
theorem B_Te_areShares_9 {X : vX} {d : Nat} {M : vM} {Q : Option vV → vM → Prop} {l0 l1 l2 l3 : Int}  (k : cq X d 99 [vI l1, vI l3] M (fun r M1 => wp X d 102 15 [vI l0, vI l1, vI l2, vI l3] (r.toList ++ [vI l2]) (vS0, M1) (vP Q))) : vw X d 102 9 [vI l0, vI l1, vI l2, vI l3] [] M Q := by
  refine w_iload_n d102_9 rfl ?_
  refine w_iload_n d102_10 rfl ?_
  refine w_iload_n d102_11 rfl ?_
  exact w_inv1 d102_12 c102_25 (by decide) rfl (Nat.le_of_ble_eq_true rfl) (cq.cl (k))
theorem B_Te_areShares_15 {X : vX} {d : Nat} {M : vM} {Q : Option vV → vM → Prop} {l0 l1 l2 l3 s0 s1 : Int}  (k : vw X d 102 4 [vI l0, vI l1, vI (w32 (s0 + s1)), vI (w32 (l3 + 1))] [] M Q) : vw X d 102 15 [vI l0, vI l1, vI l2, vI l3] [vI s1, vI s0] M Q := by
  refine w_iadd d102_15 ?_
  refine w_istore_nE (ls' := [vI l0, vI l1, vI (w32 (s0 + s1)), vI l3]) d102_16 (Nat.le_of_ble_eq_true rfl) rfl ?_
  refine w_iincE (ls' := [vI l0, vI l1, vI (w32 (s0 + s1)), vI (w32 (l3 + 1))]) d102_17 rfl rfl ?_
  refine w_goto (tgt := 4) d102_20 rfl ?_
  exact k
theorem B_Te_areShares_23 {X : vX} {d : Nat} {M : vM} {Q : Option vV → vM → Prop} {l0 l1 l2 l3 : Int}  (k1 : 24 < l2 → vw X d 102 41 [vI l0, vI l1, vI l2, vI l3] [] M Q) (k2 : l2 ≤ 24 → vw X d 102 29 [vI l0, vI l1, vI l2, vI l3] [] M Q) : vw X d 102 23 [vI l0, vI l1, vI l2, vI l3] [] M Q := by
  refine w_iload_n d102_23 rfl ?_
  refine w_bi (v := 24) d102_24 rfl ?_
  exact w_icmp_gt d102_26 rfl (fun h => k1 h) (fun h => k2 h)
theorem B_Te_areShares_29 {X : vX} {d : Nat} {M : vM} {Q : Option vV → vM → Prop} {l0 l1 l2 l3 : Int}  (k : cq X d 100 [vI l0, vI l1] M (fun r M1 => wp X d 102 34 [vI l0, vI l1, vI l2, vI l3] (r.toList ++ []) (vS0, M1) (vP Q))) : vw X d 102 29 [vI l0, vI l1, vI l2, vI l3] [] M Q := by
  refine w_iload_n d102_29 rfl ?_
  refine w_iload_n d102_30 rfl ?_
  exact w_inv1 d102_31 c102_29 (by decide) rfl (Nat.le_of_ble_eq_true rfl) (cq.cl (k))
theorem B_Te_areShares_34 {X : vX} {d : Nat} {M : vM} {Q : Option vV → vM → Prop} {l0 l1 l2 l3 s0 : Int}  (k1 : ¬ s0 = 0 → vw X d 102 41 [vI l0, vI l1, vI l2, vI l3] [] M Q) (k2 : s0 = 0 → vw X d 102 37 [vI l0, vI l1, vI l2, vI l3] [] M Q) : vw X d 102 34 [vI l0, vI l1, vI l2, vI l3] [vI s0] M Q := by
  exact w_if_ne d102_34 rfl (fun h => k1 h) (fun h => k2 h)
theorem B_Te_areShares_37 {X : vX} {d : Nat} {M : vM} {Q : Option vV → vM → Prop} {l0 l1 l2 l3 : Int}  (k : Q (some (vI 1)) M) : vw X d 102 37 [vI l0, vI l1, vI l2, vI l3] [] M Q := by
  refine w_ic (v := 1) d102_37 rfl ?_
  refine w_goto (tgt := 42) d102_38 rfl ?_
  exact w_zret d102_42 r102 (by decide) ⟨_, rfl, k⟩
theorem B_Te_areShares_41 {X : vX} {d : Nat} {M : vM} {Q : Option vV → vM → Prop} {l0 l1 l2 l3 : Int}  (k : Q (some (vI 0)) M) : vw X d 102 41 [vI l0, vI l1, vI l2, vI l3] [] M Q := by
  refine w_ic (v := 0) d102_41 rfl ?_
  exact w_zret d102_42 r102 (by decide) ⟨_, rfl, k⟩
theorem E_Te_areShares {X : vX} {d : Nat} {M : vM} {Q : Option vV → vM → Prop} {l0 l1 : Int} (k : vw X d 102 0 [vI l0, vI l1, vN, vN] [] M Q) : cq X (d + 1) 102 [vI l0, vI l1] M Q := wc_in (Nat.le_of_ble_eq_true rfl) (Nat.le_of_ble_eq_true rfl) k
theorem cd103 : vm_cd 103 = cX8_set := rfl
theorem d103_0 : decode (vm_cd 103) 0 = .ok (.aload_n 0, 1) := (congrArg (fun b => decode b 0) cd103).trans (by decide +kernel)
theorem d103_1 : decode (vm_cd 103) 1 = .ok (.iload_n 1, 1) := (congrArg (fun b => decode b 1) cd103).trans (by decide +kernel)
theorem d103_2 : decode (vm_cd 103) 2 = .ok (.putfield 21, 3) := (congrArg (fun b => decode b 2) cd103).trans (by decide +kernel)
theorem d103_5 : decode (vm_cd 103) 5 = .ok (.iconst 0, 1) := (congrArg (fun b => decode b 5) cd103).trans (by decide +kernel)
theorem d103_6 : decode (vm_cd 103) 6 = .ok (.istore 4, 2) := (congrArg (fun b => decode b 6) cd103).trans (by decide +kernel)
theorem d103_8 : decode (vm_cd 103) 8 = .ok (.iload 4, 2) := (congrArg (fun b => decode b 8) cd103).trans (by decide +kernel)
theorem d103_10 : decode (vm_cd 103) 10 = .ok (.iload_n 1, 1) := (congrArg (fun b => decode b 10) cd103).trans (by decide +kernel)
theorem d103_11 : decode (vm_cd 103) 11 = .ok (.if_icmp .ge 35, 3) := (congrArg (fun b => decode b 11) cd103).trans (by decide +kernel)
theorem d103_14 : decode (vm_cd 103) 14 = .ok (.aload_n 0, 1) := (congrArg (fun b => decode b 14) cd103).trans (by decide +kernel)
theorem d103_15 : decode (vm_cd 103) 15 = .ok (.getfield 11, 3) := (congrArg (fun b => decode b 15) cd103).trans (by decide +kernel)
theorem d103_18 : decode (vm_cd 103) 18 = .ok (.iload 4, 2) := (congrArg (fun b => decode b 18) cd103).trans (by decide +kernel)
theorem d103_20 : decode (vm_cd 103) 20 = .ok (.iload_n 2, 1) := (congrArg (fun b => decode b 20) cd103).trans (by decide +kernel)
theorem d103_21 : decode (vm_cd 103) 21 = .ok (.iload 4, 2) := (congrArg (fun b => decode b 21) cd103).trans (by decide +kernel)
theorem d103_23 : decode (vm_cd 103) 23 = .ok (.invokestatic 25, 3) := (congrArg (fun b => decode b 23) cd103).trans (by decide +kernel)
theorem d103_26 : decode (vm_cd 103) 26 = .ok (.iastore, 1) := (congrArg (fun b => decode b 26) cd103).trans (by decide +kernel)
theorem d103_27 : decode (vm_cd 103) 27 = .ok (.aload_n 0, 1) := (congrArg (fun b => decode b 27) cd103).trans (by decide +kernel)
theorem d103_28 : decode (vm_cd 103) 28 = .ok (.getfield 15, 3) := (congrArg (fun b => decode b 28) cd103).trans (by decide +kernel)
theorem d103_31 : decode (vm_cd 103) 31 = .ok (.iload 4, 2) := (congrArg (fun b => decode b 31) cd103).trans (by decide +kernel)
theorem d103_33 : decode (vm_cd 103) 33 = .ok (.iload_n 3, 1) := (congrArg (fun b => decode b 33) cd103).trans (by decide +kernel)
theorem d103_34 : decode (vm_cd 103) 34 = .ok (.iload 4, 2) := (congrArg (fun b => decode b 34) cd103).trans (by decide +kernel)
theorem d103_36 : decode (vm_cd 103) 36 = .ok (.invokestatic 25, 3) := (congrArg (fun b => decode b 36) cd103).trans (by decide +kernel)
theorem d103_39 : decode (vm_cd 103) 39 = .ok (.iastore, 1) := (congrArg (fun b => decode b 39) cd103).trans (by decide +kernel)
theorem d103_40 : decode (vm_cd 103) 40 = .ok (.iinc 4 1, 3) := (congrArg (fun b => decode b 40) cd103).trans (by decide +kernel)
theorem d103_43 : decode (vm_cd 103) 43 = .ok (.goto (-35), 3) := (congrArg (fun b => decode b 43) cd103).trans (by decide +kernel)
theorem d103_46 : decode (vm_cd 103) 46 = .ok (.return_, 1) := (congrArg (fun b => decode b 46) cd103).trans (by decide +kernel)
theorem f103_11 : vm_fl.lookup (vm_own 103, 11) = some (7, 0, 121) := by decide +kernel
theorem f103_15 : vm_fl.lookup (vm_own 103, 15) = some (7, 1, 122) := by decide +kernel
theorem f103_21 : vm_fl.lookup (vm_own 103, 21) = some (7, 3, 124) := by decide +kernel
theorem c103_25 : vm_ml.lookup (vm_own 103, 25) = some (1, 99, 2, 638, 639, 0, 7) := vm_lk (by decide +kernel)
theorem r103 : vm_rt 103 = none := by decide +kernel
theorem B_Te_set_0 {X : vX} {d : Nat} {M : vM} {Q : Option vV → vM → Prop} {l1 l2 l3 : Int} (hR : vRefs M)  (k : vRefs (vm_up M 49 3 l1) → vw X d 103 8 [vR 49, vI l1, vI l2, vI l3, vI 0] [] (vm_up M 49 3 l1) Q) : vw X d 103 0 [vR 49, vI l1, vI l2, vI l3, vN] [] M Q := by
  refine w_aload_n d103_0 rfl ?_
  refine w_iload_n d103_1 rfl ?_
  refine w_putf (a := 49) (x := l1) d103_2 f103_21 rfl rfl rfl (Or.inl rfl) ?_
  refine w_ic (v := 0) d103_5 rfl ?_
  refine w_istoreE (ls' := [vR 49, vI l1, vI l2, vI l3, vI 0]) d103_6 (Nat.le_of_ble_eq_true rfl) rfl ?_
  exact k (vRefs_up hR ⟨by decide, by decide⟩)
theorem B_Te_set_8 {X : vX} {d : Nat} {M : vM} {Q : Option vV → vM → Prop} {l1 l2 l3 l4 : Int}  (k1 : l1 ≤ l4 → vw X d 103 46 [vR 49, vI l1, vI l2, vI l3, vI l4] [] M Q) (k2 : l4 < l1 → vw X d 103 14 [vR 49, vI l1, vI l2, vI l3, vI l4] [] M Q) : vw X d 103 8 [vR 49, vI l1, vI l2, vI l3, vI l4] [] M Q := by
  refine w_iload d103_8 rfl ?_
  refine w_iload_n d103_10 rfl ?_
  exact w_icmp_ge d103_11 rfl (fun h => k1 h) (fun h => k2 h)
theorem B_Te_set_14 {X : vX} {d : Nat} {M : vM} {Q : Option vV → vM → Prop} {l1 l2 l3 l4 : Int} (hR : vRefs M)  (k : cq X d 99 [vI l2, vI l4] M (fun r M1 => wp X d 103 26 [vR 49, vI l1, vI l2, vI l3, vI l4] (r.toList ++ [vI l4, vR 50]) (vS0, M1) (vP Q))) : vw X d 103 14 [vR 49, vI l1, vI l2, vI l3, vI l4] [] M Q := by
  refine w_aload_n d103_14 rfl ?_
  refine w_getf (a := 49) (v := vR 50) d103_15 f103_11 rfl rfl (congrArg vR (rf_49_0 hR)) ?_
  refine w_iload d103_18 rfl ?_
  refine w_iload_n d103_20 rfl ?_
  refine w_iload d103_21 rfl ?_
  exact w_inv1 d103_23 c103_25 (by decide) rfl (Nat.le_of_ble_eq_true rfl) (cq.cl (k))
theorem B_Te_set_26 {X : vX} {d : Nat} {M : vM} {Q : Option vV → vM → Prop} {l1 l2 l3 l4 s1 s2 : Int} (hR : vRefs M) (h1 : 0 ≤ s1 ∧ s1 < (4 : Nat)) (k : vRefs (vm_up M 50 s1.toNat s2) → cq X d 99 [vI l3, vI l4] (vm_up M 50 s1.toNat s2) (fun r M1 => wp X d 103 39 [vR 49, vI l1, vI l2, vI l3, vI l4] (r.toList ++ [vI l4, vR 51]) (vS0, M1) (vP Q))) : vw X d 103 26 [vR 49, vI l1, vI l2, vI l3, vI l4] [vI s2, vI s1, vR 50] M Q := by
  refine w_iast (a := 50) d103_26 rfl rfl h1 ?_
  refine w_aload_n d103_27 rfl ?_
  refine w_getf (a := 49) (v := vR 51) d103_28 f103_15 rfl rfl (congrArg vR (rf_49_1 (vRefs_free hR ⟨by decide, by decide⟩))) ?_
  refine w_iload d103_31 rfl ?_
  refine w_iload_n d103_33 rfl ?_
  refine w_iload d103_34 rfl ?_
  exact w_inv1 d103_36 c103_25 (by decide) rfl (Nat.le_of_ble_eq_true rfl) (cq.cl (k (vRefs_free hR ⟨by decide, by decide⟩)))
theorem B_Te_set_39 {X : vX} {d : Nat} {M : vM} {Q : Option vV → vM → Prop} {l1 l2 l3 l4 s1 s2 : Int} (hR : vRefs M) (h1 : 0 ≤ s1 ∧ s1 < (4 : Nat)) (k : vRefs (vm_up M 51 s1.toNat s2) → vw X d 103 8 [vR 49, vI l1, vI l2, vI l3, vI (w32 (l4 + 1))] [] (vm_up M 51 s1.toNat s2) Q) : vw X d 103 39 [vR 49, vI l1, vI l2, vI l3, vI l4] [vI s2, vI s1, vR 51] M Q := by
  refine w_iast (a := 51) d103_39 rfl rfl h1 ?_
  refine w_iincE (ls' := [vR 49, vI l1, vI l2, vI l3, vI (w32 (l4 + 1))]) d103_40 rfl rfl ?_
  refine w_goto (tgt := 8) d103_43 rfl ?_
  exact k (vRefs_free hR ⟨by decide, by decide⟩)
theorem B_Te_set_46 {X : vX} {d : Nat} {M : vM} {Q : Option vV → vM → Prop} {l1 l2 l3 l4 : Int}  (k : Q none M) : vw X d 103 46 [vR 49, vI l1, vI l2, vI l3, vI l4] [] M Q := by
  exact w_vret d103_46 r103 ⟨_, rfl, k⟩
theorem E_Te_set {X : vX} {d : Nat} {M : vM} {Q : Option vV → vM → Prop} {l1 l2 l3 : Int} (k : vw X d 103 0 [vR 49, vI l1, vI l2, vI l3, vN] [] M Q) : cq X (d + 1) 103 [vR 49, vI l1, vI l2, vI l3] M Q := wc_in (Nat.le_of_ble_eq_true rfl) (Nat.le_of_ble_eq_true rfl) k
theorem cd104 : vm_cd 104 = cX8_setGot := rfl
theorem d104_0 : decode (vm_cd 104) 0 = .ok (.aload_n 0, 1) := (congrArg (fun b => decode b 0) cd104).trans (by decide +kernel)
theorem d104_1 : decode (vm_cd 104) 1 = .ok (.getfield 18, 3) := (congrArg (fun b => decode b 1) cd104).trans (by decide +kernel)
theorem d104_4 : decode (vm_cd 104) 4 = .ok (.iload_n 1, 1) := (congrArg (fun b => decode b 4) cd104).trans (by decide +kernel)
theorem d104_5 : decode (vm_cd 104) 5 = .ok (.iaload, 1) := (congrArg (fun b => decode b 5) cd104).trans (by decide +kernel)
theorem d104_6 : decode (vm_cd 104) 6 = .ok (.istore_n 3, 1) := (congrArg (fun b => decode b 6) cd104).trans (by decide +kernel)
theorem d104_7 : decode (vm_cd 104) 7 = .ok (.aload_n 0, 1) := (congrArg (fun b => decode b 7) cd104).trans (by decide +kernel)
theorem d104_8 : decode (vm_cd 104) 8 = .ok (.getfield 18, 3) := (congrArg (fun b => decode b 8) cd104).trans (by decide +kernel)
theorem d104_11 : decode (vm_cd 104) 11 = .ok (.iload_n 1, 1) := (congrArg (fun b => decode b 11) cd104).trans (by decide +kernel)
theorem d104_12 : decode (vm_cd 104) 12 = .ok (.iload_n 2, 1) := (congrArg (fun b => decode b 12) cd104).trans (by decide +kernel)
theorem d104_13 : decode (vm_cd 104) 13 = .ok (.iastore, 1) := (congrArg (fun b => decode b 13) cd104).trans (by decide +kernel)
theorem d104_14 : decode (vm_cd 104) 14 = .ok (.iload_n 3, 1) := (congrArg (fun b => decode b 14) cd104).trans (by decide +kernel)
theorem d104_15 : decode (vm_cd 104) 15 = .ok (.ireturn, 1) := (congrArg (fun b => decode b 15) cd104).trans (by decide +kernel)
theorem f104_18 : vm_fl.lookup (vm_own 104, 18) = some (7, 2, 123) := by decide +kernel
theorem r104 : vm_rt 104 = (some .int) := by decide +kernel
theorem B_Te_setGot_0 {X : vX} {d : Nat} {M : vM} {Q : Option vV → vM → Prop} {l1 l2 : Int} (hR : vRefs M) (h1 : 0 ≤ l1 ∧ l1 < (5 : Nat)) (h2 : 0 ≤ l1 ∧ l1 < (5 : Nat)) (k : vRefs (vm_up M 52 l1.toNat l2) → Q (some (vI (M 52 l1.toNat))) (vm_up M 52 l1.toNat l2)) : vw X d 104 0 [vR 49, vI l1, vI l2, vN] [] M Q := by
  refine w_aload_n d104_0 rfl ?_
  refine w_getf (a := 49) (v := vR 52) d104_1 f104_18 rfl rfl (congrArg vR (rf_49_2 hR)) ?_
  refine w_iload_n d104_4 rfl ?_
  refine w_iaload (a := 52) d104_5 rfl rfl h1 ?_
  refine w_istore_nE (ls' := [vR 49, vI l1, vI l2, vI (M 52 l1.toNat)]) d104_6 (Nat.le_of_ble_eq_true rfl) rfl ?_
  refine w_aload_n d104_7 rfl ?_
  refine w_getf (a := 49) (v := vR 52) d104_8 f104_18 rfl rfl (congrArg vR (rf_49_2 hR)) ?_
  refine w_iload_n d104_11 rfl ?_
  refine w_iload_n d104_12 rfl ?_
  refine w_iast (a := 52) d104_13 rfl rfl h2 ?_
  refine w_iload_n d104_14 rfl ?_
  exact w_iret d104_15 r104 ⟨_, rfl, k (vRefs_free hR ⟨by decide, by decide⟩)⟩
theorem E_Te_setGot {X : vX} {d : Nat} {M : vM} {Q : Option vV → vM → Prop} {l1 l2 : Int} (k : vw X d 104 0 [vR 49, vI l1, vI l2, vN] [] M Q) : cq X (d + 1) 104 [vR 49, vI l1, vI l2] M Q := wc_in (Nat.le_of_ble_eq_true rfl) (Nat.le_of_ble_eq_true rfl) k
theorem cd105 : vm_cd 105 = cX8_isMember := rfl
theorem d105_0 : decode (vm_cd 105) 0 = .ok (.iload_n 1, 1) := (congrArg (fun b => decode b 0) cd105).trans (by decide +kernel)
theorem d105_1 : decode (vm_cd 105) 1 = .ok (.ifCond .lt 15, 3) := (congrArg (fun b => decode b 1) cd105).trans (by decide +kernel)
theorem d105_4 : decode (vm_cd 105) 4 = .ok (.iload_n 1, 1) := (congrArg (fun b => decode b 4) cd105).trans (by decide +kernel)
theorem d105_5 : decode (vm_cd 105) 5 = .ok (.aload_n 0, 1) := (congrArg (fun b => decode b 5) cd105).trans (by decide +kernel)
theorem d105_6 : decode (vm_cd 105) 6 = .ok (.getfield 21, 3) := (congrArg (fun b => decode b 6) cd105).trans (by decide +kernel)
theorem d105_9 : decode (vm_cd 105) 9 = .ok (.if_icmp .ge 7, 3) := (congrArg (fun b => decode b 9) cd105).trans (by decide +kernel)
theorem d105_12 : decode (vm_cd 105) 12 = .ok (.iconst 1, 1) := (congrArg (fun b => decode b 12) cd105).trans (by decide +kernel)
theorem d105_13 : decode (vm_cd 105) 13 = .ok (.goto 4, 3) := (congrArg (fun b => decode b 13) cd105).trans (by decide +kernel)
theorem d105_16 : decode (vm_cd 105) 16 = .ok (.iconst 0, 1) := (congrArg (fun b => decode b 16) cd105).trans (by decide +kernel)
theorem d105_17 : decode (vm_cd 105) 17 = .ok (.ireturn, 1) := (congrArg (fun b => decode b 17) cd105).trans (by decide +kernel)
theorem f105_21 : vm_fl.lookup (vm_own 105, 21) = some (7, 3, 124) := by decide +kernel
theorem r105 : vm_rt 105 = (some .boolean) := by decide +kernel
theorem B_Te_isMember_0 {X : vX} {d : Nat} {M : vM} {Q : Option vV → vM → Prop} {l1 : Int}  (k1 : l1 < 0 → vw X d 105 16 [vR 49, vI l1] [] M Q) (k2 : 0 ≤ l1 → vw X d 105 4 [vR 49, vI l1] [] M Q) : vw X d 105 0 [vR 49, vI l1] [] M Q := by
  refine w_iload_n d105_0 rfl ?_
  exact w_if_lt d105_1 rfl (fun h => k1 h) (fun h => k2 h)
theorem B_Te_isMember_4 {X : vX} {d : Nat} {M : vM} {Q : Option vV → vM → Prop} {l1 : Int}  (k1 : (M 49 3) ≤ l1 → vw X d 105 16 [vR 49, vI l1] [] M Q) (k2 : l1 < (M 49 3) → vw X d 105 12 [vR 49, vI l1] [] M Q) : vw X d 105 4 [vR 49, vI l1] [] M Q := by
  refine w_iload_n d105_4 rfl ?_
  refine w_aload_n d105_5 rfl ?_
  refine w_getf (a := 49) (v := vI (M 49 3)) d105_6 f105_21 rfl rfl rfl ?_
  exact w_icmp_ge d105_9 rfl (fun h => k1 h) (fun h => k2 h)
theorem B_Te_isMember_12 {X : vX} {d : Nat} {M : vM} {Q : Option vV → vM → Prop} {l1 : Int}  (k : Q (some (vI 1)) M) : vw X d 105 12 [vR 49, vI l1] [] M Q := by
  refine w_ic (v := 1) d105_12 rfl ?_
  refine w_goto (tgt := 17) d105_13 rfl ?_
  exact w_zret d105_17 r105 (by decide) ⟨_, rfl, k⟩
theorem B_Te_isMember_16 {X : vX} {d : Nat} {M : vM} {Q : Option vV → vM → Prop} {l1 : Int}  (k : Q (some (vI 0)) M) : vw X d 105 16 [vR 49, vI l1] [] M Q := by
  refine w_ic (v := 0) d105_16 rfl ?_
  exact w_zret d105_17 r105 (by decide) ⟨_, rfl, k⟩
theorem E_Te_isMember {X : vX} {d : Nat} {M : vM} {Q : Option vV → vM → Prop} {l1 : Int} (k : vw X d 105 0 [vR 49, vI l1] [] M Q) : cq X (d + 1) 105 [vR 49, vI l1] M Q := wc_in (Nat.le_of_ble_eq_true rfl) (Nat.le_of_ble_eq_true rfl) k
theorem cd106 : vm_cd 106 = cX8_isSet := rfl
theorem d106_0 : decode (vm_cd 106) 0 = .ok (.iload_n 1, 1) := (congrArg (fun b => decode b 0) cd106).trans (by decide +kernel)
theorem d106_1 : decode (vm_cd 106) 1 = .ok (.ifCond .lt 17, 3) := (congrArg (fun b => decode b 1) cd106).trans (by decide +kernel)
theorem d106_4 : decode (vm_cd 106) 4 = .ok (.iload_n 1, 1) := (congrArg (fun b => decode b 4) cd106).trans (by decide +kernel)
theorem d106_5 : decode (vm_cd 106) 5 = .ok (.iconst 1, 1) := (congrArg (fun b => decode b 5) cd106).trans (by decide +kernel)
theorem d106_6 : decode (vm_cd 106) 6 = .ok (.aload_n 0, 1) := (congrArg (fun b => decode b 6) cd106).trans (by decide +kernel)
theorem d106_7 : decode (vm_cd 106) 7 = .ok (.getfield 21, 3) := (congrArg (fun b => decode b 7) cd106).trans (by decide +kernel)
theorem d106_10 : decode (vm_cd 106) 10 = .ok (.ishl, 1) := (congrArg (fun b => decode b 10) cd106).trans (by decide +kernel)
theorem d106_11 : decode (vm_cd 106) 11 = .ok (.if_icmp .ge 7, 3) := (congrArg (fun b => decode b 11) cd106).trans (by decide +kernel)
theorem d106_14 : decode (vm_cd 106) 14 = .ok (.iconst 1, 1) := (congrArg (fun b => decode b 14) cd106).trans (by decide +kernel)
theorem d106_15 : decode (vm_cd 106) 15 = .ok (.goto 4, 3) := (congrArg (fun b => decode b 15) cd106).trans (by decide +kernel)
theorem d106_18 : decode (vm_cd 106) 18 = .ok (.iconst 0, 1) := (congrArg (fun b => decode b 18) cd106).trans (by decide +kernel)
theorem d106_19 : decode (vm_cd 106) 19 = .ok (.ireturn, 1) := (congrArg (fun b => decode b 19) cd106).trans (by decide +kernel)
theorem f106_21 : vm_fl.lookup (vm_own 106, 21) = some (7, 3, 124) := by decide +kernel
theorem r106 : vm_rt 106 = (some .boolean) := by decide +kernel
theorem B_Te_isSet_0 {X : vX} {d : Nat} {M : vM} {Q : Option vV → vM → Prop} {l1 : Int}  (k1 : l1 < 0 → vw X d 106 18 [vR 49, vI l1] [] M Q) (k2 : 0 ≤ l1 → vw X d 106 4 [vR 49, vI l1] [] M Q) : vw X d 106 0 [vR 49, vI l1] [] M Q := by
  refine w_iload_n d106_0 rfl ?_
  exact w_if_lt d106_1 rfl (fun h => k1 h) (fun h => k2 h)
theorem B_Te_isSet_4 {X : vX} {d : Nat} {M : vM} {Q : Option vV → vM → Prop} {l1 : Int}  (k1 : (j_ishl 1 (M 49 3)) ≤ l1 → vw X d 106 18 [vR 49, vI l1] [] M Q) (k2 : l1 < (j_ishl 1 (M 49 3)) → vw X d 106 14 [vR 49, vI l1] [] M Q) : vw X d 106 4 [vR 49, vI l1] [] M Q := by
  refine w_iload_n d106_4 rfl ?_
  refine w_ic (v := 1) d106_5 rfl ?_
  refine w_aload_n d106_6 rfl ?_
  refine w_getf (a := 49) (v := vI (M 49 3)) d106_7 f106_21 rfl rfl rfl ?_
  refine w_ishl d106_10 ?_
  exact w_icmp_ge d106_11 rfl (fun h => k1 h) (fun h => k2 h)
theorem B_Te_isSet_14 {X : vX} {d : Nat} {M : vM} {Q : Option vV → vM → Prop} {l1 : Int}  (k : Q (some (vI 1)) M) : vw X d 106 14 [vR 49, vI l1] [] M Q := by
  refine w_ic (v := 1) d106_14 rfl ?_
  refine w_goto (tgt := 19) d106_15 rfl ?_
  exact w_zret d106_19 r106 (by decide) ⟨_, rfl, k⟩
theorem B_Te_isSet_18 {X : vX} {d : Nat} {M : vM} {Q : Option vV → vM → Prop} {l1 : Int}  (k : Q (some (vI 0)) M) : vw X d 106 18 [vR 49, vI l1] [] M Q := by
  refine w_ic (v := 0) d106_18 rfl ?_
  exact w_zret d106_19 r106 (by decide) ⟨_, rfl, k⟩
theorem E_Te_isSet {X : vX} {d : Nat} {M : vM} {Q : Option vV → vM → Prop} {l1 : Int} (k : vw X d 106 0 [vR 49, vI l1] [] M Q) : cq X (d + 1) 106 [vR 49, vI l1] M Q := wc_in (Nat.le_of_ble_eq_true rfl) (Nat.le_of_ble_eq_true rfl) k
theorem cd107 : vm_cd 107 = cX8_keeps := rfl
theorem d107_0 : decode (vm_cd 107) 0 = .ok (.aload_n 0, 1) := (congrArg (fun b => decode b 0) cd107).trans (by decide +kernel)
theorem d107_1 : decode (vm_cd 107) 1 = .ok (.getfield 15, 3) := (congrArg (fun b => decode b 1) cd107).trans (by decide +kernel)
theorem d107_4 : decode (vm_cd 107) 4 = .ok (.iload_n 2, 1) := (congrArg (fun b => decode b 4) cd107).trans (by decide +kernel)
theorem d107_5 : decode (vm_cd 107) 5 = .ok (.iaload, 1) := (congrArg (fun b => decode b 5) cd107).trans (by decide +kernel)
theorem d107_6 : decode (vm_cd 107) 6 = .ok (.aload_n 0, 1) := (congrArg (fun b => decode b 6) cd107).trans (by decide +kernel)
theorem d107_7 : decode (vm_cd 107) 7 = .ok (.getfield 18, 3) := (congrArg (fun b => decode b 7) cd107).trans (by decide +kernel)
theorem d107_10 : decode (vm_cd 107) 10 = .ok (.iload_n 1, 1) := (congrArg (fun b => decode b 10) cd107).trans (by decide +kernel)
theorem d107_11 : decode (vm_cd 107) 11 = .ok (.invokestatic 33, 3) := (congrArg (fun b => decode b 11) cd107).trans (by decide +kernel)
theorem d107_14 : decode (vm_cd 107) 14 = .ok (.iaload, 1) := (congrArg (fun b => decode b 14) cd107).trans (by decide +kernel)
theorem d107_15 : decode (vm_cd 107) 15 = .ok (.imul, 1) := (congrArg (fun b => decode b 15) cd107).trans (by decide +kernel)
theorem d107_16 : decode (vm_cd 107) 16 = .ok (.bipush 24, 2) := (congrArg (fun b => decode b 16) cd107).trans (by decide +kernel)
theorem d107_18 : decode (vm_cd 107) 18 = .ok (.idiv, 1) := (congrArg (fun b => decode b 18) cd107).trans (by decide +kernel)
theorem d107_19 : decode (vm_cd 107) 19 = .ok (.istore_n 3, 1) := (congrArg (fun b => decode b 19) cd107).trans (by decide +kernel)
theorem d107_20 : decode (vm_cd 107) 20 = .ok (.iload_n 1, 1) := (congrArg (fun b => decode b 20) cd107).trans (by decide +kernel)
theorem d107_21 : decode (vm_cd 107) 21 = .ok (.iload_n 2, 1) := (congrArg (fun b => decode b 21) cd107).trans (by decide +kernel)
theorem d107_22 : decode (vm_cd 107) 22 = .ok (.ishr, 1) := (congrArg (fun b => decode b 22) cd107).trans (by decide +kernel)
theorem d107_23 : decode (vm_cd 107) 23 = .ok (.iconst 1, 1) := (congrArg (fun b => decode b 23) cd107).trans (by decide +kernel)
theorem d107_24 : decode (vm_cd 107) 24 = .ok (.iand, 1) := (congrArg (fun b => decode b 24) cd107).trans (by decide +kernel)
theorem d107_25 : decode (vm_cd 107) 25 = .ok (.ifCond .eq 14, 3) := (congrArg (fun b => decode b 25) cd107).trans (by decide +kernel)
theorem d107_28 : decode (vm_cd 107) 28 = .ok (.iload_n 3, 1) := (congrArg (fun b => decode b 28) cd107).trans (by decide +kernel)
theorem d107_29 : decode (vm_cd 107) 29 = .ok (.aload_n 0, 1) := (congrArg (fun b => decode b 29) cd107).trans (by decide +kernel)
theorem d107_30 : decode (vm_cd 107) 30 = .ok (.getfield 11, 3) := (congrArg (fun b => decode b 30) cd107).trans (by decide +kernel)
theorem d107_33 : decode (vm_cd 107) 33 = .ok (.iload_n 2, 1) := (congrArg (fun b => decode b 33) cd107).trans (by decide +kernel)
theorem d107_34 : decode (vm_cd 107) 34 = .ok (.iaload, 1) := (congrArg (fun b => decode b 34) cd107).trans (by decide +kernel)
theorem d107_35 : decode (vm_cd 107) 35 = .ok (.isub, 1) := (congrArg (fun b => decode b 35) cd107).trans (by decide +kernel)
theorem d107_36 : decode (vm_cd 107) 36 = .ok (.goto 4, 3) := (congrArg (fun b => decode b 36) cd107).trans (by decide +kernel)
theorem d107_39 : decode (vm_cd 107) 39 = .ok (.iload_n 3, 1) := (congrArg (fun b => decode b 39) cd107).trans (by decide +kernel)
theorem d107_40 : decode (vm_cd 107) 40 = .ok (.ireturn, 1) := (congrArg (fun b => decode b 40) cd107).trans (by decide +kernel)
theorem f107_11 : vm_fl.lookup (vm_own 107, 11) = some (7, 0, 121) := by decide +kernel
theorem f107_15 : vm_fl.lookup (vm_own 107, 15) = some (7, 1, 122) := by decide +kernel
theorem f107_18 : vm_fl.lookup (vm_own 107, 18) = some (7, 2, 123) := by decide +kernel
theorem c107_33 : vm_ml.lookup (vm_own 107, 33) = some (1, 281, 1, 675, 676, 0, 14) := vm_lk (by decide +kernel)
theorem r107 : vm_rt 107 = (some .int) := by decide +kernel
theorem B_Te_keeps_0 {X : vX} {d : Nat} {M : vM} {Q : Option vV → vM → Prop} {l1 l2 : Int} (hR : vRefs M) (h1 : 0 ≤ l2 ∧ l2 < (4 : Nat)) (k : cq X d 281 [vI l1] M (fun r M1 => wp X d 107 14 [vR 49, vI l1, vI l2, vN] (r.toList ++ [vR 52, vI (M 51 l2.toNat)]) (vS0, M1) (vP Q))) : vw X d 107 0 [vR 49, vI l1, vI l2, vN] [] M Q := by
  refine w_aload_n d107_0 rfl ?_
  refine w_getf (a := 49) (v := vR 51) d107_1 f107_15 rfl rfl (congrArg vR (rf_49_1 hR)) ?_
  refine w_iload_n d107_4 rfl ?_
  refine w_iaload (a := 51) d107_5 rfl rfl h1 ?_
  refine w_aload_n d107_6 rfl ?_
  refine w_getf (a := 49) (v := vR 52) d107_7 f107_18 rfl rfl (congrArg vR (rf_49_2 hR)) ?_
  refine w_iload_n d107_10 rfl ?_
  exact w_inv1 d107_11 c107_33 (by decide) rfl (Nat.le_of_ble_eq_true rfl) (cq.cl (k))
theorem B_Te_keeps_14 {X : vX} {d : Nat} {M : vM} {Q : Option vV → vM → Prop} {l1 l2 s0 s2 : Int} (h1 : 0 ≤ s2 ∧ s2 < (5 : Nat)) (k1 : (j_iand (j_ishr l1 l2) 1) = 0 → vw X d 107 39 [vR 49, vI l1, vI l2, vI (j_idiv (w32 (s0 * (M 52 s2.toNat))) 24)] [] M Q) (k2 : ¬ (j_iand (j_ishr l1 l2) 1) = 0 → vw X d 107 28 [vR 49, vI l1, vI l2, vI (j_idiv (w32 (s0 * (M 52 s2.toNat))) 24)] [] M Q) : vw X d 107 14 [vR 49, vI l1, vI l2, vN] [vI s2, vR 52, vI s0] M Q := by
  refine w_iaload (a := 52) d107_14 rfl rfl h1 ?_
  refine w_imul d107_15 ?_
  refine w_bi (v := 24) d107_16 rfl ?_
  refine w_idiv d107_18 (by decide) ?_
  refine w_istore_nE (ls' := [vR 49, vI l1, vI l2, vI (j_idiv (w32 (s0 * (M 52 s2.toNat))) 24)]) d107_19 (Nat.le_of_ble_eq_true rfl) rfl ?_
  refine w_iload_n d107_20 rfl ?_
  refine w_iload_n d107_21 rfl ?_
  refine w_ishr d107_22 ?_
  refine w_ic (v := 1) d107_23 rfl ?_
  refine w_iand d107_24 ?_
  exact w_if_eq d107_25 rfl (fun h => k1 h) (fun h => k2 h)
theorem B_Te_keeps_28 {X : vX} {d : Nat} {M : vM} {Q : Option vV → vM → Prop} {l1 l2 l3 : Int} (hR : vRefs M) (h1 : 0 ≤ l2 ∧ l2 < (4 : Nat)) (k : Q (some (vI (w32 (l3 - (M 50 l2.toNat))))) M) : vw X d 107 28 [vR 49, vI l1, vI l2, vI l3] [] M Q := by
  refine w_iload_n d107_28 rfl ?_
  refine w_aload_n d107_29 rfl ?_
  refine w_getf (a := 49) (v := vR 50) d107_30 f107_11 rfl rfl (congrArg vR (rf_49_0 hR)) ?_
  refine w_iload_n d107_33 rfl ?_
  refine w_iaload (a := 50) d107_34 rfl rfl h1 ?_
  refine w_isub d107_35 ?_
  refine w_goto (tgt := 40) d107_36 rfl ?_
  exact w_iret d107_40 r107 ⟨_, rfl, k⟩
theorem B_Te_keeps_39 {X : vX} {d : Nat} {M : vM} {Q : Option vV → vM → Prop} {l1 l2 l3 : Int}  (k : Q (some (vI l3)) M) : vw X d 107 39 [vR 49, vI l1, vI l2, vI l3] [] M Q := by
  refine w_iload_n d107_39 rfl ?_
  exact w_iret d107_40 r107 ⟨_, rfl, k⟩
theorem E_Te_keeps {X : vX} {d : Nat} {M : vM} {Q : Option vV → vM → Prop} {l1 l2 : Int} (k : vw X d 107 0 [vR 49, vI l1, vI l2, vN] [] M Q) : cq X (d + 1) 107 [vR 49, vI l1, vI l2] M Q := wc_in (Nat.le_of_ble_eq_true rfl) (Nat.le_of_ble_eq_true rfl) k
theorem cd108 : vm_cd 108 = cX8_firstBreak := rfl
theorem d108_0 : decode (vm_cd 108) 0 = .ok (.iconst 1, 1) := (congrArg (fun b => decode b 0) cd108).trans (by decide +kernel)
theorem d108_1 : decode (vm_cd 108) 1 = .ok (.istore_n 3, 1) := (congrArg (fun b => decode b 1) cd108).trans (by decide +kernel)
theorem d108_2 : decode (vm_cd 108) 2 = .ok (.iload_n 3, 1) := (congrArg (fun b => decode b 2) cd108).trans (by decide +kernel)
theorem d108_3 : decode (vm_cd 108) 3 = .ok (.iconst 1, 1) := (congrArg (fun b => decode b 3) cd108).trans (by decide +kernel)
theorem d108_4 : decode (vm_cd 108) 4 = .ok (.aload_n 0, 1) := (congrArg (fun b => decode b 4) cd108).trans (by decide +kernel)
theorem d108_5 : decode (vm_cd 108) 5 = .ok (.getfield 21, 3) := (congrArg (fun b => decode b 5) cd108).trans (by decide +kernel)
theorem d108_8 : decode (vm_cd 108) 8 = .ok (.ishl, 1) := (congrArg (fun b => decode b 8) cd108).trans (by decide +kernel)
theorem d108_9 : decode (vm_cd 108) 9 = .ok (.if_icmp .ge 32, 3) := (congrArg (fun b => decode b 9) cd108).trans (by decide +kernel)
theorem d108_12 : decode (vm_cd 108) 12 = .ok (.iload_n 2, 1) := (congrArg (fun b => decode b 12) cd108).trans (by decide +kernel)
theorem d108_13 : decode (vm_cd 108) 13 = .ok (.ifCond .eq 11, 3) := (congrArg (fun b => decode b 13) cd108).trans (by decide +kernel)
theorem d108_16 : decode (vm_cd 108) 16 = .ok (.iload_n 3, 1) := (congrArg (fun b => decode b 16) cd108).trans (by decide +kernel)
theorem d108_17 : decode (vm_cd 108) 17 = .ok (.invokestatic 33, 3) := (congrArg (fun b => decode b 17) cd108).trans (by decide +kernel)
theorem d108_20 : decode (vm_cd 108) 20 = .ok (.iconst 1, 1) := (congrArg (fun b => decode b 20) cd108).trans (by decide +kernel)
theorem d108_21 : decode (vm_cd 108) 21 = .ok (.if_icmp .ne 14, 3) := (congrArg (fun b => decode b 21) cd108).trans (by decide +kernel)
theorem d108_24 : decode (vm_cd 108) 24 = .ok (.aload_n 0, 1) := (congrArg (fun b => decode b 24) cd108).trans (by decide +kernel)
theorem d108_25 : decode (vm_cd 108) 25 = .ok (.iload_n 1, 1) := (congrArg (fun b => decode b 25) cd108).trans (by decide +kernel)
theorem d108_26 : decode (vm_cd 108) 26 = .ok (.iload_n 3, 1) := (congrArg (fun b => decode b 26) cd108).trans (by decide +kernel)
theorem d108_27 : decode (vm_cd 108) 27 = .ok (.invokevirtual 39, 3) := (congrArg (fun b => decode b 27) cd108).trans (by decide +kernel)
theorem d108_30 : decode (vm_cd 108) 30 = .ok (.ifCond .eq 5, 3) := (congrArg (fun b => decode b 30) cd108).trans (by decide +kernel)
theorem d108_33 : decode (vm_cd 108) 33 = .ok (.iload_n 3, 1) := (congrArg (fun b => decode b 33) cd108).trans (by decide +kernel)
theorem d108_34 : decode (vm_cd 108) 34 = .ok (.ireturn, 1) := (congrArg (fun b => decode b 34) cd108).trans (by decide +kernel)
theorem d108_35 : decode (vm_cd 108) 35 = .ok (.iinc 3 1, 3) := (congrArg (fun b => decode b 35) cd108).trans (by decide +kernel)
theorem d108_38 : decode (vm_cd 108) 38 = .ok (.goto (-36), 3) := (congrArg (fun b => decode b 38) cd108).trans (by decide +kernel)
theorem d108_41 : decode (vm_cd 108) 41 = .ok (.iconst (-1), 1) := (congrArg (fun b => decode b 41) cd108).trans (by decide +kernel)
theorem d108_42 : decode (vm_cd 108) 42 = .ok (.ireturn, 1) := (congrArg (fun b => decode b 42) cd108).trans (by decide +kernel)
theorem f108_21 : vm_fl.lookup (vm_own 108, 21) = some (7, 3, 124) := by decide +kernel
theorem c108_33 : vm_ml.lookup (vm_own 108, 33) = some (1, 281, 1, 675, 676, 0, 14) := vm_lk (by decide +kernel)
theorem c108_39 : vm_ml.lookup (vm_own 108, 39) = some (0, 109, 2, 689, 691, 16, 7) := vm_lk (by decide +kernel)
theorem r108 : vm_rt 108 = (some .int) := by decide +kernel
theorem B_Te_firstBreak_0 {X : vX} {d : Nat} {M : vM} {Q : Option vV → vM → Prop} {l1 l2 : Int}  (k : vw X d 108 2 [vR 49, vI l1, vI l2, vI 1] [] M Q) : vw X d 108 0 [vR 49, vI l1, vI l2, vN] [] M Q := by
  refine w_ic (v := 1) d108_0 rfl ?_
  refine w_istore_nE (ls' := [vR 49, vI l1, vI l2, vI 1]) d108_1 (Nat.le_of_ble_eq_true rfl) rfl ?_
  exact k
theorem B_Te_firstBreak_2 {X : vX} {d : Nat} {M : vM} {Q : Option vV → vM → Prop} {l1 l2 l3 : Int}  (k1 : (j_ishl 1 (M 49 3)) ≤ l3 → vw X d 108 41 [vR 49, vI l1, vI l2, vI l3] [] M Q) (k2 : l3 < (j_ishl 1 (M 49 3)) → vw X d 108 12 [vR 49, vI l1, vI l2, vI l3] [] M Q) : vw X d 108 2 [vR 49, vI l1, vI l2, vI l3] [] M Q := by
  refine w_iload_n d108_2 rfl ?_
  refine w_ic (v := 1) d108_3 rfl ?_
  refine w_aload_n d108_4 rfl ?_
  refine w_getf (a := 49) (v := vI (M 49 3)) d108_5 f108_21 rfl rfl rfl ?_
  refine w_ishl d108_8 ?_
  exact w_icmp_ge d108_9 rfl (fun h => k1 h) (fun h => k2 h)
theorem B_Te_firstBreak_12 {X : vX} {d : Nat} {M : vM} {Q : Option vV → vM → Prop} {l1 l2 l3 : Int}  (k1 : l2 = 0 → vw X d 108 24 [vR 49, vI l1, vI l2, vI l3] [] M Q) (k2 : ¬ l2 = 0 → vw X d 108 16 [vR 49, vI l1, vI l2, vI l3] [] M Q) : vw X d 108 12 [vR 49, vI l1, vI l2, vI l3] [] M Q := by
  refine w_iload_n d108_12 rfl ?_
  exact w_if_eq d108_13 rfl (fun h => k1 h) (fun h => k2 h)
theorem B_Te_firstBreak_16 {X : vX} {d : Nat} {M : vM} {Q : Option vV → vM → Prop} {l1 l2 l3 : Int}  (k : cq X d 281 [vI l3] M (fun r M1 => wp X d 108 20 [vR 49, vI l1, vI l2, vI l3] (r.toList ++ []) (vS0, M1) (vP Q))) : vw X d 108 16 [vR 49, vI l1, vI l2, vI l3] [] M Q := by
  refine w_iload_n d108_16 rfl ?_
  exact w_inv1 d108_17 c108_33 (by decide) rfl (Nat.le_of_ble_eq_true rfl) (cq.cl (k))
theorem B_Te_firstBreak_20 {X : vX} {d : Nat} {M : vM} {Q : Option vV → vM → Prop} {l1 l2 l3 s0 : Int}  (k1 : ¬ s0 = 1 → vw X d 108 35 [vR 49, vI l1, vI l2, vI l3] [] M Q) (k2 : s0 = 1 → vw X d 108 24 [vR 49, vI l1, vI l2, vI l3] [] M Q) : vw X d 108 20 [vR 49, vI l1, vI l2, vI l3] [vI s0] M Q := by
  refine w_ic (v := 1) d108_20 rfl ?_
  exact w_icmp_ne d108_21 rfl (fun h => k1 h) (fun h => k2 h)
theorem B_Te_firstBreak_24 {X : vX} {d : Nat} {M : vM} {Q : Option vV → vM → Prop} {l1 l2 l3 : Int}  (k : cq X d 109 [vR 49, vI l1, vI l3] M (fun r M1 => wp X d 108 30 [vR 49, vI l1, vI l2, vI l3] (r.toList ++ []) (vS0, M1) (vP Q))) : vw X d 108 24 [vR 49, vI l1, vI l2, vI l3] [] M Q := by
  refine w_aload_n d108_24 rfl ?_
  refine w_iload_n d108_25 rfl ?_
  refine w_iload_n d108_26 rfl ?_
  exact w_inv0 (a := 49) (c := 7) d108_27 c108_39 rfl rfl rfl v109 (Nat.le_of_ble_eq_true rfl) (cq.cl (k))
theorem B_Te_firstBreak_30 {X : vX} {d : Nat} {M : vM} {Q : Option vV → vM → Prop} {l1 l2 l3 s0 : Int}  (k1 : s0 = 0 → vw X d 108 35 [vR 49, vI l1, vI l2, vI l3] [] M Q) (k2 : ¬ s0 = 0 → vw X d 108 33 [vR 49, vI l1, vI l2, vI l3] [] M Q) : vw X d 108 30 [vR 49, vI l1, vI l2, vI l3] [vI s0] M Q := by
  exact w_if_eq d108_30 rfl (fun h => k1 h) (fun h => k2 h)
theorem B_Te_firstBreak_33 {X : vX} {d : Nat} {M : vM} {Q : Option vV → vM → Prop} {l1 l2 l3 : Int}  (k : Q (some (vI l3)) M) : vw X d 108 33 [vR 49, vI l1, vI l2, vI l3] [] M Q := by
  refine w_iload_n d108_33 rfl ?_
  exact w_iret d108_34 r108 ⟨_, rfl, k⟩
theorem B_Te_firstBreak_35 {X : vX} {d : Nat} {M : vM} {Q : Option vV → vM → Prop} {l1 l2 l3 : Int}  (k : vw X d 108 2 [vR 49, vI l1, vI l2, vI (w32 (l3 + 1))] [] M Q) : vw X d 108 35 [vR 49, vI l1, vI l2, vI l3] [] M Q := by
  refine w_iincE (ls' := [vR 49, vI l1, vI l2, vI (w32 (l3 + 1))]) d108_35 rfl rfl ?_
  refine w_goto (tgt := 2) d108_38 rfl ?_
  exact k
theorem B_Te_firstBreak_41 {X : vX} {d : Nat} {M : vM} {Q : Option vV → vM → Prop} {l1 l2 l3 : Int}  (k : Q (some (vI ((-1)))) M) : vw X d 108 41 [vR 49, vI l1, vI l2, vI l3] [] M Q := by
  refine w_ic (v := (-1)) d108_41 rfl ?_
  exact w_iret d108_42 r108 ⟨_, rfl, k⟩
theorem E_Te_firstBreak {X : vX} {d : Nat} {M : vM} {Q : Option vV → vM → Prop} {l1 l2 : Int} (k : vw X d 108 0 [vR 49, vI l1, vI l2, vN] [] M Q) : cq X (d + 1) 108 [vR 49, vI l1, vI l2] M Q := wc_in (Nat.le_of_ble_eq_true rfl) (Nat.le_of_ble_eq_true rfl) k
theorem cd109 : vm_cd 109 = cX8_allGain := rfl
theorem d109_0 : decode (vm_cd 109) 0 = .ok (.iconst 0, 1) := (congrArg (fun b => decode b 0) cd109).trans (by decide +kernel)
theorem d109_1 : decode (vm_cd 109) 1 = .ok (.istore_n 3, 1) := (congrArg (fun b => decode b 1) cd109).trans (by decide +kernel)
theorem d109_2 : decode (vm_cd 109) 2 = .ok (.iload_n 3, 1) := (congrArg (fun b => decode b 2) cd109).trans (by decide +kernel)
theorem d109_3 : decode (vm_cd 109) 3 = .ok (.aload_n 0, 1) := (congrArg (fun b => decode b 3) cd109).trans (by decide +kernel)
theorem d109_4 : decode (vm_cd 109) 4 = .ok (.getfield 21, 3) := (congrArg (fun b => decode b 4) cd109).trans (by decide +kernel)
theorem d109_7 : decode (vm_cd 109) 7 = .ok (.if_icmp .ge 36, 3) := (congrArg (fun b => decode b 7) cd109).trans (by decide +kernel)
theorem d109_10 : decode (vm_cd 109) 10 = .ok (.iload_n 2, 1) := (congrArg (fun b => decode b 10) cd109).trans (by decide +kernel)
theorem d109_11 : decode (vm_cd 109) 11 = .ok (.iload_n 3, 1) := (congrArg (fun b => decode b 11) cd109).trans (by decide +kernel)
theorem d109_12 : decode (vm_cd 109) 12 = .ok (.ishr, 1) := (congrArg (fun b => decode b 12) cd109).trans (by decide +kernel)
theorem d109_13 : decode (vm_cd 109) 13 = .ok (.iconst 1, 1) := (congrArg (fun b => decode b 13) cd109).trans (by decide +kernel)
theorem d109_14 : decode (vm_cd 109) 14 = .ok (.iand, 1) := (congrArg (fun b => decode b 14) cd109).trans (by decide +kernel)
theorem d109_15 : decode (vm_cd 109) 15 = .ok (.ifCond .eq 22, 3) := (congrArg (fun b => decode b 15) cd109).trans (by decide +kernel)
theorem d109_18 : decode (vm_cd 109) 18 = .ok (.aload_n 0, 1) := (congrArg (fun b => decode b 18) cd109).trans (by decide +kernel)
theorem d109_19 : decode (vm_cd 109) 19 = .ok (.iload_n 1, 1) := (congrArg (fun b => decode b 19) cd109).trans (by decide +kernel)
theorem d109_20 : decode (vm_cd 109) 20 = .ok (.iload_n 2, 1) := (congrArg (fun b => decode b 20) cd109).trans (by decide +kernel)
theorem d109_21 : decode (vm_cd 109) 21 = .ok (.ixor, 1) := (congrArg (fun b => decode b 21) cd109).trans (by decide +kernel)
theorem d109_22 : decode (vm_cd 109) 22 = .ok (.iload_n 3, 1) := (congrArg (fun b => decode b 22) cd109).trans (by decide +kernel)
theorem d109_23 : decode (vm_cd 109) 23 = .ok (.invokevirtual 42, 3) := (congrArg (fun b => decode b 23) cd109).trans (by decide +kernel)
theorem d109_26 : decode (vm_cd 109) 26 = .ok (.aload_n 0, 1) := (congrArg (fun b => decode b 26) cd109).trans (by decide +kernel)
theorem d109_27 : decode (vm_cd 109) 27 = .ok (.iload_n 1, 1) := (congrArg (fun b => decode b 27) cd109).trans (by decide +kernel)
theorem d109_28 : decode (vm_cd 109) 28 = .ok (.iload_n 3, 1) := (congrArg (fun b => decode b 28) cd109).trans (by decide +kernel)
theorem d109_29 : decode (vm_cd 109) 29 = .ok (.invokevirtual 42, 3) := (congrArg (fun b => decode b 29) cd109).trans (by decide +kernel)
theorem d109_32 : decode (vm_cd 109) 32 = .ok (.if_icmp .gt 5, 3) := (congrArg (fun b => decode b 32) cd109).trans (by decide +kernel)
theorem d109_35 : decode (vm_cd 109) 35 = .ok (.iconst 0, 1) := (congrArg (fun b => decode b 35) cd109).trans (by decide +kernel)
theorem d109_36 : decode (vm_cd 109) 36 = .ok (.ireturn, 1) := (congrArg (fun b => decode b 36) cd109).trans (by decide +kernel)
theorem d109_37 : decode (vm_cd 109) 37 = .ok (.iinc 3 1, 3) := (congrArg (fun b => decode b 37) cd109).trans (by decide +kernel)
theorem d109_40 : decode (vm_cd 109) 40 = .ok (.goto (-38), 3) := (congrArg (fun b => decode b 40) cd109).trans (by decide +kernel)
theorem d109_43 : decode (vm_cd 109) 43 = .ok (.iconst 1, 1) := (congrArg (fun b => decode b 43) cd109).trans (by decide +kernel)
theorem d109_44 : decode (vm_cd 109) 44 = .ok (.ireturn, 1) := (congrArg (fun b => decode b 44) cd109).trans (by decide +kernel)
theorem f109_21 : vm_fl.lookup (vm_own 109, 21) = some (7, 3, 124) := by decide +kernel
theorem c109_42 : vm_ml.lookup (vm_own 109, 42) = some (0, 107, 2, 693, 672, 746, 7) := vm_lk (by decide +kernel)
theorem r109 : vm_rt 109 = (some .boolean) := by decide +kernel
theorem B_Te_allGain_0 {X : vX} {d : Nat} {M : vM} {Q : Option vV → vM → Prop} {l1 l2 : Int}  (k : vw X d 109 2 [vR 49, vI l1, vI l2, vI 0] [] M Q) : vw X d 109 0 [vR 49, vI l1, vI l2, vN] [] M Q := by
  refine w_ic (v := 0) d109_0 rfl ?_
  refine w_istore_nE (ls' := [vR 49, vI l1, vI l2, vI 0]) d109_1 (Nat.le_of_ble_eq_true rfl) rfl ?_
  exact k
theorem B_Te_allGain_2 {X : vX} {d : Nat} {M : vM} {Q : Option vV → vM → Prop} {l1 l2 l3 : Int}  (k1 : (M 49 3) ≤ l3 → vw X d 109 43 [vR 49, vI l1, vI l2, vI l3] [] M Q) (k2 : l3 < (M 49 3) → vw X d 109 10 [vR 49, vI l1, vI l2, vI l3] [] M Q) : vw X d 109 2 [vR 49, vI l1, vI l2, vI l3] [] M Q := by
  refine w_iload_n d109_2 rfl ?_
  refine w_aload_n d109_3 rfl ?_
  refine w_getf (a := 49) (v := vI (M 49 3)) d109_4 f109_21 rfl rfl rfl ?_
  exact w_icmp_ge d109_7 rfl (fun h => k1 h) (fun h => k2 h)
theorem B_Te_allGain_10 {X : vX} {d : Nat} {M : vM} {Q : Option vV → vM → Prop} {l1 l2 l3 : Int}  (k1 : (j_iand (j_ishr l2 l3) 1) = 0 → vw X d 109 37 [vR 49, vI l1, vI l2, vI l3] [] M Q) (k2 : ¬ (j_iand (j_ishr l2 l3) 1) = 0 → vw X d 109 18 [vR 49, vI l1, vI l2, vI l3] [] M Q) : vw X d 109 10 [vR 49, vI l1, vI l2, vI l3] [] M Q := by
  refine w_iload_n d109_10 rfl ?_
  refine w_iload_n d109_11 rfl ?_
  refine w_ishr d109_12 ?_
  refine w_ic (v := 1) d109_13 rfl ?_
  refine w_iand d109_14 ?_
  exact w_if_eq d109_15 rfl (fun h => k1 h) (fun h => k2 h)
theorem B_Te_allGain_18 {X : vX} {d : Nat} {M : vM} {Q : Option vV → vM → Prop} {l1 l2 l3 : Int}  (k : cq X d 107 [vR 49, vI (j_ixor l1 l2), vI l3] M (fun r M1 => wp X d 109 26 [vR 49, vI l1, vI l2, vI l3] (r.toList ++ []) (vS0, M1) (vP Q))) : vw X d 109 18 [vR 49, vI l1, vI l2, vI l3] [] M Q := by
  refine w_aload_n d109_18 rfl ?_
  refine w_iload_n d109_19 rfl ?_
  refine w_iload_n d109_20 rfl ?_
  refine w_ixor d109_21 ?_
  refine w_iload_n d109_22 rfl ?_
  exact w_inv0 (a := 49) (c := 7) d109_23 c109_42 rfl rfl rfl v107 (Nat.le_of_ble_eq_true rfl) (cq.cl (k))
theorem B_Te_allGain_26 {X : vX} {d : Nat} {M : vM} {Q : Option vV → vM → Prop} {l1 l2 l3 s0 : Int}  (k : cq X d 107 [vR 49, vI l1, vI l3] M (fun r M1 => wp X d 109 32 [vR 49, vI l1, vI l2, vI l3] (r.toList ++ [vI s0]) (vS0, M1) (vP Q))) : vw X d 109 26 [vR 49, vI l1, vI l2, vI l3] [vI s0] M Q := by
  refine w_aload_n d109_26 rfl ?_
  refine w_iload_n d109_27 rfl ?_
  refine w_iload_n d109_28 rfl ?_
  exact w_inv0 (a := 49) (c := 7) d109_29 c109_42 rfl rfl rfl v107 (Nat.le_of_ble_eq_true rfl) (cq.cl (k))
theorem B_Te_allGain_32 {X : vX} {d : Nat} {M : vM} {Q : Option vV → vM → Prop} {l1 l2 l3 s0 s1 : Int}  (k1 : s1 < s0 → vw X d 109 37 [vR 49, vI l1, vI l2, vI l3] [] M Q) (k2 : s0 ≤ s1 → vw X d 109 35 [vR 49, vI l1, vI l2, vI l3] [] M Q) : vw X d 109 32 [vR 49, vI l1, vI l2, vI l3] [vI s1, vI s0] M Q := by
  exact w_icmp_gt d109_32 rfl (fun h => k1 h) (fun h => k2 h)
theorem B_Te_allGain_35 {X : vX} {d : Nat} {M : vM} {Q : Option vV → vM → Prop} {l1 l2 l3 : Int}  (k : Q (some (vI 0)) M) : vw X d 109 35 [vR 49, vI l1, vI l2, vI l3] [] M Q := by
  refine w_ic (v := 0) d109_35 rfl ?_
  exact w_zret d109_36 r109 (by decide) ⟨_, rfl, k⟩
theorem B_Te_allGain_37 {X : vX} {d : Nat} {M : vM} {Q : Option vV → vM → Prop} {l1 l2 l3 : Int}  (k : vw X d 109 2 [vR 49, vI l1, vI l2, vI (w32 (l3 + 1))] [] M Q) : vw X d 109 37 [vR 49, vI l1, vI l2, vI l3] [] M Q := by
  refine w_iincE (ls' := [vR 49, vI l1, vI l2, vI (w32 (l3 + 1))]) d109_37 rfl rfl ?_
  refine w_goto (tgt := 2) d109_40 rfl ?_
  exact k
theorem B_Te_allGain_43 {X : vX} {d : Nat} {M : vM} {Q : Option vV → vM → Prop} {l1 l2 l3 : Int}  (k : Q (some (vI 1)) M) : vw X d 109 43 [vR 49, vI l1, vI l2, vI l3] [] M Q := by
  refine w_ic (v := 1) d109_43 rfl ?_
  exact w_zret d109_44 r109 (by decide) ⟨_, rfl, k⟩
theorem E_Te_allGain {X : vX} {d : Nat} {M : vM} {Q : Option vV → vM → Prop} {l1 l2 : Int} (k : vw X d 109 0 [vR 49, vI l1, vI l2, vN] [] M Q) : cq X (d + 1) 109 [vR 49, vI l1, vI l2] M Q := wc_in (Nat.le_of_ble_eq_true rfl) (Nat.le_of_ble_eq_true rfl) k
theorem cd111 : vm_cd 111 = cX9_isRate := rfl
theorem d111_0 : decode (vm_cd 111) 0 = .ok (.iload_n 0, 1) := (congrArg (fun b => decode b 0) cd111).trans (by decide +kernel)
theorem d111_1 : decode (vm_cd 111) 1 = .ok (.iconst 0, 1) := (congrArg (fun b => decode b 1) cd111).trans (by decide +kernel)
theorem d111_2 : decode (vm_cd 111) 2 = .ok (.bipush 40, 2) := (congrArg (fun b => decode b 2) cd111).trans (by decide +kernel)
theorem d111_4 : decode (vm_cd 111) 4 = .ok (.invokestatic 9, 3) := (congrArg (fun b => decode b 4) cd111).trans (by decide +kernel)
theorem d111_7 : decode (vm_cd 111) 7 = .ok (.ireturn, 1) := (congrArg (fun b => decode b 7) cd111).trans (by decide +kernel)
theorem c111_9 : vm_ml.lookup (vm_own 111, 9) = some (3, 179, 3, 976, 292, 0, 1) := vm_lk (by decide +kernel)
theorem r111 : vm_rt 111 = (some .boolean) := by decide +kernel
theorem B_Tw_isRate_0 {X : vX} {d : Nat} {M : vM} {Q : Option vV → vM → Prop} {l0 : Int}  (k : cq X d 179 [vI l0, vI 0, vI 40] M (fun r M1 => wp X d 111 7 [vI l0] (r.toList ++ []) (vS0, M1) (vP Q))) : vw X d 111 0 [vI l0] [] M Q := by
  refine w_iload_n d111_0 rfl ?_
  refine w_ic (v := 0) d111_1 rfl ?_
  refine w_bi (v := 40) d111_2 rfl ?_
  exact w_inv1 d111_4 c111_9 (by decide) rfl (Nat.le_of_ble_eq_true rfl) (cq.cl (k))
theorem B_Tw_isRate_7 {X : vX} {d : Nat} {M : vM} {Q : Option vV → vM → Prop} {l0 s0 : Int} (h1 : s0 = 0 ∨ s0 = 1) (k : Q (some (vI s0)) M) : vw X d 111 7 [vI l0] [vI s0] M Q := by
  exact w_zret d111_7 r111 h1 ⟨_, rfl, k⟩
theorem E_Tw_isRate {X : vX} {d : Nat} {M : vM} {Q : Option vV → vM → Prop} {l0 : Int} (k : vw X d 111 0 [vI l0] [] M Q) : cq X (d + 1) 111 [vI l0] M Q := wc_in (Nat.le_of_ble_eq_true rfl) (Nat.le_of_ble_eq_true rfl) k
theorem cd112 : vm_cd 112 = cX9_set := rfl
theorem d112_0 : decode (vm_cd 112) 0 = .ok (.aload_n 0, 1) := (congrArg (fun b => decode b 0) cd112).trans (by decide +kernel)
theorem d112_1 : decode (vm_cd 112) 1 = .ok (.iload_n 1, 1) := (congrArg (fun b => decode b 1) cd112).trans (by decide +kernel)
theorem d112_2 : decode (vm_cd 112) 2 = .ok (.putfield 15, 3) := (congrArg (fun b => decode b 2) cd112).trans (by decide +kernel)
theorem d112_5 : decode (vm_cd 112) 5 = .ok (.aload_n 0, 1) := (congrArg (fun b => decode b 5) cd112).trans (by decide +kernel)
theorem d112_6 : decode (vm_cd 112) 6 = .ok (.iload_n 2, 1) := (congrArg (fun b => decode b 6) cd112).trans (by decide +kernel)
theorem d112_7 : decode (vm_cd 112) 7 = .ok (.putfield 19, 3) := (congrArg (fun b => decode b 7) cd112).trans (by decide +kernel)
theorem d112_10 : decode (vm_cd 112) 10 = .ok (.aload_n 0, 1) := (congrArg (fun b => decode b 10) cd112).trans (by decide +kernel)
theorem d112_11 : decode (vm_cd 112) 11 = .ok (.iload_n 3, 1) := (congrArg (fun b => decode b 11) cd112).trans (by decide +kernel)
theorem d112_12 : decode (vm_cd 112) 12 = .ok (.putfield 22, 3) := (congrArg (fun b => decode b 12) cd112).trans (by decide +kernel)
theorem d112_15 : decode (vm_cd 112) 15 = .ok (.return_, 1) := (congrArg (fun b => decode b 15) cd112).trans (by decide +kernel)
theorem f112_15 : vm_fl.lookup (vm_own 112, 15) = some (8, 0, 240) := by decide +kernel
theorem f112_19 : vm_fl.lookup (vm_own 112, 19) = some (8, 1, 241) := by decide +kernel
theorem f112_22 : vm_fl.lookup (vm_own 112, 22) = some (8, 2, 242) := by decide +kernel
theorem r112 : vm_rt 112 = none := by decide +kernel
theorem B_Tw_set_0 {X : vX} {d : Nat} {M : vM} {Q : Option vV → vM → Prop} {l1 l2 l3 : Int} (hR : vRefs M)  (k : vRefs (vm_up (vm_up (vm_up M 77 0 l1) 77 1 l2) 77 2 l3) → Q none (vm_up (vm_up (vm_up M 77 0 l1) 77 1 l2) 77 2 l3)) : vw X d 112 0 [vR 77, vI l1, vI l2, vI l3] [] M Q := by
  refine w_aload_n d112_0 rfl ?_
  refine w_iload_n d112_1 rfl ?_
  refine w_putf (a := 77) (x := l1) d112_2 f112_15 rfl rfl rfl (Or.inl rfl) ?_
  refine w_aload_n d112_5 rfl ?_
  refine w_iload_n d112_6 rfl ?_
  refine w_putf (a := 77) (x := l2) d112_7 f112_19 rfl rfl rfl (Or.inl rfl) ?_
  refine w_aload_n d112_10 rfl ?_
  refine w_iload_n d112_11 rfl ?_
  refine w_putf (a := 77) (x := l3) d112_12 f112_22 rfl rfl rfl (Or.inl rfl) ?_
  exact w_vret d112_15 r112 ⟨_, rfl, k (vRefs_up (vRefs_up (vRefs_up hR ⟨by decide, by decide⟩) ⟨by decide, by decide⟩) ⟨by decide, by decide⟩)⟩
theorem E_Tw_set {X : vX} {d : Nat} {M : vM} {Q : Option vV → vM → Prop} {l1 l2 l3 : Int} (k : vw X d 112 0 [vR 77, vI l1, vI l2, vI l3] [] M Q) : cq X (d + 1) 112 [vR 77, vI l1, vI l2, vI l3] M Q := wc_in (Nat.le_of_ble_eq_true rfl) (Nat.le_of_ble_eq_true rfl) k
theorem cd113 : vm_cd 113 = cX9_taken := rfl
theorem d113_0 : decode (vm_cd 113) 0 = .ok (.iconst 0, 1) := (congrArg (fun b => decode b 0) cd113).trans (by decide +kernel)
theorem d113_1 : decode (vm_cd 113) 1 = .ok (.istore_n 3, 1) := (congrArg (fun b => decode b 1) cd113).trans (by decide +kernel)
theorem d113_2 : decode (vm_cd 113) 2 = .ok (.iconst 0, 1) := (congrArg (fun b => decode b 2) cd113).trans (by decide +kernel)
theorem d113_3 : decode (vm_cd 113) 3 = .ok (.istore 4, 2) := (congrArg (fun b => decode b 3) cd113).trans (by decide +kernel)
theorem d113_5 : decode (vm_cd 113) 5 = .ok (.iconst 0, 1) := (congrArg (fun b => decode b 5) cd113).trans (by decide +kernel)
theorem d113_6 : decode (vm_cd 113) 6 = .ok (.istore 5, 2) := (congrArg (fun b => decode b 6) cd113).trans (by decide +kernel)
theorem d113_8 : decode (vm_cd 113) 8 = .ok (.iload 5, 2) := (congrArg (fun b => decode b 8) cd113).trans (by decide +kernel)
theorem d113_10 : decode (vm_cd 113) 10 = .ok (.bipush 8, 2) := (congrArg (fun b => decode b 10) cd113).trans (by decide +kernel)
theorem d113_12 : decode (vm_cd 113) 12 = .ok (.if_icmp .gt 72, 3) := (congrArg (fun b => decode b 12) cd113).trans (by decide +kernel)
theorem d113_15 : decode (vm_cd 113) 15 = .ok (.aload_n 0, 1) := (congrArg (fun b => decode b 15) cd113).trans (by decide +kernel)
theorem d113_16 : decode (vm_cd 113) 16 = .ok (.iload 5, 2) := (congrArg (fun b => decode b 16) cd113).trans (by decide +kernel)
theorem d113_18 : decode (vm_cd 113) 18 = .ok (.iload_n 2, 1) := (congrArg (fun b => decode b 18) cd113).trans (by decide +kernel)
theorem d113_19 : decode (vm_cd 113) 19 = .ok (.invokevirtual 25, 3) := (congrArg (fun b => decode b 19) cd113).trans (by decide +kernel)
theorem d113_22 : decode (vm_cd 113) 22 = .ok (.istore 6, 2) := (congrArg (fun b => decode b 22) cd113).trans (by decide +kernel)
theorem d113_24 : decode (vm_cd 113) 24 = .ok (.iload_n 1, 1) := (congrArg (fun b => decode b 24) cd113).trans (by decide +kernel)
theorem d113_25 : decode (vm_cd 113) 25 = .ok (.iload 5, 2) := (congrArg (fun b => decode b 25) cd113).trans (by decide +kernel)
theorem d113_27 : decode (vm_cd 113) 27 = .ok (.imul, 1) := (congrArg (fun b => decode b 27) cd113).trans (by decide +kernel)
theorem d113_28 : decode (vm_cd 113) 28 = .ok (.iload_n 2, 1) := (congrArg (fun b => decode b 28) cd113).trans (by decide +kernel)
theorem d113_29 : decode (vm_cd 113) 29 = .ok (.iload 6, 2) := (congrArg (fun b => decode b 29) cd113).trans (by decide +kernel)
theorem d113_31 : decode (vm_cd 113) 31 = .ok (.imul, 1) := (congrArg (fun b => decode b 31) cd113).trans (by decide +kernel)
theorem d113_32 : decode (vm_cd 113) 32 = .ok (.iadd, 1) := (congrArg (fun b => decode b 32) cd113).trans (by decide +kernel)
theorem d113_33 : decode (vm_cd 113) 33 = .ok (.iload 5, 2) := (congrArg (fun b => decode b 33) cd113).trans (by decide +kernel)
theorem d113_35 : decode (vm_cd 113) 35 = .ok (.iload 5, 2) := (congrArg (fun b => decode b 35) cd113).trans (by decide +kernel)
theorem d113_37 : decode (vm_cd 113) 37 = .ok (.imul, 1) := (congrArg (fun b => decode b 37) cd113).trans (by decide +kernel)
theorem d113_38 : decode (vm_cd 113) 38 = .ok (.isub, 1) := (congrArg (fun b => decode b 38) cd113).trans (by decide +kernel)
theorem d113_39 : decode (vm_cd 113) 39 = .ok (.iload 6, 2) := (congrArg (fun b => decode b 39) cd113).trans (by decide +kernel)
theorem d113_41 : decode (vm_cd 113) 41 = .ok (.iload 6, 2) := (congrArg (fun b => decode b 41) cd113).trans (by decide +kernel)
theorem d113_43 : decode (vm_cd 113) 43 = .ok (.imul, 1) := (congrArg (fun b => decode b 43) cd113).trans (by decide +kernel)
theorem d113_44 : decode (vm_cd 113) 44 = .ok (.isub, 1) := (congrArg (fun b => decode b 44) cd113).trans (by decide +kernel)
theorem d113_45 : decode (vm_cd 113) 45 = .ok (.aload_n 0, 1) := (congrArg (fun b => decode b 45) cd113).trans (by decide +kernel)
theorem d113_46 : decode (vm_cd 113) 46 = .ok (.getfield 15, 3) := (congrArg (fun b => decode b 46) cd113).trans (by decide +kernel)
theorem d113_49 : decode (vm_cd 113) 49 = .ok (.iload 5, 2) := (congrArg (fun b => decode b 49) cd113).trans (by decide +kernel)
theorem d113_51 : decode (vm_cd 113) 51 = .ok (.imul, 1) := (congrArg (fun b => decode b 51) cd113).trans (by decide +kernel)
theorem d113_52 : decode (vm_cd 113) 52 = .ok (.iload 6, 2) := (congrArg (fun b => decode b 52) cd113).trans (by decide +kernel)
theorem d113_54 : decode (vm_cd 113) 54 = .ok (.imul, 1) := (congrArg (fun b => decode b 54) cd113).trans (by decide +kernel)
theorem d113_55 : decode (vm_cd 113) 55 = .ok (.isub, 1) := (congrArg (fun b => decode b 55) cd113).trans (by decide +kernel)
theorem d113_56 : decode (vm_cd 113) 56 = .ok (.istore 7, 2) := (congrArg (fun b => decode b 56) cd113).trans (by decide +kernel)
theorem d113_58 : decode (vm_cd 113) 58 = .ok (.iload 7, 2) := (congrArg (fun b => decode b 58) cd113).trans (by decide +kernel)
theorem d113_60 : decode (vm_cd 113) 60 = .ok (.iload 4, 2) := (congrArg (fun b => decode b 60) cd113).trans (by decide +kernel)
theorem d113_62 : decode (vm_cd 113) 62 = .ok (.if_icmp .le 16, 3) := (congrArg (fun b => decode b 62) cd113).trans (by decide +kernel)
theorem d113_65 : decode (vm_cd 113) 65 = .ok (.bipush 10, 2) := (congrArg (fun b => decode b 65) cd113).trans (by decide +kernel)
theorem d113_67 : decode (vm_cd 113) 67 = .ok (.iload 5, 2) := (congrArg (fun b => decode b 67) cd113).trans (by decide +kernel)
theorem d113_69 : decode (vm_cd 113) 69 = .ok (.imul, 1) := (congrArg (fun b => decode b 69) cd113).trans (by decide +kernel)
theorem d113_70 : decode (vm_cd 113) 70 = .ok (.iload 6, 2) := (congrArg (fun b => decode b 70) cd113).trans (by decide +kernel)
theorem d113_72 : decode (vm_cd 113) 72 = .ok (.iadd, 1) := (congrArg (fun b => decode b 72) cd113).trans (by decide +kernel)
theorem d113_73 : decode (vm_cd 113) 73 = .ok (.istore_n 3, 1) := (congrArg (fun b => decode b 73) cd113).trans (by decide +kernel)
theorem d113_74 : decode (vm_cd 113) 74 = .ok (.iload 7, 2) := (congrArg (fun b => decode b 74) cd113).trans (by decide +kernel)
theorem d113_76 : decode (vm_cd 113) 76 = .ok (.istore 4, 2) := (congrArg (fun b => decode b 76) cd113).trans (by decide +kernel)
theorem d113_78 : decode (vm_cd 113) 78 = .ok (.iinc 5 1, 3) := (congrArg (fun b => decode b 78) cd113).trans (by decide +kernel)
theorem d113_81 : decode (vm_cd 113) 81 = .ok (.goto (-73), 3) := (congrArg (fun b => decode b 81) cd113).trans (by decide +kernel)
theorem d113_84 : decode (vm_cd 113) 84 = .ok (.iload_n 3, 1) := (congrArg (fun b => decode b 84) cd113).trans (by decide +kernel)
theorem d113_85 : decode (vm_cd 113) 85 = .ok (.ireturn, 1) := (congrArg (fun b => decode b 85) cd113).trans (by decide +kernel)
theorem f113_15 : vm_fl.lookup (vm_own 113, 15) = some (8, 0, 240) := by decide +kernel
theorem c113_25 : vm_ml.lookup (vm_own 113, 25) = some (0, 114, 2, 981, 983, 33, 12) := vm_lk (by decide +kernel)
theorem r113 : vm_rt 113 = (some .int) := by decide +kernel
theorem B_Tw_taken_0 {X : vX} {d : Nat} {M : vM} {Q : Option vV → vM → Prop} {l1 l2 : Int}  (k : vw X d 113 8 [vR 77, vI l1, vI l2, vI 0, vI 0, vI 0, vN, vN] [] M Q) : vw X d 113 0 [vR 77, vI l1, vI l2, vN, vN, vN, vN, vN] [] M Q := by
  refine w_ic (v := 0) d113_0 rfl ?_
  refine w_istore_nE (ls' := [vR 77, vI l1, vI l2, vI 0, vN, vN, vN, vN]) d113_1 (Nat.le_of_ble_eq_true rfl) rfl ?_
  refine w_ic (v := 0) d113_2 rfl ?_
  refine w_istoreE (ls' := [vR 77, vI l1, vI l2, vI 0, vI 0, vN, vN, vN]) d113_3 (Nat.le_of_ble_eq_true rfl) rfl ?_
  refine w_ic (v := 0) d113_5 rfl ?_
  refine w_istoreE (ls' := [vR 77, vI l1, vI l2, vI 0, vI 0, vI 0, vN, vN]) d113_6 (Nat.le_of_ble_eq_true rfl) rfl ?_
  exact k
theorem B_Tw_taken_8 {X : vX} {d : Nat} {M : vM} {Q : Option vV → vM → Prop} {l1 l2 l3 l4 l5 : Int} {w6 w7 : vV}  (k1 : 8 < l5 → vw X d 113 84 [vR 77, vI l1, vI l2, vI l3, vI l4, vI l5, w6, w7] [] M Q) (k2 : l5 ≤ 8 → vw X d 113 15 [vR 77, vI l1, vI l2, vI l3, vI l4, vI l5, w6, w7] [] M Q) : vw X d 113 8 [vR 77, vI l1, vI l2, vI l3, vI l4, vI l5, w6, w7] [] M Q := by
  refine w_iload d113_8 rfl ?_
  refine w_bi (v := 8) d113_10 rfl ?_
  exact w_icmp_gt d113_12 rfl (fun h => k1 h) (fun h => k2 h)
theorem B_Tw_taken_15 {X : vX} {d : Nat} {M : vM} {Q : Option vV → vM → Prop} {l1 l2 l3 l4 l5 : Int} {w6 w7 : vV}  (k : cq X d 114 [vR 77, vI l5, vI l2] M (fun r M1 => wp X d 113 22 [vR 77, vI l1, vI l2, vI l3, vI l4, vI l5, w6, w7] (r.toList ++ []) (vS0, M1) (vP Q))) : vw X d 113 15 [vR 77, vI l1, vI l2, vI l3, vI l4, vI l5, w6, w7] [] M Q := by
  refine w_aload_n d113_15 rfl ?_
  refine w_iload d113_16 rfl ?_
  refine w_iload_n d113_18 rfl ?_
  exact w_inv0 (a := 77) (c := 8) d113_19 c113_25 rfl rfl rfl v114 (Nat.le_of_ble_eq_true rfl) (cq.cl (k))
theorem B_Tw_taken_22 {X : vX} {d : Nat} {M : vM} {Q : Option vV → vM → Prop} {l1 l2 l3 l4 l5 s0 : Int} {w6 w7 : vV}  (k1 : (w32 ((w32 ((w32 ((w32 ((w32 (l1 * l5)) + (w32 (l2 * s0)))) - (w32 (l5 * l5)))) - (w32 (s0 * s0)))) - (w32 ((w32 ((M 77 0) * l5)) * s0)))) ≤ l4 → vw X d 113 78 [vR 77, vI l1, vI l2, vI l3, vI l4, vI l5, vI s0, vI (w32 ((w32 ((w32 ((w32 ((w32 (l1 * l5)) + (w32 (l2 * s0)))) - (w32 (l5 * l5)))) - (w32 (s0 * s0)))) - (w32 ((w32 ((M 77 0) * l5)) * s0))))] [] M Q) (k2 : l4 < (w32 ((w32 ((w32 ((w32 ((w32 (l1 * l5)) + (w32 (l2 * s0)))) - (w32 (l5 * l5)))) - (w32 (s0 * s0)))) - (w32 ((w32 ((M 77 0) * l5)) * s0)))) → vw X d 113 65 [vR 77, vI l1, vI l2, vI l3, vI l4, vI l5, vI s0, vI (w32 ((w32 ((w32 ((w32 ((w32 (l1 * l5)) + (w32 (l2 * s0)))) - (w32 (l5 * l5)))) - (w32 (s0 * s0)))) - (w32 ((w32 ((M 77 0) * l5)) * s0))))] [] M Q) : vw X d 113 22 [vR 77, vI l1, vI l2, vI l3, vI l4, vI l5, w6, w7] [vI s0] M Q := by
  refine w_istoreE (ls' := [vR 77, vI l1, vI l2, vI l3, vI l4, vI l5, vI s0, w7]) d113_22 (Nat.le_of_ble_eq_true rfl) rfl ?_
  refine w_iload_n d113_24 rfl ?_
  refine w_iload d113_25 rfl ?_
  refine w_imul d113_27 ?_
  refine w_iload_n d113_28 rfl ?_
  refine w_iload d113_29 rfl ?_
  refine w_imul d113_31 ?_
  refine w_iadd d113_32 ?_
  refine w_iload d113_33 rfl ?_
  refine w_iload d113_35 rfl ?_
  refine w_imul d113_37 ?_
  refine w_isub d113_38 ?_
  refine w_iload d113_39 rfl ?_
  refine w_iload d113_41 rfl ?_
  refine w_imul d113_43 ?_
  refine w_isub d113_44 ?_
  refine w_aload_n d113_45 rfl ?_
  refine w_getf (a := 77) (v := vI (M 77 0)) d113_46 f113_15 rfl rfl rfl ?_
  refine w_iload d113_49 rfl ?_
  refine w_imul d113_51 ?_
  refine w_iload d113_52 rfl ?_
  refine w_imul d113_54 ?_
  refine w_isub d113_55 ?_
  refine w_istoreE (ls' := [vR 77, vI l1, vI l2, vI l3, vI l4, vI l5, vI s0, vI (w32 ((w32 ((w32 ((w32 ((w32 (l1 * l5)) + (w32 (l2 * s0)))) - (w32 (l5 * l5)))) - (w32 (s0 * s0)))) - (w32 ((w32 ((M 77 0) * l5)) * s0))))]) d113_56 (Nat.le_of_ble_eq_true rfl) rfl ?_
  refine w_iload d113_58 rfl ?_
  refine w_iload d113_60 rfl ?_
  exact w_icmp_le d113_62 rfl (fun h => k1 h) (fun h => k2 h)
theorem B_Tw_taken_65 {X : vX} {d : Nat} {M : vM} {Q : Option vV → vM → Prop} {l1 l2 l3 l4 l5 l6 l7 : Int}  (k : vw X d 113 8 [vR 77, vI l1, vI l2, vI (w32 ((w32 (10 * l5)) + l6)), vI l7, vI (w32 (l5 + 1)), vI l6, vI l7] [] M Q) : vw X d 113 65 [vR 77, vI l1, vI l2, vI l3, vI l4, vI l5, vI l6, vI l7] [] M Q := by
  refine w_bi (v := 10) d113_65 rfl ?_
  refine w_iload d113_67 rfl ?_
  refine w_imul d113_69 ?_
  refine w_iload d113_70 rfl ?_
  refine w_iadd d113_72 ?_
  refine w_istore_nE (ls' := [vR 77, vI l1, vI l2, vI (w32 ((w32 (10 * l5)) + l6)), vI l4, vI l5, vI l6, vI l7]) d113_73 (Nat.le_of_ble_eq_true rfl) rfl ?_
  refine w_iload d113_74 rfl ?_
  refine w_istoreE (ls' := [vR 77, vI l1, vI l2, vI (w32 ((w32 (10 * l5)) + l6)), vI l7, vI l5, vI l6, vI l7]) d113_76 (Nat.le_of_ble_eq_true rfl) rfl ?_
  refine w_iincE (ls' := [vR 77, vI l1, vI l2, vI (w32 ((w32 (10 * l5)) + l6)), vI l7, vI (w32 (l5 + 1)), vI l6, vI l7]) d113_78 rfl rfl ?_
  refine w_goto (tgt := 8) d113_81 rfl ?_
  exact k
theorem B_Tw_taken_78 {X : vX} {d : Nat} {M : vM} {Q : Option vV → vM → Prop} {l1 l2 l3 l4 l5 l6 l7 : Int}  (k : vw X d 113 8 [vR 77, vI l1, vI l2, vI l3, vI l4, vI (w32 (l5 + 1)), vI l6, vI l7] [] M Q) : vw X d 113 78 [vR 77, vI l1, vI l2, vI l3, vI l4, vI l5, vI l6, vI l7] [] M Q := by
  refine w_iincE (ls' := [vR 77, vI l1, vI l2, vI l3, vI l4, vI (w32 (l5 + 1)), vI l6, vI l7]) d113_78 rfl rfl ?_
  refine w_goto (tgt := 8) d113_81 rfl ?_
  exact k
theorem B_Tw_taken_84 {X : vX} {d : Nat} {M : vM} {Q : Option vV → vM → Prop} {l1 l2 l3 l4 l5 : Int} {w6 w7 : vV}  (k : Q (some (vI l3)) M) : vw X d 113 84 [vR 77, vI l1, vI l2, vI l3, vI l4, vI l5, w6, w7] [] M Q := by
  refine w_iload_n d113_84 rfl ?_
  exact w_iret d113_85 r113 ⟨_, rfl, k⟩
theorem E_Tw_taken {X : vX} {d : Nat} {M : vM} {Q : Option vV → vM → Prop} {l1 l2 : Int} (k : vw X d 113 0 [vR 77, vI l1, vI l2, vN, vN, vN, vN, vN] [] M Q) : cq X (d + 1) 113 [vR 77, vI l1, vI l2] M Q := wc_in (Nat.le_of_ble_eq_true rfl) (Nat.le_of_ble_eq_true rfl) k
theorem cd114 : vm_cd 114 = cX9_bestBeside := rfl
theorem d114_0 : decode (vm_cd 114) 0 = .ok (.iconst 0, 1) := (congrArg (fun b => decode b 0) cd114).trans (by decide +kernel)
theorem d114_1 : decode (vm_cd 114) 1 = .ok (.iload_n 2, 1) := (congrArg (fun b => decode b 1) cd114).trans (by decide +kernel)
theorem d114_2 : decode (vm_cd 114) 2 = .ok (.aload_n 0, 1) := (congrArg (fun b => decode b 2) cd114).trans (by decide +kernel)
theorem d114_3 : decode (vm_cd 114) 3 = .ok (.getfield 15, 3) := (congrArg (fun b => decode b 3) cd114).trans (by decide +kernel)
theorem d114_6 : decode (vm_cd 114) 6 = .ok (.iload_n 1, 1) := (congrArg (fun b => decode b 6) cd114).trans (by decide +kernel)
theorem d114_7 : decode (vm_cd 114) 7 = .ok (.imul, 1) := (congrArg (fun b => decode b 7) cd114).trans (by decide +kernel)
theorem d114_8 : decode (vm_cd 114) 8 = .ok (.isub, 1) := (congrArg (fun b => decode b 8) cd114).trans (by decide +kernel)
theorem d114_9 : decode (vm_cd 114) 9 = .ok (.iconst 2, 1) := (congrArg (fun b => decode b 9) cd114).trans (by decide +kernel)
theorem d114_10 : decode (vm_cd 114) 10 = .ok (.idiv, 1) := (congrArg (fun b => decode b 10) cd114).trans (by decide +kernel)
theorem d114_11 : decode (vm_cd 114) 11 = .ok (.bipush 8, 2) := (congrArg (fun b => decode b 11) cd114).trans (by decide +kernel)
theorem d114_13 : decode (vm_cd 114) 13 = .ok (.invokestatic 29, 3) := (congrArg (fun b => decode b 13) cd114).trans (by decide +kernel)
theorem d114_16 : decode (vm_cd 114) 16 = .ok (.invokestatic 34, 3) := (congrArg (fun b => decode b 16) cd114).trans (by decide +kernel)
theorem d114_19 : decode (vm_cd 114) 19 = .ok (.ireturn, 1) := (congrArg (fun b => decode b 19) cd114).trans (by decide +kernel)
theorem f114_15 : vm_fl.lookup (vm_own 114, 15) = some (8, 0, 240) := by decide +kernel
theorem c114_29 : vm_ml.lookup (vm_own 114, 29) = some (1, 286, 2, 985, 407, 0, 3) := vm_lk (by decide +kernel)
theorem c114_34 : vm_ml.lookup (vm_own 114, 34) = some (1, 284, 2, 986, 410, 0, 3) := vm_lk (by decide +kernel)
theorem r114 : vm_rt 114 = (some .int) := by decide +kernel
theorem B_Tw_bestBeside_0 {X : vX} {d : Nat} {M : vM} {Q : Option vV → vM → Prop} {l1 l2 : Int}  (k : cq X d 286 [vI (j_idiv (w32 (l2 - (w32 ((M 77 0) * l1)))) 2), vI 8] M (fun r M1 => wp X d 114 16 [vR 77, vI l1, vI l2] (r.toList ++ [vI 0]) (vS0, M1) (vP Q))) : vw X d 114 0 [vR 77, vI l1, vI l2] [] M Q := by
  refine w_ic (v := 0) d114_0 rfl ?_
  refine w_iload_n d114_1 rfl ?_
  refine w_aload_n d114_2 rfl ?_
  refine w_getf (a := 77) (v := vI (M 77 0)) d114_3 f114_15 rfl rfl rfl ?_
  refine w_iload_n d114_6 rfl ?_
  refine w_imul d114_7 ?_
  refine w_isub d114_8 ?_
  refine w_ic (v := 2) d114_9 rfl ?_
  refine w_idiv d114_10 (by decide) ?_
  refine w_bi (v := 8) d114_11 rfl ?_
  exact w_inv1 d114_13 c114_29 (by decide) rfl (Nat.le_of_ble_eq_true rfl) (cq.cl (k))
theorem B_Tw_bestBeside_16 {X : vX} {d : Nat} {M : vM} {Q : Option vV → vM → Prop} {l1 l2 s0 s1 : Int}  (k : cq X d 284 [vI s0, vI s1] M (fun r M1 => wp X d 114 19 [vR 77, vI l1, vI l2] (r.toList ++ []) (vS0, M1) (vP Q))) : vw X d 114 16 [vR 77, vI l1, vI l2] [vI s1, vI s0] M Q := by
  exact w_inv1 d114_16 c114_34 (by decide) rfl (Nat.le_of_ble_eq_true rfl) (cq.cl (k))
theorem B_Tw_bestBeside_19 {X : vX} {d : Nat} {M : vM} {Q : Option vV → vM → Prop} {l1 l2 s0 : Int}  (k : Q (some (vI s0)) M) : vw X d 114 19 [vR 77, vI l1, vI l2] [vI s0] M Q := by
  exact w_iret d114_19 r114 ⟨_, rfl, k⟩
theorem E_Tw_bestBeside {X : vX} {d : Nat} {M : vM} {Q : Option vV → vM → Prop} {l1 l2 : Int} (k : vw X d 114 0 [vR 77, vI l1, vI l2] [] M Q) : cq X (d + 1) 114 [vR 77, vI l1, vI l2] M Q := wc_in (Nat.le_of_ble_eq_true rfl) (Nat.le_of_ble_eq_true rfl) k
theorem cd115 : vm_cd 115 = cX9_bestRates := rfl
theorem d115_0 : decode (vm_cd 115) 0 = .ok (.iload_n 1, 1) := (congrArg (fun b => decode b 0) cd115).trans (by decide +kernel)
theorem d115_1 : decode (vm_cd 115) 1 = .ok (.iconst 2, 1) := (congrArg (fun b => decode b 1) cd115).trans (by decide +kernel)
theorem d115_2 : decode (vm_cd 115) 2 = .ok (.if_icmp .ne 7, 3) := (congrArg (fun b => decode b 2) cd115).trans (by decide +kernel)
theorem d115_5 : decode (vm_cd 115) 5 = .ok (.iconst 0, 1) := (congrArg (fun b => decode b 5) cd115).trans (by decide +kernel)
theorem d115_6 : decode (vm_cd 115) 6 = .ok (.goto 5, 3) := (congrArg (fun b => decode b 6) cd115).trans (by decide +kernel)
theorem d115_9 : decode (vm_cd 115) 9 = .ok (.bipush 40, 2) := (congrArg (fun b => decode b 9) cd115).trans (by decide +kernel)
theorem d115_11 : decode (vm_cd 115) 11 = .ok (.istore_n 2, 1) := (congrArg (fun b => decode b 11) cd115).trans (by decide +kernel)
theorem d115_12 : decode (vm_cd 115) 12 = .ok (.iload_n 1, 1) := (congrArg (fun b => decode b 12) cd115).trans (by decide +kernel)
theorem d115_13 : decode (vm_cd 115) 13 = .ok (.iconst 1, 1) := (congrArg (fun b => decode b 13) cd115).trans (by decide +kernel)
theorem d115_14 : decode (vm_cd 115) 14 = .ok (.if_icmp .ne 7, 3) := (congrArg (fun b => decode b 14) cd115).trans (by decide +kernel)
theorem d115_17 : decode (vm_cd 115) 17 = .ok (.iconst 0, 1) := (congrArg (fun b => decode b 17) cd115).trans (by decide +kernel)
theorem d115_18 : decode (vm_cd 115) 18 = .ok (.goto 5, 3) := (congrArg (fun b => decode b 18) cd115).trans (by decide +kernel)
theorem d115_21 : decode (vm_cd 115) 21 = .ok (.bipush 40, 2) := (congrArg (fun b => decode b 21) cd115).trans (by decide +kernel)
theorem d115_23 : decode (vm_cd 115) 23 = .ok (.istore_n 3, 1) := (congrArg (fun b => decode b 23) cd115).trans (by decide +kernel)
theorem d115_24 : decode (vm_cd 115) 24 = .ok (.iconst 0, 1) := (congrArg (fun b => decode b 24) cd115).trans (by decide +kernel)
theorem d115_25 : decode (vm_cd 115) 25 = .ok (.istore 4, 2) := (congrArg (fun b => decode b 25) cd115).trans (by decide +kernel)
theorem d115_27 : decode (vm_cd 115) 27 = .ok (.iconst 0, 1) := (congrArg (fun b => decode b 27) cd115).trans (by decide +kernel)
theorem d115_28 : decode (vm_cd 115) 28 = .ok (.istore 5, 2) := (congrArg (fun b => decode b 28) cd115).trans (by decide +kernel)
theorem d115_30 : decode (vm_cd 115) 30 = .ok (.iconst 0, 1) := (congrArg (fun b => decode b 30) cd115).trans (by decide +kernel)
theorem d115_31 : decode (vm_cd 115) 31 = .ok (.istore 6, 2) := (congrArg (fun b => decode b 31) cd115).trans (by decide +kernel)
theorem d115_33 : decode (vm_cd 115) 33 = .ok (.iload 6, 2) := (congrArg (fun b => decode b 33) cd115).trans (by decide +kernel)
theorem d115_35 : decode (vm_cd 115) 35 = .ok (.iload_n 2, 1) := (congrArg (fun b => decode b 35) cd115).trans (by decide +kernel)
theorem d115_36 : decode (vm_cd 115) 36 = .ok (.if_icmp .gt 84, 3) := (congrArg (fun b => decode b 36) cd115).trans (by decide +kernel)
theorem d115_39 : decode (vm_cd 115) 39 = .ok (.iconst 0, 1) := (congrArg (fun b => decode b 39) cd115).trans (by decide +kernel)
theorem d115_40 : decode (vm_cd 115) 40 = .ok (.istore 7, 2) := (congrArg (fun b => decode b 40) cd115).trans (by decide +kernel)
theorem d115_42 : decode (vm_cd 115) 42 = .ok (.iload 7, 2) := (congrArg (fun b => decode b 42) cd115).trans (by decide +kernel)
theorem d115_44 : decode (vm_cd 115) 44 = .ok (.iload_n 3, 1) := (congrArg (fun b => decode b 44) cd115).trans (by decide +kernel)
theorem d115_45 : decode (vm_cd 115) 45 = .ok (.if_icmp .gt 69, 3) := (congrArg (fun b => decode b 45) cd115).trans (by decide +kernel)
theorem d115_48 : decode (vm_cd 115) 48 = .ok (.aload_n 0, 1) := (congrArg (fun b => decode b 48) cd115).trans (by decide +kernel)
theorem d115_49 : decode (vm_cd 115) 49 = .ok (.iload 6, 2) := (congrArg (fun b => decode b 49) cd115).trans (by decide +kernel)
theorem d115_51 : decode (vm_cd 115) 51 = .ok (.iload 7, 2) := (congrArg (fun b => decode b 51) cd115).trans (by decide +kernel)
theorem d115_53 : decode (vm_cd 115) 53 = .ok (.invokevirtual 37, 3) := (congrArg (fun b => decode b 53) cd115).trans (by decide +kernel)
theorem d115_56 : decode (vm_cd 115) 56 = .ok (.istore 8, 2) := (congrArg (fun b => decode b 56) cd115).trans (by decide +kernel)
theorem d115_58 : decode (vm_cd 115) 58 = .ok (.aload_n 0, 1) := (congrArg (fun b => decode b 58) cd115).trans (by decide +kernel)
theorem d115_59 : decode (vm_cd 115) 59 = .ok (.getfield 19, 3) := (congrArg (fun b => decode b 59) cd115).trans (by decide +kernel)
theorem d115_62 : decode (vm_cd 115) 62 = .ok (.iload 6, 2) := (congrArg (fun b => decode b 62) cd115).trans (by decide +kernel)
theorem d115_64 : decode (vm_cd 115) 64 = .ok (.isub, 1) := (congrArg (fun b => decode b 64) cd115).trans (by decide +kernel)
theorem d115_65 : decode (vm_cd 115) 65 = .ok (.iload 8, 2) := (congrArg (fun b => decode b 65) cd115).trans (by decide +kernel)
theorem d115_67 : decode (vm_cd 115) 67 = .ok (.bipush 10, 2) := (congrArg (fun b => decode b 67) cd115).trans (by decide +kernel)
theorem d115_69 : decode (vm_cd 115) 69 = .ok (.idiv, 1) := (congrArg (fun b => decode b 69) cd115).trans (by decide +kernel)
theorem d115_70 : decode (vm_cd 115) 70 = .ok (.imul, 1) := (congrArg (fun b => decode b 70) cd115).trans (by decide +kernel)
theorem d115_71 : decode (vm_cd 115) 71 = .ok (.aload_n 0, 1) := (congrArg (fun b => decode b 71) cd115).trans (by decide +kernel)
theorem d115_72 : decode (vm_cd 115) 72 = .ok (.getfield 22, 3) := (congrArg (fun b => decode b 72) cd115).trans (by decide +kernel)
theorem d115_75 : decode (vm_cd 115) 75 = .ok (.iload 7, 2) := (congrArg (fun b => decode b 75) cd115).trans (by decide +kernel)
theorem d115_77 : decode (vm_cd 115) 77 = .ok (.isub, 1) := (congrArg (fun b => decode b 77) cd115).trans (by decide +kernel)
theorem d115_78 : decode (vm_cd 115) 78 = .ok (.iload 8, 2) := (congrArg (fun b => decode b 78) cd115).trans (by decide +kernel)
theorem d115_80 : decode (vm_cd 115) 80 = .ok (.bipush 10, 2) := (congrArg (fun b => decode b 80) cd115).trans (by decide +kernel)
theorem d115_82 : decode (vm_cd 115) 82 = .ok (.irem, 1) := (congrArg (fun b => decode b 82) cd115).trans (by decide +kernel)
theorem d115_83 : decode (vm_cd 115) 83 = .ok (.imul, 1) := (congrArg (fun b => decode b 83) cd115).trans (by decide +kernel)
theorem d115_84 : decode (vm_cd 115) 84 = .ok (.iadd, 1) := (congrArg (fun b => decode b 84) cd115).trans (by decide +kernel)
theorem d115_85 : decode (vm_cd 115) 85 = .ok (.istore 9, 2) := (congrArg (fun b => decode b 85) cd115).trans (by decide +kernel)
theorem d115_87 : decode (vm_cd 115) 87 = .ok (.iload 9, 2) := (congrArg (fun b => decode b 87) cd115).trans (by decide +kernel)
theorem d115_89 : decode (vm_cd 115) 89 = .ok (.iload 5, 2) := (congrArg (fun b => decode b 89) cd115).trans (by decide +kernel)
theorem d115_91 : decode (vm_cd 115) 91 = .ok (.if_icmp .le 17, 3) := (congrArg (fun b => decode b 91) cd115).trans (by decide +kernel)
theorem d115_94 : decode (vm_cd 115) 94 = .ok (.bipush 100, 2) := (congrArg (fun b => decode b 94) cd115).trans (by decide +kernel)
theorem d115_96 : decode (vm_cd 115) 96 = .ok (.iload 6, 2) := (congrArg (fun b => decode b 96) cd115).trans (by decide +kernel)
theorem d115_98 : decode (vm_cd 115) 98 = .ok (.imul, 1) := (congrArg (fun b => decode b 98) cd115).trans (by decide +kernel)
theorem d115_99 : decode (vm_cd 115) 99 = .ok (.iload 7, 2) := (congrArg (fun b => decode b 99) cd115).trans (by decide +kernel)
theorem d115_101 : decode (vm_cd 115) 101 = .ok (.iadd, 1) := (congrArg (fun b => decode b 101) cd115).trans (by decide +kernel)
theorem d115_102 : decode (vm_cd 115) 102 = .ok (.istore 4, 2) := (congrArg (fun b => decode b 102) cd115).trans (by decide +kernel)
theorem d115_104 : decode (vm_cd 115) 104 = .ok (.iload 9, 2) := (congrArg (fun b => decode b 104) cd115).trans (by decide +kernel)
theorem d115_106 : decode (vm_cd 115) 106 = .ok (.istore 5, 2) := (congrArg (fun b => decode b 106) cd115).trans (by decide +kernel)
theorem d115_108 : decode (vm_cd 115) 108 = .ok (.iinc 7 1, 3) := (congrArg (fun b => decode b 108) cd115).trans (by decide +kernel)
theorem d115_111 : decode (vm_cd 115) 111 = .ok (.goto (-69), 3) := (congrArg (fun b => decode b 111) cd115).trans (by decide +kernel)
theorem d115_114 : decode (vm_cd 115) 114 = .ok (.iinc 6 1, 3) := (congrArg (fun b => decode b 114) cd115).trans (by decide +kernel)
theorem d115_117 : decode (vm_cd 115) 117 = .ok (.goto (-84), 3) := (congrArg (fun b => decode b 117) cd115).trans (by decide +kernel)
theorem d115_120 : decode (vm_cd 115) 120 = .ok (.iload 4, 2) := (congrArg (fun b => decode b 120) cd115).trans (by decide +kernel)
theorem d115_122 : decode (vm_cd 115) 122 = .ok (.ireturn, 1) := (congrArg (fun b => decode b 122) cd115).trans (by decide +kernel)
theorem f115_19 : vm_fl.lookup (vm_own 115, 19) = some (8, 1, 241) := by decide +kernel
theorem f115_22 : vm_fl.lookup (vm_own 115, 22) = some (8, 2, 242) := by decide +kernel
theorem c115_37 : vm_ml.lookup (vm_own 115, 37) = some (0, 113, 2, 995, 978, 1052, 12) := vm_lk (by decide +kernel)
theorem r115 : vm_rt 115 = (some .int) := by decide +kernel
theorem B_Tw_bestRates_0 {X : vX} {d : Nat} {M : vM} {Q : Option vV → vM → Prop} {l1 : Int}  (k1 : ¬ l1 = 2 → vw X d 115 9 [vR 77, vI l1, vN, vN, vN, vN, vN, vN, vN, vN] [] M Q) (k2 : l1 = 2 → vw X d 115 5 [vR 77, vI l1, vN, vN, vN, vN, vN, vN, vN, vN] [] M Q) : vw X d 115 0 [vR 77, vI l1, vN, vN, vN, vN, vN, vN, vN, vN] [] M Q := by
  refine w_iload_n d115_0 rfl ?_
  refine w_ic (v := 2) d115_1 rfl ?_
  exact w_icmp_ne d115_2 rfl (fun h => k1 h) (fun h => k2 h)
theorem B_Tw_bestRates_5 {X : vX} {d : Nat} {M : vM} {Q : Option vV → vM → Prop} {l1 : Int}  (k1 : ¬ l1 = 1 → vw X d 115 21 [vR 77, vI l1, vI 0, vN, vN, vN, vN, vN, vN, vN] [] M Q) (k2 : l1 = 1 → vw X d 115 17 [vR 77, vI l1, vI 0, vN, vN, vN, vN, vN, vN, vN] [] M Q) : vw X d 115 5 [vR 77, vI l1, vN, vN, vN, vN, vN, vN, vN, vN] [] M Q := by
  refine w_ic (v := 0) d115_5 rfl ?_
  refine w_goto (tgt := 11) d115_6 rfl ?_
  refine w_istore_nE (ls' := [vR 77, vI l1, vI 0, vN, vN, vN, vN, vN, vN, vN]) d115_11 (Nat.le_of_ble_eq_true rfl) rfl ?_
  refine w_iload_n d115_12 rfl ?_
  refine w_ic (v := 1) d115_13 rfl ?_
  exact w_icmp_ne d115_14 rfl (fun h => k1 h) (fun h => k2 h)
theorem B_Tw_bestRates_9 {X : vX} {d : Nat} {M : vM} {Q : Option vV → vM → Prop} {l1 : Int}  (k1 : ¬ l1 = 1 → vw X d 115 21 [vR 77, vI l1, vI 40, vN, vN, vN, vN, vN, vN, vN] [] M Q) (k2 : l1 = 1 → vw X d 115 17 [vR 77, vI l1, vI 40, vN, vN, vN, vN, vN, vN, vN] [] M Q) : vw X d 115 9 [vR 77, vI l1, vN, vN, vN, vN, vN, vN, vN, vN] [] M Q := by
  refine w_bi (v := 40) d115_9 rfl ?_
  refine w_istore_nE (ls' := [vR 77, vI l1, vI 40, vN, vN, vN, vN, vN, vN, vN]) d115_11 (Nat.le_of_ble_eq_true rfl) rfl ?_
  refine w_iload_n d115_12 rfl ?_
  refine w_ic (v := 1) d115_13 rfl ?_
  exact w_icmp_ne d115_14 rfl (fun h => k1 h) (fun h => k2 h)
theorem B_Tw_bestRates_17 {X : vX} {d : Nat} {M : vM} {Q : Option vV → vM → Prop} {l1 l2 : Int}  (k : vw X d 115 33 [vR 77, vI l1, vI l2, vI 0, vI 0, vI 0, vI 0, vN, vN, vN] [] M Q) : vw X d 115 17 [vR 77, vI l1, vI l2, vN, vN, vN, vN, vN, vN, vN] [] M Q := by
  refine w_ic (v := 0) d115_17 rfl ?_
  refine w_goto (tgt := 23) d115_18 rfl ?_
  refine w_istore_nE (ls' := [vR 77, vI l1, vI l2, vI 0, vN, vN, vN, vN, vN, vN]) d115_23 (Nat.le_of_ble_eq_true rfl) rfl ?_
  refine w_ic (v := 0) d115_24 rfl ?_
  refine w_istoreE (ls' := [vR 77, vI l1, vI l2, vI 0, vI 0, vN, vN, vN, vN, vN]) d115_25 (Nat.le_of_ble_eq_true rfl) rfl ?_
  refine w_ic (v := 0) d115_27 rfl ?_
  refine w_istoreE (ls' := [vR 77, vI l1, vI l2, vI 0, vI 0, vI 0, vN, vN, vN, vN]) d115_28 (Nat.le_of_ble_eq_true rfl) rfl ?_
  refine w_ic (v := 0) d115_30 rfl ?_
  refine w_istoreE (ls' := [vR 77, vI l1, vI l2, vI 0, vI 0, vI 0, vI 0, vN, vN, vN]) d115_31 (Nat.le_of_ble_eq_true rfl) rfl ?_
  exact k
theorem B_Tw_bestRates_21 {X : vX} {d : Nat} {M : vM} {Q : Option vV → vM → Prop} {l1 l2 : Int}  (k : vw X d 115 33 [vR 77, vI l1, vI l2, vI 40, vI 0, vI 0, vI 0, vN, vN, vN] [] M Q) : vw X d 115 21 [vR 77, vI l1, vI l2, vN, vN, vN, vN, vN, vN, vN] [] M Q := by
  refine w_bi (v := 40) d115_21 rfl ?_
  refine w_istore_nE (ls' := [vR 77, vI l1, vI l2, vI 40, vN, vN, vN, vN, vN, vN]) d115_23 (Nat.le_of_ble_eq_true rfl) rfl ?_
  refine w_ic (v := 0) d115_24 rfl ?_
  refine w_istoreE (ls' := [vR 77, vI l1, vI l2, vI 40, vI 0, vN, vN, vN, vN, vN]) d115_25 (Nat.le_of_ble_eq_true rfl) rfl ?_
  refine w_ic (v := 0) d115_27 rfl ?_
  refine w_istoreE (ls' := [vR 77, vI l1, vI l2, vI 40, vI 0, vI 0, vN, vN, vN, vN]) d115_28 (Nat.le_of_ble_eq_true rfl) rfl ?_
  refine w_ic (v := 0) d115_30 rfl ?_
  refine w_istoreE (ls' := [vR 77, vI l1, vI l2, vI 40, vI 0, vI 0, vI 0, vN, vN, vN]) d115_31 (Nat.le_of_ble_eq_true rfl) rfl ?_
  exact k
theorem B_Tw_bestRates_33 {X : vX} {d : Nat} {M : vM} {Q : Option vV → vM → Prop} {l1 l2 l3 l4 l5 l6 : Int} {w7 w8 w9 : vV}  (k1 : l2 < l6 → vw X d 115 120 [vR 77, vI l1, vI l2, vI l3, vI l4, vI l5, vI l6, w7, w8, w9] [] M Q) (k2 : l6 ≤ l2 → vw X d 115 39 [vR 77, vI l1, vI l2, vI l3, vI l4, vI l5, vI l6, w7, w8, w9] [] M Q) : vw X d 115 33 [vR 77, vI l1, vI l2, vI l3, vI l4, vI l5, vI l6, w7, w8, w9] [] M Q := by
  refine w_iload d115_33 rfl ?_
  refine w_iload_n d115_35 rfl ?_
  exact w_icmp_gt d115_36 rfl (fun h => k1 h) (fun h => k2 h)
theorem B_Tw_bestRates_39 {X : vX} {d : Nat} {M : vM} {Q : Option vV → vM → Prop} {l1 l2 l3 l4 l5 l6 : Int} {w7 w8 w9 : vV}  (k : vw X d 115 42 [vR 77, vI l1, vI l2, vI l3, vI l4, vI l5, vI l6, vI 0, w8, w9] [] M Q) : vw X d 115 39 [vR 77, vI l1, vI l2, vI l3, vI l4, vI l5, vI l6, w7, w8, w9] [] M Q := by
  refine w_ic (v := 0) d115_39 rfl ?_
  refine w_istoreE (ls' := [vR 77, vI l1, vI l2, vI l3, vI l4, vI l5, vI l6, vI 0, w8, w9]) d115_40 (Nat.le_of_ble_eq_true rfl) rfl ?_
  exact k
theorem B_Tw_bestRates_42 {X : vX} {d : Nat} {M : vM} {Q : Option vV → vM → Prop} {l1 l2 l3 l4 l5 l6 l7 : Int} {w8 w9 : vV}  (k1 : l3 < l7 → vw X d 115 114 [vR 77, vI l1, vI l2, vI l3, vI l4, vI l5, vI l6, vI l7, w8, w9] [] M Q) (k2 : l7 ≤ l3 → vw X d 115 48 [vR 77, vI l1, vI l2, vI l3, vI l4, vI l5, vI l6, vI l7, w8, w9] [] M Q) : vw X d 115 42 [vR 77, vI l1, vI l2, vI l3, vI l4, vI l5, vI l6, vI l7, w8, w9] [] M Q := by
  refine w_iload d115_42 rfl ?_
  refine w_iload_n d115_44 rfl ?_
  exact w_icmp_gt d115_45 rfl (fun h => k1 h) (fun h => k2 h)
theorem B_Tw_bestRates_48 {X : vX} {d : Nat} {M : vM} {Q : Option vV → vM → Prop} {l1 l2 l3 l4 l5 l6 l7 : Int} {w8 w9 : vV}  (k : cq X d 113 [vR 77, vI l6, vI l7] M (fun r M1 => wp X d 115 56 [vR 77, vI l1, vI l2, vI l3, vI l4, vI l5, vI l6, vI l7, w8, w9] (r.toList ++ []) (vS0, M1) (vP Q))) : vw X d 115 48 [vR 77, vI l1, vI l2, vI l3, vI l4, vI l5, vI l6, vI l7, w8, w9] [] M Q := by
  refine w_aload_n d115_48 rfl ?_
  refine w_iload d115_49 rfl ?_
  refine w_iload d115_51 rfl ?_
  exact w_inv0 (a := 77) (c := 8) d115_53 c115_37 rfl rfl rfl v113 (Nat.le_of_ble_eq_true rfl) (cq.cl (k))
theorem B_Tw_bestRates_56 {X : vX} {d : Nat} {M : vM} {Q : Option vV → vM → Prop} {l1 l2 l3 l4 l5 l6 l7 s0 : Int} {w8 w9 : vV}  (k1 : (w32 ((w32 ((w32 ((M 77 1) - l6)) * (j_idiv s0 10))) + (w32 ((w32 ((M 77 2) - l7)) * (j_irem s0 10))))) ≤ l5 → vw X d 115 108 [vR 77, vI l1, vI l2, vI l3, vI l4, vI l5, vI l6, vI l7, vI s0, vI (w32 ((w32 ((w32 ((M 77 1) - l6)) * (j_idiv s0 10))) + (w32 ((w32 ((M 77 2) - l7)) * (j_irem s0 10)))))] [] M Q) (k2 : l5 < (w32 ((w32 ((w32 ((M 77 1) - l6)) * (j_idiv s0 10))) + (w32 ((w32 ((M 77 2) - l7)) * (j_irem s0 10))))) → vw X d 115 94 [vR 77, vI l1, vI l2, vI l3, vI l4, vI l5, vI l6, vI l7, vI s0, vI (w32 ((w32 ((w32 ((M 77 1) - l6)) * (j_idiv s0 10))) + (w32 ((w32 ((M 77 2) - l7)) * (j_irem s0 10)))))] [] M Q) : vw X d 115 56 [vR 77, vI l1, vI l2, vI l3, vI l4, vI l5, vI l6, vI l7, w8, w9] [vI s0] M Q := by
  refine w_istoreE (ls' := [vR 77, vI l1, vI l2, vI l3, vI l4, vI l5, vI l6, vI l7, vI s0, w9]) d115_56 (Nat.le_of_ble_eq_true rfl) rfl ?_
  refine w_aload_n d115_58 rfl ?_
  refine w_getf (a := 77) (v := vI (M 77 1)) d115_59 f115_19 rfl rfl rfl ?_
  refine w_iload d115_62 rfl ?_
  refine w_isub d115_64 ?_
  refine w_iload d115_65 rfl ?_
  refine w_bi (v := 10) d115_67 rfl ?_
  refine w_idiv d115_69 (by decide) ?_
  refine w_imul d115_70 ?_
  refine w_aload_n d115_71 rfl ?_
  refine w_getf (a := 77) (v := vI (M 77 2)) d115_72 f115_22 rfl rfl rfl ?_
  refine w_iload d115_75 rfl ?_
  refine w_isub d115_77 ?_
  refine w_iload d115_78 rfl ?_
  refine w_bi (v := 10) d115_80 rfl ?_
  refine w_irem d115_82 (by decide) ?_
  refine w_imul d115_83 ?_
  refine w_iadd d115_84 ?_
  refine w_istoreE (ls' := [vR 77, vI l1, vI l2, vI l3, vI l4, vI l5, vI l6, vI l7, vI s0, vI (w32 ((w32 ((w32 ((M 77 1) - l6)) * (j_idiv s0 10))) + (w32 ((w32 ((M 77 2) - l7)) * (j_irem s0 10)))))]) d115_85 (Nat.le_of_ble_eq_true rfl) rfl ?_
  refine w_iload d115_87 rfl ?_
  refine w_iload d115_89 rfl ?_
  exact w_icmp_le d115_91 rfl (fun h => k1 h) (fun h => k2 h)
theorem B_Tw_bestRates_94 {X : vX} {d : Nat} {M : vM} {Q : Option vV → vM → Prop} {l1 l2 l3 l4 l5 l6 l7 l8 l9 : Int}  (k : vw X d 115 42 [vR 77, vI l1, vI l2, vI l3, vI (w32 ((w32 (100 * l6)) + l7)), vI l9, vI l6, vI (w32 (l7 + 1)), vI l8, vI l9] [] M Q) : vw X d 115 94 [vR 77, vI l1, vI l2, vI l3, vI l4, vI l5, vI l6, vI l7, vI l8, vI l9] [] M Q := by
  refine w_bi (v := 100) d115_94 rfl ?_
  refine w_iload d115_96 rfl ?_
  refine w_imul d115_98 ?_
  refine w_iload d115_99 rfl ?_
  refine w_iadd d115_101 ?_
  refine w_istoreE (ls' := [vR 77, vI l1, vI l2, vI l3, vI (w32 ((w32 (100 * l6)) + l7)), vI l5, vI l6, vI l7, vI l8, vI l9]) d115_102 (Nat.le_of_ble_eq_true rfl) rfl ?_
  refine w_iload d115_104 rfl ?_
  refine w_istoreE (ls' := [vR 77, vI l1, vI l2, vI l3, vI (w32 ((w32 (100 * l6)) + l7)), vI l9, vI l6, vI l7, vI l8, vI l9]) d115_106 (Nat.le_of_ble_eq_true rfl) rfl ?_
  refine w_iincE (ls' := [vR 77, vI l1, vI l2, vI l3, vI (w32 ((w32 (100 * l6)) + l7)), vI l9, vI l6, vI (w32 (l7 + 1)), vI l8, vI l9]) d115_108 rfl rfl ?_
  refine w_goto (tgt := 42) d115_111 rfl ?_
  exact k
theorem B_Tw_bestRates_108 {X : vX} {d : Nat} {M : vM} {Q : Option vV → vM → Prop} {l1 l2 l3 l4 l5 l6 l7 l8 l9 : Int}  (k : vw X d 115 42 [vR 77, vI l1, vI l2, vI l3, vI l4, vI l5, vI l6, vI (w32 (l7 + 1)), vI l8, vI l9] [] M Q) : vw X d 115 108 [vR 77, vI l1, vI l2, vI l3, vI l4, vI l5, vI l6, vI l7, vI l8, vI l9] [] M Q := by
  refine w_iincE (ls' := [vR 77, vI l1, vI l2, vI l3, vI l4, vI l5, vI l6, vI (w32 (l7 + 1)), vI l8, vI l9]) d115_108 rfl rfl ?_
  refine w_goto (tgt := 42) d115_111 rfl ?_
  exact k
theorem B_Tw_bestRates_114 {X : vX} {d : Nat} {M : vM} {Q : Option vV → vM → Prop} {l1 l2 l3 l4 l5 l6 l7 : Int} {w8 w9 : vV}  (k : vw X d 115 33 [vR 77, vI l1, vI l2, vI l3, vI l4, vI l5, vI (w32 (l6 + 1)), vI l7, w8, w9] [] M Q) : vw X d 115 114 [vR 77, vI l1, vI l2, vI l3, vI l4, vI l5, vI l6, vI l7, w8, w9] [] M Q := by
  refine w_iincE (ls' := [vR 77, vI l1, vI l2, vI l3, vI l4, vI l5, vI (w32 (l6 + 1)), vI l7, w8, w9]) d115_114 rfl rfl ?_
  refine w_goto (tgt := 33) d115_117 rfl ?_
  exact k
theorem B_Tw_bestRates_120 {X : vX} {d : Nat} {M : vM} {Q : Option vV → vM → Prop} {l1 l2 l3 l4 l5 l6 : Int} {w7 w8 w9 : vV}  (k : Q (some (vI l4)) M) : vw X d 115 120 [vR 77, vI l1, vI l2, vI l3, vI l4, vI l5, vI l6, w7, w8, w9] [] M Q := by
  refine w_iload d115_120 rfl ?_
  exact w_iret d115_122 r115 ⟨_, rfl, k⟩
theorem E_Tw_bestRates {X : vX} {d : Nat} {M : vM} {Q : Option vV → vM → Prop} {l1 : Int} (k : vw X d 115 0 [vR 77, vI l1, vN, vN, vN, vN, vN, vN, vN, vN] [] M Q) : cq X (d + 1) 115 [vR 77, vI l1] M Q := wc_in (Nat.le_of_ble_eq_true rfl) (Nat.le_of_ble_eq_true rfl) k
theorem cd117 : vm_cd 117 = cX10_howMany := rfl
theorem d117_0 : decode (vm_cd 117) 0 = .ok (.aload_n 0, 1) := (congrArg (fun b => decode b 0) cd117).trans (by decide +kernel)
theorem d117_1 : decode (vm_cd 117) 1 = .ok (.getfield 30, 3) := (congrArg (fun b => decode b 1) cd117).trans (by decide +kernel)
theorem d117_4 : decode (vm_cd 117) 4 = .ok (.ireturn, 1) := (congrArg (fun b => decode b 4) cd117).trans (by decide +kernel)
theorem f117_30 : vm_fl.lookup (vm_own 117, 30) = some (9, 6, 215) := by decide +kernel
theorem r117 : vm_rt 117 = (some .int) := by decide +kernel
theorem B_Ye_howMany_0 {X : vX} {d : Nat} {M : vM} {Q : Option vV → vM → Prop}  (k : Q (some (vI (M 70 6))) M) : vw X d 117 0 [vR 70] [] M Q := by
  refine w_aload_n d117_0 rfl ?_
  refine w_getf (a := 70) (v := vI (M 70 6)) d117_1 f117_30 rfl rfl rfl ?_
  exact w_iret d117_4 r117 ⟨_, rfl, k⟩
theorem E_Ye_howMany {X : vX} {d : Nat} {M : vM} {Q : Option vV → vM → Prop} (k : vw X d 117 0 [vR 70] [] M Q) : cq X (d + 1) 117 [vR 70] M Q := wc_in (Nat.le_of_ble_eq_true rfl) (Nat.le_of_ble_eq_true rfl) k
theorem cd118 : vm_cd 118 = cX10_isFull := rfl
theorem d118_0 : decode (vm_cd 118) 0 = .ok (.aload_n 0, 1) := (congrArg (fun b => decode b 0) cd118).trans (by decide +kernel)
theorem d118_1 : decode (vm_cd 118) 1 = .ok (.getfield 30, 3) := (congrArg (fun b => decode b 1) cd118).trans (by decide +kernel)
theorem d118_4 : decode (vm_cd 118) 4 = .ok (.bipush 60, 2) := (congrArg (fun b => decode b 4) cd118).trans (by decide +kernel)
theorem d118_6 : decode (vm_cd 118) 6 = .ok (.if_icmp .lt 7, 3) := (congrArg (fun b => decode b 6) cd118).trans (by decide +kernel)
theorem d118_9 : decode (vm_cd 118) 9 = .ok (.iconst 1, 1) := (congrArg (fun b => decode b 9) cd118).trans (by decide +kernel)
theorem d118_10 : decode (vm_cd 118) 10 = .ok (.goto 4, 3) := (congrArg (fun b => decode b 10) cd118).trans (by decide +kernel)
theorem d118_13 : decode (vm_cd 118) 13 = .ok (.iconst 0, 1) := (congrArg (fun b => decode b 13) cd118).trans (by decide +kernel)
theorem d118_14 : decode (vm_cd 118) 14 = .ok (.ireturn, 1) := (congrArg (fun b => decode b 14) cd118).trans (by decide +kernel)
theorem f118_30 : vm_fl.lookup (vm_own 118, 30) = some (9, 6, 215) := by decide +kernel
theorem r118 : vm_rt 118 = (some .boolean) := by decide +kernel
theorem B_Ye_isFull_0 {X : vX} {d : Nat} {M : vM} {Q : Option vV → vM → Prop}  (k1 : (M 70 6) < 60 → vw X d 118 13 [vR 70] [] M Q) (k2 : 60 ≤ (M 70 6) → vw X d 118 9 [vR 70] [] M Q) : vw X d 118 0 [vR 70] [] M Q := by
  refine w_aload_n d118_0 rfl ?_
  refine w_getf (a := 70) (v := vI (M 70 6)) d118_1 f118_30 rfl rfl rfl ?_
  refine w_bi (v := 60) d118_4 rfl ?_
  exact w_icmp_lt d118_6 rfl (fun h => k1 h) (fun h => k2 h)
theorem B_Ye_isFull_9 {X : vX} {d : Nat} {M : vM} {Q : Option vV → vM → Prop}  (k : Q (some (vI 1)) M) : vw X d 118 9 [vR 70] [] M Q := by
  refine w_ic (v := 1) d118_9 rfl ?_
  refine w_goto (tgt := 14) d118_10 rfl ?_
  exact w_zret d118_14 r118 (by decide) ⟨_, rfl, k⟩
theorem B_Ye_isFull_13 {X : vX} {d : Nat} {M : vM} {Q : Option vV → vM → Prop}  (k : Q (some (vI 0)) M) : vw X d 118 13 [vR 70] [] M Q := by
  refine w_ic (v := 0) d118_13 rfl ?_
  exact w_zret d118_14 r118 (by decide) ⟨_, rfl, k⟩
theorem E_Ye_isFull {X : vX} {d : Nat} {M : vM} {Q : Option vV → vM → Prop} (k : vw X d 118 0 [vR 70] [] M Q) : cq X (d + 1) 118 [vR 70] M Q := wc_in (Nat.le_of_ble_eq_true rfl) (Nat.le_of_ble_eq_true rfl) k
theorem cd119 : vm_cd 119 = cX10_isYear := rfl
theorem d119_0 : decode (vm_cd 119) 0 = .ok (.iload_n 1, 1) := (congrArg (fun b => decode b 0) cd119).trans (by decide +kernel)
theorem d119_1 : decode (vm_cd 119) 1 = .ok (.ifCond .lt 15, 3) := (congrArg (fun b => decode b 1) cd119).trans (by decide +kernel)
theorem d119_4 : decode (vm_cd 119) 4 = .ok (.iload_n 1, 1) := (congrArg (fun b => decode b 4) cd119).trans (by decide +kernel)
theorem d119_5 : decode (vm_cd 119) 5 = .ok (.aload_n 0, 1) := (congrArg (fun b => decode b 5) cd119).trans (by decide +kernel)
theorem d119_6 : decode (vm_cd 119) 6 = .ok (.getfield 30, 3) := (congrArg (fun b => decode b 6) cd119).trans (by decide +kernel)
theorem d119_9 : decode (vm_cd 119) 9 = .ok (.if_icmp .ge 7, 3) := (congrArg (fun b => decode b 9) cd119).trans (by decide +kernel)
theorem d119_12 : decode (vm_cd 119) 12 = .ok (.iconst 1, 1) := (congrArg (fun b => decode b 12) cd119).trans (by decide +kernel)
theorem d119_13 : decode (vm_cd 119) 13 = .ok (.goto 4, 3) := (congrArg (fun b => decode b 13) cd119).trans (by decide +kernel)
theorem d119_16 : decode (vm_cd 119) 16 = .ok (.iconst 0, 1) := (congrArg (fun b => decode b 16) cd119).trans (by decide +kernel)
theorem d119_17 : decode (vm_cd 119) 17 = .ok (.ireturn, 1) := (congrArg (fun b => decode b 17) cd119).trans (by decide +kernel)
theorem f119_30 : vm_fl.lookup (vm_own 119, 30) = some (9, 6, 215) := by decide +kernel
theorem r119 : vm_rt 119 = (some .boolean) := by decide +kernel
theorem B_Ye_isYear_0 {X : vX} {d : Nat} {M : vM} {Q : Option vV → vM → Prop} {l1 : Int}  (k1 : l1 < 0 → vw X d 119 16 [vR 70, vI l1] [] M Q) (k2 : 0 ≤ l1 → vw X d 119 4 [vR 70, vI l1] [] M Q) : vw X d 119 0 [vR 70, vI l1] [] M Q := by
  refine w_iload_n d119_0 rfl ?_
  exact w_if_lt d119_1 rfl (fun h => k1 h) (fun h => k2 h)
theorem B_Ye_isYear_4 {X : vX} {d : Nat} {M : vM} {Q : Option vV → vM → Prop} {l1 : Int}  (k1 : (M 70 6) ≤ l1 → vw X d 119 16 [vR 70, vI l1] [] M Q) (k2 : l1 < (M 70 6) → vw X d 119 12 [vR 70, vI l1] [] M Q) : vw X d 119 4 [vR 70, vI l1] [] M Q := by
  refine w_iload_n d119_4 rfl ?_
  refine w_aload_n d119_5 rfl ?_
  refine w_getf (a := 70) (v := vI (M 70 6)) d119_6 f119_30 rfl rfl rfl ?_
  exact w_icmp_ge d119_9 rfl (fun h => k1 h) (fun h => k2 h)
theorem B_Ye_isYear_12 {X : vX} {d : Nat} {M : vM} {Q : Option vV → vM → Prop} {l1 : Int}  (k : Q (some (vI 1)) M) : vw X d 119 12 [vR 70, vI l1] [] M Q := by
  refine w_ic (v := 1) d119_12 rfl ?_
  refine w_goto (tgt := 17) d119_13 rfl ?_
  exact w_zret d119_17 r119 (by decide) ⟨_, rfl, k⟩
theorem B_Ye_isYear_16 {X : vX} {d : Nat} {M : vM} {Q : Option vV → vM → Prop} {l1 : Int}  (k : Q (some (vI 0)) M) : vw X d 119 16 [vR 70, vI l1] [] M Q := by
  refine w_ic (v := 0) d119_16 rfl ?_
  exact w_zret d119_17 r119 (by decide) ⟨_, rfl, k⟩
theorem E_Ye_isYear {X : vX} {d : Nat} {M : vM} {Q : Option vV → vM → Prop} {l1 : Int} (k : vw X d 119 0 [vR 70, vI l1] [] M Q) : cq X (d + 1) 119 [vR 70, vI l1] M Q := wc_in (Nat.le_of_ble_eq_true rfl) (Nat.le_of_ble_eq_true rfl) k
theorem cd120 : vm_cd 120 = cX10_areLatest := rfl
theorem d120_0 : decode (vm_cd 120) 0 = .ok (.iload_n 1, 1) := (congrArg (fun b => decode b 0) cd120).trans (by decide +kernel)
theorem d120_1 : decode (vm_cd 120) 1 = .ok (.iconst 1, 1) := (congrArg (fun b => decode b 1) cd120).trans (by decide +kernel)
theorem d120_2 : decode (vm_cd 120) 2 = .ok (.bipush 16, 2) := (congrArg (fun b => decode b 2) cd120).trans (by decide +kernel)
theorem d120_4 : decode (vm_cd 120) 4 = .ok (.invokestatic 34, 3) := (congrArg (fun b => decode b 4) cd120).trans (by decide +kernel)
theorem d120_7 : decode (vm_cd 120) 7 = .ok (.ifCond .eq 15, 3) := (congrArg (fun b => decode b 7) cd120).trans (by decide +kernel)
theorem d120_10 : decode (vm_cd 120) 10 = .ok (.iload_n 1, 1) := (congrArg (fun b => decode b 10) cd120).trans (by decide +kernel)
theorem d120_11 : decode (vm_cd 120) 11 = .ok (.aload_n 0, 1) := (congrArg (fun b => decode b 11) cd120).trans (by decide +kernel)
theorem d120_12 : decode (vm_cd 120) 12 = .ok (.getfield 30, 3) := (congrArg (fun b => decode b 12) cd120).trans (by decide +kernel)
theorem d120_15 : decode (vm_cd 120) 15 = .ok (.if_icmp .gt 7, 3) := (congrArg (fun b => decode b 15) cd120).trans (by decide +kernel)
theorem d120_18 : decode (vm_cd 120) 18 = .ok (.iconst 1, 1) := (congrArg (fun b => decode b 18) cd120).trans (by decide +kernel)
theorem d120_19 : decode (vm_cd 120) 19 = .ok (.goto 4, 3) := (congrArg (fun b => decode b 19) cd120).trans (by decide +kernel)
theorem d120_22 : decode (vm_cd 120) 22 = .ok (.iconst 0, 1) := (congrArg (fun b => decode b 22) cd120).trans (by decide +kernel)
theorem d120_23 : decode (vm_cd 120) 23 = .ok (.ireturn, 1) := (congrArg (fun b => decode b 23) cd120).trans (by decide +kernel)
theorem f120_30 : vm_fl.lookup (vm_own 120, 30) = some (9, 6, 215) := by decide +kernel
theorem c120_34 : vm_ml.lookup (vm_own 120, 34) = some (3, 179, 3, 954, 292, 0, 1) := vm_lk (by decide +kernel)
theorem r120 : vm_rt 120 = (some .boolean) := by decide +kernel
theorem B_Ye_areLatest_0 {X : vX} {d : Nat} {M : vM} {Q : Option vV → vM → Prop} {l1 : Int}  (k : cq X d 179 [vI l1, vI 1, vI 16] M (fun r M1 => wp X d 120 7 [vR 70, vI l1] (r.toList ++ []) (vS0, M1) (vP Q))) : vw X d 120 0 [vR 70, vI l1] [] M Q := by
  refine w_iload_n d120_0 rfl ?_
  refine w_ic (v := 1) d120_1 rfl ?_
  refine w_bi (v := 16) d120_2 rfl ?_
  exact w_inv1 d120_4 c120_34 (by decide) rfl (Nat.le_of_ble_eq_true rfl) (cq.cl (k))
theorem B_Ye_areLatest_7 {X : vX} {d : Nat} {M : vM} {Q : Option vV → vM → Prop} {l1 s0 : Int}  (k1 : s0 = 0 → vw X d 120 22 [vR 70, vI l1] [] M Q) (k2 : ¬ s0 = 0 → vw X d 120 10 [vR 70, vI l1] [] M Q) : vw X d 120 7 [vR 70, vI l1] [vI s0] M Q := by
  exact w_if_eq d120_7 rfl (fun h => k1 h) (fun h => k2 h)
theorem B_Ye_areLatest_10 {X : vX} {d : Nat} {M : vM} {Q : Option vV → vM → Prop} {l1 : Int}  (k1 : (M 70 6) < l1 → vw X d 120 22 [vR 70, vI l1] [] M Q) (k2 : l1 ≤ (M 70 6) → vw X d 120 18 [vR 70, vI l1] [] M Q) : vw X d 120 10 [vR 70, vI l1] [] M Q := by
  refine w_iload_n d120_10 rfl ?_
  refine w_aload_n d120_11 rfl ?_
  refine w_getf (a := 70) (v := vI (M 70 6)) d120_12 f120_30 rfl rfl rfl ?_
  exact w_icmp_gt d120_15 rfl (fun h => k1 h) (fun h => k2 h)
theorem B_Ye_areLatest_18 {X : vX} {d : Nat} {M : vM} {Q : Option vV → vM → Prop} {l1 : Int}  (k : Q (some (vI 1)) M) : vw X d 120 18 [vR 70, vI l1] [] M Q := by
  refine w_ic (v := 1) d120_18 rfl ?_
  refine w_goto (tgt := 23) d120_19 rfl ?_
  exact w_zret d120_23 r120 (by decide) ⟨_, rfl, k⟩
theorem B_Ye_areLatest_22 {X : vX} {d : Nat} {M : vM} {Q : Option vV → vM → Prop} {l1 : Int}  (k : Q (some (vI 0)) M) : vw X d 120 22 [vR 70, vI l1] [] M Q := by
  refine w_ic (v := 0) d120_22 rfl ?_
  exact w_zret d120_23 r120 (by decide) ⟨_, rfl, k⟩
theorem E_Ye_areLatest {X : vX} {d : Nat} {M : vM} {Q : Option vV → vM → Prop} {l1 : Int} (k : vw X d 120 0 [vR 70, vI l1] [] M Q) : cq X (d + 1) 120 [vR 70, vI l1] M Q := wc_in (Nat.le_of_ble_eq_true rfl) (Nat.le_of_ble_eq_true rfl) k
theorem cd121 : vm_cd 121 = cX10_setLot := rfl
theorem d121_0 : decode (vm_cd 121) 0 = .ok (.aload_n 0, 1) := (congrArg (fun b => decode b 0) cd121).trans (by decide +kernel)
theorem d121_1 : decode (vm_cd 121) 1 = .ok (.getfield 38, 3) := (congrArg (fun b => decode b 1) cd121).trans (by decide +kernel)
theorem d121_4 : decode (vm_cd 121) 4 = .ok (.istore_n 2, 1) := (congrArg (fun b => decode b 4) cd121).trans (by decide +kernel)
theorem d121_5 : decode (vm_cd 121) 5 = .ok (.aload_n 0, 1) := (congrArg (fun b => decode b 5) cd121).trans (by decide +kernel)
theorem d121_6 : decode (vm_cd 121) 6 = .ok (.iload_n 1, 1) := (congrArg (fun b => decode b 6) cd121).trans (by decide +kernel)
theorem d121_7 : decode (vm_cd 121) 7 = .ok (.putfield 38, 3) := (congrArg (fun b => decode b 7) cd121).trans (by decide +kernel)
theorem d121_10 : decode (vm_cd 121) 10 = .ok (.iload_n 2, 1) := (congrArg (fun b => decode b 10) cd121).trans (by decide +kernel)
theorem d121_11 : decode (vm_cd 121) 11 = .ok (.ireturn, 1) := (congrArg (fun b => decode b 11) cd121).trans (by decide +kernel)
theorem f121_38 : vm_fl.lookup (vm_own 121, 38) = some (9, 7, 216) := by decide +kernel
theorem r121 : vm_rt 121 = (some .int) := by decide +kernel
theorem B_Ye_setLot_0 {X : vX} {d : Nat} {M : vM} {Q : Option vV → vM → Prop} {l1 : Int} (hR : vRefs M)  (k : vRefs (vm_up M 70 7 l1) → Q (some (vI (M 70 7))) (vm_up M 70 7 l1)) : vw X d 121 0 [vR 70, vI l1, vN] [] M Q := by
  refine w_aload_n d121_0 rfl ?_
  refine w_getf (a := 70) (v := vI (M 70 7)) d121_1 f121_38 rfl rfl rfl ?_
  refine w_istore_nE (ls' := [vR 70, vI l1, vI (M 70 7)]) d121_4 (Nat.le_of_ble_eq_true rfl) rfl ?_
  refine w_aload_n d121_5 rfl ?_
  refine w_iload_n d121_6 rfl ?_
  refine w_putf (a := 70) (x := l1) d121_7 f121_38 rfl rfl rfl (Or.inl rfl) ?_
  refine w_iload_n d121_10 rfl ?_
  exact w_iret d121_11 r121 ⟨_, rfl, k (vRefs_up hR ⟨by decide, by decide⟩)⟩
theorem E_Ye_setLot {X : vX} {d : Nat} {M : vM} {Q : Option vV → vM → Prop} {l1 : Int} (k : vw X d 121 0 [vR 70, vI l1, vN] [] M Q) : cq X (d + 1) 121 [vR 70, vI l1] M Q := wc_in (Nat.le_of_ble_eq_true rfl) (Nat.le_of_ble_eq_true rfl) k
theorem cd122 : vm_cd 122 = cX10_nextLot := rfl
theorem d122_0 : decode (vm_cd 122) 0 = .ok (.aload_n 0, 1) := (congrArg (fun b => decode b 0) cd122).trans (by decide +kernel)
theorem d122_1 : decode (vm_cd 122) 1 = .ok (.getfield 38, 3) := (congrArg (fun b => decode b 1) cd122).trans (by decide +kernel)
theorem d122_4 : decode (vm_cd 122) 4 = .ok (.bipush 75, 2) := (congrArg (fun b => decode b 4) cd122).trans (by decide +kernel)
theorem d122_6 : decode (vm_cd 122) 6 = .ok (.imul, 1) := (congrArg (fun b => decode b 6) cd122).trans (by decide +kernel)
theorem d122_7 : decode (vm_cd 122) 7 = .ok (.bipush 74, 2) := (congrArg (fun b => decode b 7) cd122).trans (by decide +kernel)
theorem d122_9 : decode (vm_cd 122) 9 = .ok (.iadd, 1) := (congrArg (fun b => decode b 9) cd122).trans (by decide +kernel)
theorem d122_10 : decode (vm_cd 122) 10 = .ok (.ldc 41, 2) := (congrArg (fun b => decode b 10) cd122).trans (by decide +kernel)
theorem d122_12 : decode (vm_cd 122) 12 = .ok (.irem, 1) := (congrArg (fun b => decode b 12) cd122).trans (by decide +kernel)
theorem d122_13 : decode (vm_cd 122) 13 = .ok (.ireturn, 1) := (congrArg (fun b => decode b 13) cd122).trans (by decide +kernel)
theorem f122_38 : vm_fl.lookup (vm_own 122, 38) = some (9, 7, 216) := by decide +kernel
theorem g122_41 : vm_cn.lookup (vm_own 122, 41) = some ((0), (65537), (908)) := by decide +kernel
theorem r122 : vm_rt 122 = (some .int) := by decide +kernel
theorem B_Ye_nextLot_0 {X : vX} {d : Nat} {M : vM} {Q : Option vV → vM → Prop}  (k : Q (some (vI (j_irem (w32 ((w32 ((M 70 7) * 75)) + 74)) 65537))) M) : vw X d 122 0 [vR 70] [] M Q := by
  refine w_aload_n d122_0 rfl ?_
  refine w_getf (a := 70) (v := vI (M 70 7)) d122_1 f122_38 rfl rfl rfl ?_
  refine w_bi (v := 75) d122_4 rfl ?_
  refine w_imul d122_6 ?_
  refine w_bi (v := 74) d122_7 rfl ?_
  refine w_iadd d122_9 ?_
  refine w_ldc (v := 65537) d122_10 g122_41 rfl ?_
  refine w_irem d122_12 (by decide) ?_
  exact w_iret d122_13 r122 ⟨_, rfl, k⟩
theorem E_Ye_nextLot {X : vX} {d : Nat} {M : vM} {Q : Option vV → vM → Prop} (k : vw X d 122 0 [vR 70] [] M Q) : cq X (d + 1) 122 [vR 70] M Q := wc_in (Nat.le_of_ble_eq_true rfl) (Nat.le_of_ble_eq_true rfl) k
theorem cd123 : vm_cd 123 = cX10_pass := rfl
theorem d123_0 : decode (vm_cd 123) 0 = .ok (.aload_n 0, 1) := (congrArg (fun b => decode b 0) cd123).trans (by decide +kernel)
theorem d123_1 : decode (vm_cd 123) 1 = .ok (.getfield 11, 3) := (congrArg (fun b => decode b 1) cd123).trans (by decide +kernel)
theorem d123_4 : decode (vm_cd 123) 4 = .ok (.aload_n 0, 1) := (congrArg (fun b => decode b 4) cd123).trans (by decide +kernel)
theorem d123_5 : decode (vm_cd 123) 5 = .ok (.getfield 30, 3) := (congrArg (fun b => decode b 5) cd123).trans (by decide +kernel)
theorem d123_8 : decode (vm_cd 123) 8 = .ok (.iload_n 1, 1) := (congrArg (fun b => decode b 8) cd123).trans (by decide +kernel)
theorem d123_9 : decode (vm_cd 123) 9 = .ok (.iastore, 1) := (congrArg (fun b => decode b 9) cd123).trans (by decide +kernel)
theorem d123_10 : decode (vm_cd 123) 10 = .ok (.aload_n 0, 1) := (congrArg (fun b => decode b 10) cd123).trans (by decide +kernel)
theorem d123_11 : decode (vm_cd 123) 11 = .ok (.getfield 15, 3) := (congrArg (fun b => decode b 11) cd123).trans (by decide +kernel)
theorem d123_14 : decode (vm_cd 123) 14 = .ok (.aload_n 0, 1) := (congrArg (fun b => decode b 14) cd123).trans (by decide +kernel)
theorem d123_15 : decode (vm_cd 123) 15 = .ok (.getfield 30, 3) := (congrArg (fun b => decode b 15) cd123).trans (by decide +kernel)
theorem d123_18 : decode (vm_cd 123) 18 = .ok (.iload_n 2, 1) := (congrArg (fun b => decode b 18) cd123).trans (by decide +kernel)
theorem d123_19 : decode (vm_cd 123) 19 = .ok (.iastore, 1) := (congrArg (fun b => decode b 19) cd123).trans (by decide +kernel)
theorem d123_20 : decode (vm_cd 123) 20 = .ok (.aload_n 0, 1) := (congrArg (fun b => decode b 20) cd123).trans (by decide +kernel)
theorem d123_21 : decode (vm_cd 123) 21 = .ok (.getfield 18, 3) := (congrArg (fun b => decode b 21) cd123).trans (by decide +kernel)
theorem d123_24 : decode (vm_cd 123) 24 = .ok (.aload_n 0, 1) := (congrArg (fun b => decode b 24) cd123).trans (by decide +kernel)
theorem d123_25 : decode (vm_cd 123) 25 = .ok (.getfield 30, 3) := (congrArg (fun b => decode b 25) cd123).trans (by decide +kernel)
theorem d123_28 : decode (vm_cd 123) 28 = .ok (.iload_n 3, 1) := (congrArg (fun b => decode b 28) cd123).trans (by decide +kernel)
theorem d123_29 : decode (vm_cd 123) 29 = .ok (.iastore, 1) := (congrArg (fun b => decode b 29) cd123).trans (by decide +kernel)
theorem d123_30 : decode (vm_cd 123) 30 = .ok (.aload_n 0, 1) := (congrArg (fun b => decode b 30) cd123).trans (by decide +kernel)
theorem d123_31 : decode (vm_cd 123) 31 = .ok (.getfield 21, 3) := (congrArg (fun b => decode b 31) cd123).trans (by decide +kernel)
theorem d123_34 : decode (vm_cd 123) 34 = .ok (.aload_n 0, 1) := (congrArg (fun b => decode b 34) cd123).trans (by decide +kernel)
theorem d123_35 : decode (vm_cd 123) 35 = .ok (.getfield 30, 3) := (congrArg (fun b => decode b 35) cd123).trans (by decide +kernel)
theorem d123_38 : decode (vm_cd 123) 38 = .ok (.iload 4, 2) := (congrArg (fun b => decode b 38) cd123).trans (by decide +kernel)
theorem d123_40 : decode (vm_cd 123) 40 = .ok (.iastore, 1) := (congrArg (fun b => decode b 40) cd123).trans (by decide +kernel)
theorem d123_41 : decode (vm_cd 123) 41 = .ok (.aload_n 0, 1) := (congrArg (fun b => decode b 41) cd123).trans (by decide +kernel)
theorem d123_42 : decode (vm_cd 123) 42 = .ok (.getfield 24, 3) := (congrArg (fun b => decode b 42) cd123).trans (by decide +kernel)
theorem d123_45 : decode (vm_cd 123) 45 = .ok (.aload_n 0, 1) := (congrArg (fun b => decode b 45) cd123).trans (by decide +kernel)
theorem d123_46 : decode (vm_cd 123) 46 = .ok (.getfield 30, 3) := (congrArg (fun b => decode b 46) cd123).trans (by decide +kernel)
theorem d123_49 : decode (vm_cd 123) 49 = .ok (.aload_n 0, 1) := (congrArg (fun b => decode b 49) cd123).trans (by decide +kernel)
theorem d123_50 : decode (vm_cd 123) 50 = .ok (.invokevirtual 42, 3) := (congrArg (fun b => decode b 50) cd123).trans (by decide +kernel)
theorem d123_53 : decode (vm_cd 123) 53 = .ok (.iastore, 1) := (congrArg (fun b => decode b 53) cd123).trans (by decide +kernel)
theorem d123_54 : decode (vm_cd 123) 54 = .ok (.aload_n 0, 1) := (congrArg (fun b => decode b 54) cd123).trans (by decide +kernel)
theorem d123_55 : decode (vm_cd 123) 55 = .ok (.getfield 27, 3) := (congrArg (fun b => decode b 55) cd123).trans (by decide +kernel)
theorem d123_58 : decode (vm_cd 123) 58 = .ok (.aload_n 0, 1) := (congrArg (fun b => decode b 58) cd123).trans (by decide +kernel)
theorem d123_59 : decode (vm_cd 123) 59 = .ok (.getfield 30, 3) := (congrArg (fun b => decode b 59) cd123).trans (by decide +kernel)
theorem d123_62 : decode (vm_cd 123) 62 = .ok (.aload_n 0, 1) := (congrArg (fun b => decode b 62) cd123).trans (by decide +kernel)
theorem d123_63 : decode (vm_cd 123) 63 = .ok (.getfield 38, 3) := (congrArg (fun b => decode b 63) cd123).trans (by decide +kernel)
theorem d123_66 : decode (vm_cd 123) 66 = .ok (.iastore, 1) := (congrArg (fun b => decode b 66) cd123).trans (by decide +kernel)
theorem d123_67 : decode (vm_cd 123) 67 = .ok (.aload_n 0, 1) := (congrArg (fun b => decode b 67) cd123).trans (by decide +kernel)
theorem d123_68 : decode (vm_cd 123) 68 = .ok (.aload_n 0, 1) := (congrArg (fun b => decode b 68) cd123).trans (by decide +kernel)
theorem d123_69 : decode (vm_cd 123) 69 = .ok (.getfield 24, 3) := (congrArg (fun b => decode b 69) cd123).trans (by decide +kernel)
theorem d123_72 : decode (vm_cd 123) 72 = .ok (.aload_n 0, 1) := (congrArg (fun b => decode b 72) cd123).trans (by decide +kernel)
theorem d123_73 : decode (vm_cd 123) 73 = .ok (.getfield 30, 3) := (congrArg (fun b => decode b 73) cd123).trans (by decide +kernel)
theorem d123_76 : decode (vm_cd 123) 76 = .ok (.iaload, 1) := (congrArg (fun b => decode b 76) cd123).trans (by decide +kernel)
theorem d123_77 : decode (vm_cd 123) 77 = .ok (.putfield 38, 3) := (congrArg (fun b => decode b 77) cd123).trans (by decide +kernel)
theorem d123_80 : decode (vm_cd 123) 80 = .ok (.aload_n 0, 1) := (congrArg (fun b => decode b 80) cd123).trans (by decide +kernel)
theorem d123_81 : decode (vm_cd 123) 81 = .ok (.dup, 1) := (congrArg (fun b => decode b 81) cd123).trans (by decide +kernel)
theorem d123_82 : decode (vm_cd 123) 82 = .ok (.getfield 30, 3) := (congrArg (fun b => decode b 82) cd123).trans (by decide +kernel)
theorem d123_85 : decode (vm_cd 123) 85 = .ok (.iconst 1, 1) := (congrArg (fun b => decode b 85) cd123).trans (by decide +kernel)
theorem d123_86 : decode (vm_cd 123) 86 = .ok (.iadd, 1) := (congrArg (fun b => decode b 86) cd123).trans (by decide +kernel)
theorem d123_87 : decode (vm_cd 123) 87 = .ok (.putfield 30, 3) := (congrArg (fun b => decode b 87) cd123).trans (by decide +kernel)
theorem d123_90 : decode (vm_cd 123) 90 = .ok (.return_, 1) := (congrArg (fun b => decode b 90) cd123).trans (by decide +kernel)
theorem f123_11 : vm_fl.lookup (vm_own 123, 11) = some (9, 0, 209) := by decide +kernel
theorem f123_15 : vm_fl.lookup (vm_own 123, 15) = some (9, 1, 210) := by decide +kernel
theorem f123_18 : vm_fl.lookup (vm_own 123, 18) = some (9, 2, 211) := by decide +kernel
theorem f123_21 : vm_fl.lookup (vm_own 123, 21) = some (9, 3, 212) := by decide +kernel
theorem f123_24 : vm_fl.lookup (vm_own 123, 24) = some (9, 4, 213) := by decide +kernel
theorem f123_27 : vm_fl.lookup (vm_own 123, 27) = some (9, 5, 214) := by decide +kernel
theorem f123_30 : vm_fl.lookup (vm_own 123, 30) = some (9, 6, 215) := by decide +kernel
theorem f123_38 : vm_fl.lookup (vm_own 123, 38) = some (9, 7, 216) := by decide +kernel
theorem c123_42 : vm_ml.lookup (vm_own 123, 42) = some (0, 122, 0, 904, 905, 979, 11) := vm_lk (by decide +kernel)
theorem r123 : vm_rt 123 = none := by decide +kernel
theorem B_Ye_pass_0 {X : vX} {d : Nat} {M : vM} {Q : Option vV → vM → Prop} {l1 l2 l3 l4 : Int} (hR : vRefs M) (h1 : 0 ≤ (M 70 6) ∧ (M 70 6) < (60 : Nat)) (h2 : 0 ≤ ((vm_up M 71 (M 70 6).toNat l1) 70 6) ∧ ((vm_up M 71 (M 70 6).toNat l1) 70 6) < (60 : Nat)) (h3 : 0 ≤ ((vm_up (vm_up M 71 (M 70 6).toNat l1) 72 ((vm_up M 71 (M 70 6).toNat l1) 70 6).toNat l2) 70 6) ∧ ((vm_up (vm_up M 71 (M 70 6).toNat l1) 72 ((vm_up M 71 (M 70 6).toNat l1) 70 6).toNat l2) 70 6) < (60 : Nat)) (h4 : 0 ≤ ((vm_up (vm_up (vm_up M 71 (M 70 6).toNat l1) 72 ((vm_up M 71 (M 70 6).toNat l1) 70 6).toNat l2) 73 ((vm_up (vm_up M 71 (M 70 6).toNat l1) 72 ((vm_up M 71 (M 70 6).toNat l1) 70 6).toNat l2) 70 6).toNat l3) 70 6) ∧ ((vm_up (vm_up (vm_up M 71 (M 70 6).toNat l1) 72 ((vm_up M 71 (M 70 6).toNat l1) 70 6).toNat l2) 73 ((vm_up (vm_up M 71 (M 70 6).toNat l1) 72 ((vm_up M 71 (M 70 6).toNat l1) 70 6).toNat l2) 70 6).toNat l3) 70 6) < (60 : Nat)) (k : vRefs (vm_up (vm_up (vm_up (vm_up M 71 (M 70 6).toNat l1) 72 ((vm_up M 71 (M 70 6).toNat l1) 70 6).toNat l2) 73 ((vm_up (vm_up M 71 (M 70 6).toNat l1) 72 ((vm_up M 71 (M 70 6).toNat l1) 70 6).toNat l2) 70 6).toNat l3) 74 ((vm_up (vm_up (vm_up M 71 (M 70 6).toNat l1) 72 ((vm_up M 71 (M 70 6).toNat l1) 70 6).toNat l2) 73 ((vm_up (vm_up M 71 (M 70 6).toNat l1) 72 ((vm_up M 71 (M 70 6).toNat l1) 70 6).toNat l2) 70 6).toNat l3) 70 6).toNat l4) → cq X d 122 [vR 70] (vm_up (vm_up (vm_up (vm_up M 71 (M 70 6).toNat l1) 72 ((vm_up M 71 (M 70 6).toNat l1) 70 6).toNat l2) 73 ((vm_up (vm_up M 71 (M 70 6).toNat l1) 72 ((vm_up M 71 (M 70 6).toNat l1) 70 6).toNat l2) 70 6).toNat l3) 74 ((vm_up (vm_up (vm_up M 71 (M 70 6).toNat l1) 72 ((vm_up M 71 (M 70 6).toNat l1) 70 6).toNat l2) 73 ((vm_up (vm_up M 71 (M 70 6).toNat l1) 72 ((vm_up M 71 (M 70 6).toNat l1) 70 6).toNat l2) 70 6).toNat l3) 70 6).toNat l4) (fun r M1 => wp X d 123 53 [vR 70, vI l1, vI l2, vI l3, vI l4] (r.toList ++ [vI ((vm_up (vm_up (vm_up (vm_up M 71 (M 70 6).toNat l1) 72 ((vm_up M 71 (M 70 6).toNat l1) 70 6).toNat l2) 73 ((vm_up (vm_up M 71 (M 70 6).toNat l1) 72 ((vm_up M 71 (M 70 6).toNat l1) 70 6).toNat l2) 70 6).toNat l3) 74 ((vm_up (vm_up (vm_up M 71 (M 70 6).toNat l1) 72 ((vm_up M 71 (M 70 6).toNat l1) 70 6).toNat l2) 73 ((vm_up (vm_up M 71 (M 70 6).toNat l1) 72 ((vm_up M 71 (M 70 6).toNat l1) 70 6).toNat l2) 70 6).toNat l3) 70 6).toNat l4) 70 6), vR 75]) (vS0, M1) (vP Q))) : vw X d 123 0 [vR 70, vI l1, vI l2, vI l3, vI l4] [] M Q := by
  refine w_aload_n d123_0 rfl ?_
  refine w_getf (a := 70) (v := vR 71) d123_1 f123_11 rfl rfl (congrArg vR (rf_70_0 hR)) ?_
  refine w_aload_n d123_4 rfl ?_
  refine w_getf (a := 70) (v := vI (M 70 6)) d123_5 f123_30 rfl rfl rfl ?_
  refine w_iload_n d123_8 rfl ?_
  refine w_iast (a := 71) d123_9 rfl rfl h1 ?_
  refine w_aload_n d123_10 rfl ?_
  refine w_getf (a := 70) (v := vR 72) d123_11 f123_15 rfl rfl (congrArg vR (rf_70_1 (vRefs_free hR ⟨by decide, by decide⟩))) ?_
  refine w_aload_n d123_14 rfl ?_
  refine w_getf (a := 70) (v := vI ((vm_up M 71 (M 70 6).toNat l1) 70 6)) d123_15 f123_30 rfl rfl rfl ?_
  refine w_iload_n d123_18 rfl ?_
  refine w_iast (a := 72) d123_19 rfl rfl h2 ?_
  refine w_aload_n d123_20 rfl ?_
  refine w_getf (a := 70) (v := vR 73) d123_21 f123_18 rfl rfl (congrArg vR (rf_70_2 (vRefs_free (vRefs_free hR ⟨by decide, by decide⟩) ⟨by decide, by decide⟩))) ?_
  refine w_aload_n d123_24 rfl ?_
  refine w_getf (a := 70) (v := vI ((vm_up (vm_up M 71 (M 70 6).toNat l1) 72 ((vm_up M 71 (M 70 6).toNat l1) 70 6).toNat l2) 70 6)) d123_25 f123_30 rfl rfl rfl ?_
  refine w_iload_n d123_28 rfl ?_
  refine w_iast (a := 73) d123_29 rfl rfl h3 ?_
  refine w_aload_n d123_30 rfl ?_
  refine w_getf (a := 70) (v := vR 74) d123_31 f123_21 rfl rfl (congrArg vR (rf_70_3 (vRefs_free (vRefs_free (vRefs_free hR ⟨by decide, by decide⟩) ⟨by decide, by decide⟩) ⟨by decide, by decide⟩))) ?_
  refine w_aload_n d123_34 rfl ?_
  refine w_getf (a := 70) (v := vI ((vm_up (vm_up (vm_up M 71 (M 70 6).toNat l1) 72 ((vm_up M 71 (M 70 6).toNat l1) 70 6).toNat l2) 73 ((vm_up (vm_up M 71 (M 70 6).toNat l1) 72 ((vm_up M 71 (M 70 6).toNat l1) 70 6).toNat l2) 70 6).toNat l3) 70 6)) d123_35 f123_30 rfl rfl rfl ?_
  refine w_iload d123_38 rfl ?_
  refine w_iast (a := 74) d123_40 rfl rfl h4 ?_
  refine w_aload_n d123_41 rfl ?_
  refine w_getf (a := 70) (v := vR 75) d123_42 f123_24 rfl rfl (congrArg vR (rf_70_4 (vRefs_free (vRefs_free (vRefs_free (vRefs_free hR ⟨by decide, by decide⟩) ⟨by decide, by decide⟩) ⟨by decide, by decide⟩) ⟨by decide, by decide⟩))) ?_
  refine w_aload_n d123_45 rfl ?_
  refine w_getf (a := 70) (v := vI ((vm_up (vm_up (vm_up (vm_up M 71 (M 70 6).toNat l1) 72 ((vm_up M 71 (M 70 6).toNat l1) 70 6).toNat l2) 73 ((vm_up (vm_up M 71 (M 70 6).toNat l1) 72 ((vm_up M 71 (M 70 6).toNat l1) 70 6).toNat l2) 70 6).toNat l3) 74 ((vm_up (vm_up (vm_up M 71 (M 70 6).toNat l1) 72 ((vm_up M 71 (M 70 6).toNat l1) 70 6).toNat l2) 73 ((vm_up (vm_up M 71 (M 70 6).toNat l1) 72 ((vm_up M 71 (M 70 6).toNat l1) 70 6).toNat l2) 70 6).toNat l3) 70 6).toNat l4) 70 6)) d123_46 f123_30 rfl rfl rfl ?_
  refine w_aload_n d123_49 rfl ?_
  exact w_inv0 (a := 70) (c := 9) d123_50 c123_42 rfl rfl rfl v122 (Nat.le_of_ble_eq_true rfl) (cq.cl (k (vRefs_free (vRefs_free (vRefs_free (vRefs_free hR ⟨by decide, by decide⟩) ⟨by decide, by decide⟩) ⟨by decide, by decide⟩) ⟨by decide, by decide⟩)))
theorem B_Ye_pass_53 {X : vX} {d : Nat} {M : vM} {Q : Option vV → vM → Prop} {l1 l2 l3 l4 s1 s2 : Int} (hR : vRefs M) (h1 : 0 ≤ s1 ∧ s1 < (60 : Nat)) (h2 : 0 ≤ ((vm_up M 75 s1.toNat s2) 70 6) ∧ ((vm_up M 75 s1.toNat s2) 70 6) < (60 : Nat)) (h3 : 0 ≤ ((vm_up (vm_up M 75 s1.toNat s2) 76 ((vm_up M 75 s1.toNat s2) 70 6).toNat ((vm_up M 75 s1.toNat s2) 70 7)) 70 6) ∧ ((vm_up (vm_up M 75 s1.toNat s2) 76 ((vm_up M 75 s1.toNat s2) 70 6).toNat ((vm_up M 75 s1.toNat s2) 70 7)) 70 6) < (60 : Nat)) (k : vRefs (vm_up (vm_up (vm_up (vm_up M 75 s1.toNat s2) 76 ((vm_up M 75 s1.toNat s2) 70 6).toNat ((vm_up M 75 s1.toNat s2) 70 7)) 70 7 ((vm_up (vm_up M 75 s1.toNat s2) 76 ((vm_up M 75 s1.toNat s2) 70 6).toNat ((vm_up M 75 s1.toNat s2) 70 7)) 75 ((vm_up (vm_up M 75 s1.toNat s2) 76 ((vm_up M 75 s1.toNat s2) 70 6).toNat ((vm_up M 75 s1.toNat s2) 70 7)) 70 6).toNat)) 70 6 (w32 (((vm_up (vm_up (vm_up M 75 s1.toNat s2) 76 ((vm_up M 75 s1.toNat s2) 70 6).toNat ((vm_up M 75 s1.toNat s2) 70 7)) 70 7 ((vm_up (vm_up M 75 s1.toNat s2) 76 ((vm_up M 75 s1.toNat s2) 70 6).toNat ((vm_up M 75 s1.toNat s2) 70 7)) 75 ((vm_up (vm_up M 75 s1.toNat s2) 76 ((vm_up M 75 s1.toNat s2) 70 6).toNat ((vm_up M 75 s1.toNat s2) 70 7)) 70 6).toNat)) 70 6) + 1))) → Q none (vm_up (vm_up (vm_up (vm_up M 75 s1.toNat s2) 76 ((vm_up M 75 s1.toNat s2) 70 6).toNat ((vm_up M 75 s1.toNat s2) 70 7)) 70 7 ((vm_up (vm_up M 75 s1.toNat s2) 76 ((vm_up M 75 s1.toNat s2) 70 6).toNat ((vm_up M 75 s1.toNat s2) 70 7)) 75 ((vm_up (vm_up M 75 s1.toNat s2) 76 ((vm_up M 75 s1.toNat s2) 70 6).toNat ((vm_up M 75 s1.toNat s2) 70 7)) 70 6).toNat)) 70 6 (w32 (((vm_up (vm_up (vm_up M 75 s1.toNat s2) 76 ((vm_up M 75 s1.toNat s2) 70 6).toNat ((vm_up M 75 s1.toNat s2) 70 7)) 70 7 ((vm_up (vm_up M 75 s1.toNat s2) 76 ((vm_up M 75 s1.toNat s2) 70 6).toNat ((vm_up M 75 s1.toNat s2) 70 7)) 75 ((vm_up (vm_up M 75 s1.toNat s2) 76 ((vm_up M 75 s1.toNat s2) 70 6).toNat ((vm_up M 75 s1.toNat s2) 70 7)) 70 6).toNat)) 70 6) + 1)))) : vw X d 123 53 [vR 70, vI l1, vI l2, vI l3, vI l4] [vI s2, vI s1, vR 75] M Q := by
  refine w_iast (a := 75) d123_53 rfl rfl h1 ?_
  refine w_aload_n d123_54 rfl ?_
  refine w_getf (a := 70) (v := vR 76) d123_55 f123_27 rfl rfl (congrArg vR (rf_70_5 (vRefs_free hR ⟨by decide, by decide⟩))) ?_
  refine w_aload_n d123_58 rfl ?_
  refine w_getf (a := 70) (v := vI ((vm_up M 75 s1.toNat s2) 70 6)) d123_59 f123_30 rfl rfl rfl ?_
  refine w_aload_n d123_62 rfl ?_
  refine w_getf (a := 70) (v := vI ((vm_up M 75 s1.toNat s2) 70 7)) d123_63 f123_38 rfl rfl rfl ?_
  refine w_iast (a := 76) d123_66 rfl rfl h2 ?_
  refine w_aload_n d123_67 rfl ?_
  refine w_aload_n d123_68 rfl ?_
  refine w_getf (a := 70) (v := vR 75) d123_69 f123_24 rfl rfl (congrArg vR (rf_70_4 (vRefs_free (vRefs_free hR ⟨by decide, by decide⟩) ⟨by decide, by decide⟩))) ?_
  refine w_aload_n d123_72 rfl ?_
  refine w_getf (a := 70) (v := vI ((vm_up (vm_up M 75 s1.toNat s2) 76 ((vm_up M 75 s1.toNat s2) 70 6).toNat ((vm_up M 75 s1.toNat s2) 70 7)) 70 6)) d123_73 f123_30 rfl rfl rfl ?_
  refine w_iaload (a := 75) d123_76 rfl rfl h3 ?_
  refine w_putf (a := 70) (x := (vm_up (vm_up M 75 s1.toNat s2) 76 ((vm_up M 75 s1.toNat s2) 70 6).toNat ((vm_up M 75 s1.toNat s2) 70 7)) 75 ((vm_up (vm_up M 75 s1.toNat s2) 76 ((vm_up M 75 s1.toNat s2) 70 6).toNat ((vm_up M 75 s1.toNat s2) 70 7)) 70 6).toNat) d123_77 f123_38 rfl rfl rfl (Or.inl rfl) ?_
  refine w_aload_n d123_80 rfl ?_
  refine w_dup d123_81 rfl ?_
  refine w_getf (a := 70) (v := vI ((vm_up (vm_up (vm_up M 75 s1.toNat s2) 76 ((vm_up M 75 s1.toNat s2) 70 6).toNat ((vm_up M 75 s1.toNat s2) 70 7)) 70 7 ((vm_up (vm_up M 75 s1.toNat s2) 76 ((vm_up M 75 s1.toNat s2) 70 6).toNat ((vm_up M 75 s1.toNat s2) 70 7)) 75 ((vm_up (vm_up M 75 s1.toNat s2) 76 ((vm_up M 75 s1.toNat s2) 70 6).toNat ((vm_up M 75 s1.toNat s2) 70 7)) 70 6).toNat)) 70 6)) d123_82 f123_30 rfl rfl rfl ?_
  refine w_ic (v := 1) d123_85 rfl ?_
  refine w_iadd d123_86 ?_
  refine w_putf (a := 70) (x := w32 (((vm_up (vm_up (vm_up M 75 s1.toNat s2) 76 ((vm_up M 75 s1.toNat s2) 70 6).toNat ((vm_up M 75 s1.toNat s2) 70 7)) 70 7 ((vm_up (vm_up M 75 s1.toNat s2) 76 ((vm_up M 75 s1.toNat s2) 70 6).toNat ((vm_up M 75 s1.toNat s2) 70 7)) 75 ((vm_up (vm_up M 75 s1.toNat s2) 76 ((vm_up M 75 s1.toNat s2) 70 6).toNat ((vm_up M 75 s1.toNat s2) 70 7)) 70 6).toNat)) 70 6) + 1)) d123_87 f123_30 rfl rfl rfl (Or.inl rfl) ?_
  exact w_vret d123_90 r123 ⟨_, rfl, k (vRefs_up (vRefs_up (vRefs_free (vRefs_free hR ⟨by decide, by decide⟩) ⟨by decide, by decide⟩) ⟨by decide, by decide⟩) ⟨by decide, by decide⟩)⟩
theorem E_Ye_pass {X : vX} {d : Nat} {M : vM} {Q : Option vV → vM → Prop} {l1 l2 l3 l4 : Int} (k : vw X d 123 0 [vR 70, vI l1, vI l2, vI l3, vI l4] [] M Q) : cq X (d + 1) 123 [vR 70, vI l1, vI l2, vI l3, vI l4] M Q := wc_in (Nat.le_of_ble_eq_true rfl) (Nat.le_of_ble_eq_true rfl) k
theorem cd124 : vm_cd 124 = cX10_takeBack := rfl
theorem d124_0 : decode (vm_cd 124) 0 = .ok (.aload_n 0, 1) := (congrArg (fun b => decode b 0) cd124).trans (by decide +kernel)
theorem d124_1 : decode (vm_cd 124) 1 = .ok (.dup, 1) := (congrArg (fun b => decode b 1) cd124).trans (by decide +kernel)
theorem d124_2 : decode (vm_cd 124) 2 = .ok (.getfield 30, 3) := (congrArg (fun b => decode b 2) cd124).trans (by decide +kernel)
theorem d124_5 : decode (vm_cd 124) 5 = .ok (.iconst 1, 1) := (congrArg (fun b => decode b 5) cd124).trans (by decide +kernel)
theorem d124_6 : decode (vm_cd 124) 6 = .ok (.isub, 1) := (congrArg (fun b => decode b 6) cd124).trans (by decide +kernel)
theorem d124_7 : decode (vm_cd 124) 7 = .ok (.putfield 30, 3) := (congrArg (fun b => decode b 7) cd124).trans (by decide +kernel)
theorem d124_10 : decode (vm_cd 124) 10 = .ok (.aload_n 0, 1) := (congrArg (fun b => decode b 10) cd124).trans (by decide +kernel)
theorem d124_11 : decode (vm_cd 124) 11 = .ok (.aload_n 0, 1) := (congrArg (fun b => decode b 11) cd124).trans (by decide +kernel)
theorem d124_12 : decode (vm_cd 124) 12 = .ok (.getfield 27, 3) := (congrArg (fun b => decode b 12) cd124).trans (by decide +kernel)
theorem d124_15 : decode (vm_cd 124) 15 = .ok (.aload_n 0, 1) := (congrArg (fun b => decode b 15) cd124).trans (by decide +kernel)
theorem d124_16 : decode (vm_cd 124) 16 = .ok (.getfield 30, 3) := (congrArg (fun b => decode b 16) cd124).trans (by decide +kernel)
theorem d124_19 : decode (vm_cd 124) 19 = .ok (.iaload, 1) := (congrArg (fun b => decode b 19) cd124).trans (by decide +kernel)
theorem d124_20 : decode (vm_cd 124) 20 = .ok (.putfield 38, 3) := (congrArg (fun b => decode b 20) cd124).trans (by decide +kernel)
theorem d124_23 : decode (vm_cd 124) 23 = .ok (.aload_n 0, 1) := (congrArg (fun b => decode b 23) cd124).trans (by decide +kernel)
theorem d124_24 : decode (vm_cd 124) 24 = .ok (.getfield 30, 3) := (congrArg (fun b => decode b 24) cd124).trans (by decide +kernel)
theorem d124_27 : decode (vm_cd 124) 27 = .ok (.ireturn, 1) := (congrArg (fun b => decode b 27) cd124).trans (by decide +kernel)
theorem f124_27 : vm_fl.lookup (vm_own 124, 27) = some (9, 5, 214) := by decide +kernel
theorem f124_30 : vm_fl.lookup (vm_own 124, 30) = some (9, 6, 215) := by decide +kernel
theorem f124_38 : vm_fl.lookup (vm_own 124, 38) = some (9, 7, 216) := by decide +kernel
theorem r124 : vm_rt 124 = (some .int) := by decide +kernel
theorem B_Ye_takeBack_0 {X : vX} {d : Nat} {M : vM} {Q : Option vV → vM → Prop} (hR : vRefs M) (h1 : 0 ≤ ((vm_up M 70 6 (w32 ((M 70 6) - 1))) 70 6) ∧ ((vm_up M 70 6 (w32 ((M 70 6) - 1))) 70 6) < (60 : Nat)) (k : vRefs (vm_up (vm_up M 70 6 (w32 ((M 70 6) - 1))) 70 7 ((vm_up M 70 6 (w32 ((M 70 6) - 1))) 76 ((vm_up M 70 6 (w32 ((M 70 6) - 1))) 70 6).toNat)) → Q (some (vI ((vm_up (vm_up M 70 6 (w32 ((M 70 6) - 1))) 70 7 ((vm_up M 70 6 (w32 ((M 70 6) - 1))) 76 ((vm_up M 70 6 (w32 ((M 70 6) - 1))) 70 6).toNat)) 70 6))) (vm_up (vm_up M 70 6 (w32 ((M 70 6) - 1))) 70 7 ((vm_up M 70 6 (w32 ((M 70 6) - 1))) 76 ((vm_up M 70 6 (w32 ((M 70 6) - 1))) 70 6).toNat))) : vw X d 124 0 [vR 70] [] M Q := by
  refine w_aload_n d124_0 rfl ?_
  refine w_dup d124_1 rfl ?_
  refine w_getf (a := 70) (v := vI (M 70 6)) d124_2 f124_30 rfl rfl rfl ?_
  refine w_ic (v := 1) d124_5 rfl ?_
  refine w_isub d124_6 ?_
  refine w_putf (a := 70) (x := w32 ((M 70 6) - 1)) d124_7 f124_30 rfl rfl rfl (Or.inl rfl) ?_
  refine w_aload_n d124_10 rfl ?_
  refine w_aload_n d124_11 rfl ?_
  refine w_getf (a := 70) (v := vR 76) d124_12 f124_27 rfl rfl (congrArg vR (rf_70_5 (vRefs_up hR ⟨by decide, by decide⟩))) ?_
  refine w_aload_n d124_15 rfl ?_
  refine w_getf (a := 70) (v := vI ((vm_up M 70 6 (w32 ((M 70 6) - 1))) 70 6)) d124_16 f124_30 rfl rfl rfl ?_
  refine w_iaload (a := 76) d124_19 rfl rfl h1 ?_
  refine w_putf (a := 70) (x := (vm_up M 70 6 (w32 ((M 70 6) - 1))) 76 ((vm_up M 70 6 (w32 ((M 70 6) - 1))) 70 6).toNat) d124_20 f124_38 rfl rfl rfl (Or.inl rfl) ?_
  refine w_aload_n d124_23 rfl ?_
  refine w_getf (a := 70) (v := vI ((vm_up (vm_up M 70 6 (w32 ((M 70 6) - 1))) 70 7 ((vm_up M 70 6 (w32 ((M 70 6) - 1))) 76 ((vm_up M 70 6 (w32 ((M 70 6) - 1))) 70 6).toNat)) 70 6)) d124_24 f124_30 rfl rfl rfl ?_
  exact w_iret d124_27 r124 ⟨_, rfl, k (vRefs_up (vRefs_up hR ⟨by decide, by decide⟩) ⟨by decide, by decide⟩)⟩
theorem E_Ye_takeBack {X : vX} {d : Nat} {M : vM} {Q : Option vV → vM → Prop} (k : vw X d 124 0 [vR 70] [] M Q) : cq X (d + 1) 124 [vR 70] M Q := wc_in (Nat.le_of_ble_eq_true rfl) (Nat.le_of_ble_eq_true rfl) k
theorem cd125 : vm_cd 125 = cX10_told := rfl
theorem d125_0 : decode (vm_cd 125) 0 = .ok (.iload_n 2, 1) := (congrArg (fun b => decode b 0) cd125).trans (by decide +kernel)
theorem d125_1 : decode (vm_cd 125) 1 = .ok (.tableswitch 79 0 4 #[35, 42, 49, 56, 72], 35) := (congrArg (fun b => decode b 1) cd125).trans (by decide +kernel)
theorem d125_36 : decode (vm_cd 125) 36 = .ok (.aload_n 0, 1) := (congrArg (fun b => decode b 36) cd125).trans (by decide +kernel)
theorem d125_37 : decode (vm_cd 125) 37 = .ok (.getfield 11, 3) := (congrArg (fun b => decode b 37) cd125).trans (by decide +kernel)
theorem d125_40 : decode (vm_cd 125) 40 = .ok (.iload_n 1, 1) := (congrArg (fun b => decode b 40) cd125).trans (by decide +kernel)
theorem d125_41 : decode (vm_cd 125) 41 = .ok (.iaload, 1) := (congrArg (fun b => decode b 41) cd125).trans (by decide +kernel)
theorem d125_42 : decode (vm_cd 125) 42 = .ok (.ireturn, 1) := (congrArg (fun b => decode b 42) cd125).trans (by decide +kernel)
theorem d125_43 : decode (vm_cd 125) 43 = .ok (.aload_n 0, 1) := (congrArg (fun b => decode b 43) cd125).trans (by decide +kernel)
theorem d125_44 : decode (vm_cd 125) 44 = .ok (.getfield 15, 3) := (congrArg (fun b => decode b 44) cd125).trans (by decide +kernel)
theorem d125_47 : decode (vm_cd 125) 47 = .ok (.iload_n 1, 1) := (congrArg (fun b => decode b 47) cd125).trans (by decide +kernel)
theorem d125_48 : decode (vm_cd 125) 48 = .ok (.iaload, 1) := (congrArg (fun b => decode b 48) cd125).trans (by decide +kernel)
theorem d125_49 : decode (vm_cd 125) 49 = .ok (.ireturn, 1) := (congrArg (fun b => decode b 49) cd125).trans (by decide +kernel)
theorem d125_50 : decode (vm_cd 125) 50 = .ok (.aload_n 0, 1) := (congrArg (fun b => decode b 50) cd125).trans (by decide +kernel)
theorem d125_51 : decode (vm_cd 125) 51 = .ok (.getfield 18, 3) := (congrArg (fun b => decode b 51) cd125).trans (by decide +kernel)
theorem d125_54 : decode (vm_cd 125) 54 = .ok (.iload_n 1, 1) := (congrArg (fun b => decode b 54) cd125).trans (by decide +kernel)
theorem d125_55 : decode (vm_cd 125) 55 = .ok (.iaload, 1) := (congrArg (fun b => decode b 55) cd125).trans (by decide +kernel)
theorem d125_56 : decode (vm_cd 125) 56 = .ok (.ireturn, 1) := (congrArg (fun b => decode b 56) cd125).trans (by decide +kernel)
theorem d125_57 : decode (vm_cd 125) 57 = .ok (.aload_n 0, 1) := (congrArg (fun b => decode b 57) cd125).trans (by decide +kernel)
theorem d125_58 : decode (vm_cd 125) 58 = .ok (.getfield 15, 3) := (congrArg (fun b => decode b 58) cd125).trans (by decide +kernel)
theorem d125_61 : decode (vm_cd 125) 61 = .ok (.iload_n 1, 1) := (congrArg (fun b => decode b 61) cd125).trans (by decide +kernel)
theorem d125_62 : decode (vm_cd 125) 62 = .ok (.iaload, 1) := (congrArg (fun b => decode b 62) cd125).trans (by decide +kernel)
theorem d125_63 : decode (vm_cd 125) 63 = .ok (.iconst (-1), 1) := (congrArg (fun b => decode b 63) cd125).trans (by decide +kernel)
theorem d125_64 : decode (vm_cd 125) 64 = .ok (.if_icmp .ne 7, 3) := (congrArg (fun b => decode b 64) cd125).trans (by decide +kernel)
theorem d125_67 : decode (vm_cd 125) 67 = .ok (.iconst 1, 1) := (congrArg (fun b => decode b 67) cd125).trans (by decide +kernel)
theorem d125_68 : decode (vm_cd 125) 68 = .ok (.goto 4, 3) := (congrArg (fun b => decode b 68) cd125).trans (by decide +kernel)
theorem d125_71 : decode (vm_cd 125) 71 = .ok (.iconst 0, 1) := (congrArg (fun b => decode b 71) cd125).trans (by decide +kernel)
theorem d125_72 : decode (vm_cd 125) 72 = .ok (.ireturn, 1) := (congrArg (fun b => decode b 72) cd125).trans (by decide +kernel)
theorem d125_73 : decode (vm_cd 125) 73 = .ok (.aload_n 0, 1) := (congrArg (fun b => decode b 73) cd125).trans (by decide +kernel)
theorem d125_74 : decode (vm_cd 125) 74 = .ok (.getfield 24, 3) := (congrArg (fun b => decode b 74) cd125).trans (by decide +kernel)
theorem d125_77 : decode (vm_cd 125) 77 = .ok (.iload_n 1, 1) := (congrArg (fun b => decode b 77) cd125).trans (by decide +kernel)
theorem d125_78 : decode (vm_cd 125) 78 = .ok (.iaload, 1) := (congrArg (fun b => decode b 78) cd125).trans (by decide +kernel)
theorem d125_79 : decode (vm_cd 125) 79 = .ok (.ireturn, 1) := (congrArg (fun b => decode b 79) cd125).trans (by decide +kernel)
theorem d125_80 : decode (vm_cd 125) 80 = .ok (.iconst (-1), 1) := (congrArg (fun b => decode b 80) cd125).trans (by decide +kernel)
theorem d125_81 : decode (vm_cd 125) 81 = .ok (.ireturn, 1) := (congrArg (fun b => decode b 81) cd125).trans (by decide +kernel)
theorem f125_11 : vm_fl.lookup (vm_own 125, 11) = some (9, 0, 209) := by decide +kernel
theorem f125_15 : vm_fl.lookup (vm_own 125, 15) = some (9, 1, 210) := by decide +kernel
theorem f125_18 : vm_fl.lookup (vm_own 125, 18) = some (9, 2, 211) := by decide +kernel
theorem f125_24 : vm_fl.lookup (vm_own 125, 24) = some (9, 4, 213) := by decide +kernel
theorem r125 : vm_rt 125 = (some .int) := by decide +kernel
theorem B_Ye_told_0 {X : vX} {d : Nat} {M : vM} {Q : Option vV → vM → Prop} {l1 l2 : Int}  (kd : (l2 < 0 ∨ 4 < l2) → vw X d 125 80 [vR 70, vI l1, vI l2] [] M Q) (k0 : l2 = 0 → vw X d 125 36 [vR 70, vI l1, vI l2] [] M Q) (k1 : l2 = 1 → vw X d 125 43 [vR 70, vI l1, vI l2] [] M Q) (k2 : l2 = 2 → vw X d 125 50 [vR 70, vI l1, vI l2] [] M Q) (k3 : l2 = 3 → vw X d 125 57 [vR 70, vI l1, vI l2] [] M Q) (k4 : l2 = 4 → vw X d 125 73 [vR 70, vI l1, vI l2] [] M Q) : vw X d 125 0 [vR 70, vI l1, vI l2] [] M Q := by
  refine w_iload_n d125_0 rfl ?_
  rcases (show l2 < 0 ∨ 4 < l2 ∨ l2 = 0 ∨ l2 = 1 ∨ l2 = 2 ∨ l2 = 3 ∨ l2 = 4 by omega) with h | h | h | h | h | h | h
  · exact w_tab (off := 79) d125_1 (if_pos (Or.inl h)) rfl (kd (Or.inl h))
  · exact w_tab (off := 79) d125_1 (if_pos (Or.inr h)) rfl (kd (Or.inr h))
  · exact w_tab (off := 35) d125_1 (by rw [h]; rfl) rfl (k0 h)
  · exact w_tab (off := 42) d125_1 (by rw [h]; rfl) rfl (k1 h)
  · exact w_tab (off := 49) d125_1 (by rw [h]; rfl) rfl (k2 h)
  · exact w_tab (off := 56) d125_1 (by rw [h]; rfl) rfl (k3 h)
  · exact w_tab (off := 72) d125_1 (by rw [h]; rfl) rfl (k4 h)
theorem B_Ye_told_36 {X : vX} {d : Nat} {M : vM} {Q : Option vV → vM → Prop} {l1 l2 : Int} (hR : vRefs M) (h1 : 0 ≤ l1 ∧ l1 < (60 : Nat)) (k : Q (some (vI (M 71 l1.toNat))) M) : vw X d 125 36 [vR 70, vI l1, vI l2] [] M Q := by
  refine w_aload_n d125_36 rfl ?_
  refine w_getf (a := 70) (v := vR 71) d125_37 f125_11 rfl rfl (congrArg vR (rf_70_0 hR)) ?_
  refine w_iload_n d125_40 rfl ?_
  refine w_iaload (a := 71) d125_41 rfl rfl h1 ?_
  exact w_iret d125_42 r125 ⟨_, rfl, k⟩
theorem B_Ye_told_43 {X : vX} {d : Nat} {M : vM} {Q : Option vV → vM → Prop} {l1 l2 : Int} (hR : vRefs M) (h1 : 0 ≤ l1 ∧ l1 < (60 : Nat)) (k : Q (some (vI (M 72 l1.toNat))) M) : vw X d 125 43 [vR 70, vI l1, vI l2] [] M Q := by
  refine w_aload_n d125_43 rfl ?_
  refine w_getf (a := 70) (v := vR 72) d125_44 f125_15 rfl rfl (congrArg vR (rf_70_1 hR)) ?_
  refine w_iload_n d125_47 rfl ?_
  refine w_iaload (a := 72) d125_48 rfl rfl h1 ?_
  exact w_iret d125_49 r125 ⟨_, rfl, k⟩
theorem B_Ye_told_50 {X : vX} {d : Nat} {M : vM} {Q : Option vV → vM → Prop} {l1 l2 : Int} (hR : vRefs M) (h1 : 0 ≤ l1 ∧ l1 < (60 : Nat)) (k : Q (some (vI (M 73 l1.toNat))) M) : vw X d 125 50 [vR 70, vI l1, vI l2] [] M Q := by
  refine w_aload_n d125_50 rfl ?_
  refine w_getf (a := 70) (v := vR 73) d125_51 f125_18 rfl rfl (congrArg vR (rf_70_2 hR)) ?_
  refine w_iload_n d125_54 rfl ?_
  refine w_iaload (a := 73) d125_55 rfl rfl h1 ?_
  exact w_iret d125_56 r125 ⟨_, rfl, k⟩
theorem B_Ye_told_57 {X : vX} {d : Nat} {M : vM} {Q : Option vV → vM → Prop} {l1 l2 : Int} (hR : vRefs M) (h1 : 0 ≤ l1 ∧ l1 < (60 : Nat)) (k1 : ¬ (M 72 l1.toNat) = ((-1)) → vw X d 125 71 [vR 70, vI l1, vI l2] [] M Q) (k2 : (M 72 l1.toNat) = ((-1)) → vw X d 125 67 [vR 70, vI l1, vI l2] [] M Q) : vw X d 125 57 [vR 70, vI l1, vI l2] [] M Q := by
  refine w_aload_n d125_57 rfl ?_
  refine w_getf (a := 70) (v := vR 72) d125_58 f125_15 rfl rfl (congrArg vR (rf_70_1 hR)) ?_
  refine w_iload_n d125_61 rfl ?_
  refine w_iaload (a := 72) d125_62 rfl rfl h1 ?_
  refine w_ic (v := (-1)) d125_63 rfl ?_
  exact w_icmp_ne d125_64 rfl (fun h => k1 h) (fun h => k2 h)
theorem B_Ye_told_67 {X : vX} {d : Nat} {M : vM} {Q : Option vV → vM → Prop} {l1 l2 : Int}  (k : Q (some (vI 1)) M) : vw X d 125 67 [vR 70, vI l1, vI l2] [] M Q := by
  refine w_ic (v := 1) d125_67 rfl ?_
  refine w_goto (tgt := 72) d125_68 rfl ?_
  exact w_iret d125_72 r125 ⟨_, rfl, k⟩
theorem B_Ye_told_71 {X : vX} {d : Nat} {M : vM} {Q : Option vV → vM → Prop} {l1 l2 : Int}  (k : Q (some (vI 0)) M) : vw X d 125 71 [vR 70, vI l1, vI l2] [] M Q := by
  refine w_ic (v := 0) d125_71 rfl ?_
  exact w_iret d125_72 r125 ⟨_, rfl, k⟩
theorem B_Ye_told_73 {X : vX} {d : Nat} {M : vM} {Q : Option vV → vM → Prop} {l1 l2 : Int} (hR : vRefs M) (h1 : 0 ≤ l1 ∧ l1 < (60 : Nat)) (k : Q (some (vI (M 75 l1.toNat))) M) : vw X d 125 73 [vR 70, vI l1, vI l2] [] M Q := by
  refine w_aload_n d125_73 rfl ?_
  refine w_getf (a := 70) (v := vR 75) d125_74 f125_24 rfl rfl (congrArg vR (rf_70_4 hR)) ?_
  refine w_iload_n d125_77 rfl ?_
  refine w_iaload (a := 75) d125_78 rfl rfl h1 ?_
  exact w_iret d125_79 r125 ⟨_, rfl, k⟩
theorem B_Ye_told_80 {X : vX} {d : Nat} {M : vM} {Q : Option vV → vM → Prop} {l1 l2 : Int}  (k : Q (some (vI ((-1)))) M) : vw X d 125 80 [vR 70, vI l1, vI l2] [] M Q := by
  refine w_ic (v := (-1)) d125_80 rfl ?_
  exact w_iret d125_81 r125 ⟨_, rfl, k⟩
theorem E_Ye_told {X : vX} {d : Nat} {M : vM} {Q : Option vV → vM → Prop} {l1 l2 : Int} (k : vw X d 125 0 [vR 70, vI l1, vI l2] [] M Q) : cq X (d + 1) 125 [vR 70, vI l1, vI l2] M Q := wc_in (Nat.le_of_ble_eq_true rfl) (Nat.le_of_ble_eq_true rfl) k
theorem cd126 : vm_cd 126 = cX10_sum := rfl
theorem d126_0 : decode (vm_cd 126) 0 = .ok (.lconst 0, 1) := (congrArg (fun b => decode b 0) cd126).trans (by decide +kernel)
theorem d126_1 : decode (vm_cd 126) 1 = .ok (.lstore_n 2, 1) := (congrArg (fun b => decode b 1) cd126).trans (by decide +kernel)
theorem d126_2 : decode (vm_cd 126) 2 = .ok (.iconst 0, 1) := (congrArg (fun b => decode b 2) cd126).trans (by decide +kernel)
theorem d126_3 : decode (vm_cd 126) 3 = .ok (.istore 4, 2) := (congrArg (fun b => decode b 3) cd126).trans (by decide +kernel)
theorem d126_5 : decode (vm_cd 126) 5 = .ok (.iload 4, 2) := (congrArg (fun b => decode b 5) cd126).trans (by decide +kernel)
theorem d126_7 : decode (vm_cd 126) 7 = .ok (.aload_n 0, 1) := (congrArg (fun b => decode b 7) cd126).trans (by decide +kernel)
theorem d126_8 : decode (vm_cd 126) 8 = .ok (.getfield 30, 3) := (congrArg (fun b => decode b 8) cd126).trans (by decide +kernel)
theorem d126_11 : decode (vm_cd 126) 11 = .ok (.if_icmp .ge 43, 3) := (congrArg (fun b => decode b 11) cd126).trans (by decide +kernel)
theorem d126_14 : decode (vm_cd 126) 14 = .ok (.lload_n 2, 1) := (congrArg (fun b => decode b 14) cd126).trans (by decide +kernel)
theorem d126_15 : decode (vm_cd 126) 15 = .ok (.iload_n 1, 1) := (congrArg (fun b => decode b 15) cd126).trans (by decide +kernel)
theorem d126_16 : decode (vm_cd 126) 16 = .ok (.ifCond .ne 22, 3) := (congrArg (fun b => decode b 16) cd126).trans (by decide +kernel)
theorem d126_19 : decode (vm_cd 126) 19 = .ok (.aload_n 0, 1) := (congrArg (fun b => decode b 19) cd126).trans (by decide +kernel)
theorem d126_20 : decode (vm_cd 126) 20 = .ok (.getfield 21, 3) := (congrArg (fun b => decode b 20) cd126).trans (by decide +kernel)
theorem d126_23 : decode (vm_cd 126) 23 = .ok (.iload 4, 2) := (congrArg (fun b => decode b 23) cd126).trans (by decide +kernel)
theorem d126_25 : decode (vm_cd 126) 25 = .ok (.iaload, 1) := (congrArg (fun b => decode b 25) cd126).trans (by decide +kernel)
theorem d126_26 : decode (vm_cd 126) 26 = .ok (.aload_n 0, 1) := (congrArg (fun b => decode b 26) cd126).trans (by decide +kernel)
theorem d126_27 : decode (vm_cd 126) 27 = .ok (.getfield 18, 3) := (congrArg (fun b => decode b 27) cd126).trans (by decide +kernel)
theorem d126_30 : decode (vm_cd 126) 30 = .ok (.iload 4, 2) := (congrArg (fun b => decode b 30) cd126).trans (by decide +kernel)
theorem d126_32 : decode (vm_cd 126) 32 = .ok (.iaload, 1) := (congrArg (fun b => decode b 32) cd126).trans (by decide +kernel)
theorem d126_33 : decode (vm_cd 126) 33 = .ok (.isub, 1) := (congrArg (fun b => decode b 33) cd126).trans (by decide +kernel)
theorem d126_34 : decode (vm_cd 126) 34 = .ok (.i2l, 1) := (congrArg (fun b => decode b 34) cd126).trans (by decide +kernel)
theorem d126_35 : decode (vm_cd 126) 35 = .ok (.goto 11, 3) := (congrArg (fun b => decode b 35) cd126).trans (by decide +kernel)
theorem d126_38 : decode (vm_cd 126) 38 = .ok (.aload_n 0, 1) := (congrArg (fun b => decode b 38) cd126).trans (by decide +kernel)
theorem d126_39 : decode (vm_cd 126) 39 = .ok (.getfield 18, 3) := (congrArg (fun b => decode b 39) cd126).trans (by decide +kernel)
theorem d126_42 : decode (vm_cd 126) 42 = .ok (.iload 4, 2) := (congrArg (fun b => decode b 42) cd126).trans (by decide +kernel)
theorem d126_44 : decode (vm_cd 126) 44 = .ok (.iaload, 1) := (congrArg (fun b => decode b 44) cd126).trans (by decide +kernel)
theorem d126_45 : decode (vm_cd 126) 45 = .ok (.i2l, 1) := (congrArg (fun b => decode b 45) cd126).trans (by decide +kernel)
theorem d126_46 : decode (vm_cd 126) 46 = .ok (.ladd, 1) := (congrArg (fun b => decode b 46) cd126).trans (by decide +kernel)
theorem d126_47 : decode (vm_cd 126) 47 = .ok (.lstore_n 2, 1) := (congrArg (fun b => decode b 47) cd126).trans (by decide +kernel)
theorem d126_48 : decode (vm_cd 126) 48 = .ok (.iinc 4 1, 3) := (congrArg (fun b => decode b 48) cd126).trans (by decide +kernel)
theorem d126_51 : decode (vm_cd 126) 51 = .ok (.goto (-46), 3) := (congrArg (fun b => decode b 51) cd126).trans (by decide +kernel)
theorem d126_54 : decode (vm_cd 126) 54 = .ok (.lload_n 2, 1) := (congrArg (fun b => decode b 54) cd126).trans (by decide +kernel)
theorem d126_55 : decode (vm_cd 126) 55 = .ok (.lreturn, 1) := (congrArg (fun b => decode b 55) cd126).trans (by decide +kernel)
theorem f126_18 : vm_fl.lookup (vm_own 126, 18) = some (9, 2, 211) := by decide +kernel
theorem f126_21 : vm_fl.lookup (vm_own 126, 21) = some (9, 3, 212) := by decide +kernel
theorem f126_30 : vm_fl.lookup (vm_own 126, 30) = some (9, 6, 215) := by decide +kernel
theorem r126 : vm_rt 126 = (some .long) := by decide +kernel
theorem B_Ye_sum_0 {X : vX} {d : Nat} {M : vM} {Q : Option vV → vM → Prop} {l1 : Int}  (k : vw X d 126 5 [vR 70, vI l1, vL 0, vN, vI 0] [] M Q) : vw X d 126 0 [vR 70, vI l1, vN, vN, vN] [] M Q := by
  refine w_lc (v := 0) d126_0 rfl ?_
  refine w_lstore_nE (ls' := [vR 70, vI l1, vL 0, vN, vN]) d126_1 (Nat.le_of_ble_eq_true rfl) rfl ?_
  refine w_ic (v := 0) d126_2 rfl ?_
  refine w_istoreE (ls' := [vR 70, vI l1, vL 0, vN, vI 0]) d126_3 (Nat.le_of_ble_eq_true rfl) rfl ?_
  exact k
theorem B_Ye_sum_5 {X : vX} {d : Nat} {M : vM} {Q : Option vV → vM → Prop} {l1 l2 l4 : Int}  (k1 : (M 70 6) ≤ l4 → vw X d 126 54 [vR 70, vI l1, vL l2, vN, vI l4] [] M Q) (k2 : l4 < (M 70 6) → vw X d 126 14 [vR 70, vI l1, vL l2, vN, vI l4] [] M Q) : vw X d 126 5 [vR 70, vI l1, vL l2, vN, vI l4] [] M Q := by
  refine w_iload d126_5 rfl ?_
  refine w_aload_n d126_7 rfl ?_
  refine w_getf (a := 70) (v := vI (M 70 6)) d126_8 f126_30 rfl rfl rfl ?_
  exact w_icmp_ge d126_11 rfl (fun h => k1 h) (fun h => k2 h)
theorem B_Ye_sum_14 {X : vX} {d : Nat} {M : vM} {Q : Option vV → vM → Prop} {l1 l2 l4 : Int}  (k1 : ¬ l1 = 0 → vw X d 126 38 [vR 70, vI l1, vL l2, vN, vI l4] [vL l2] M Q) (k2 : l1 = 0 → vw X d 126 19 [vR 70, vI l1, vL l2, vN, vI l4] [vL l2] M Q) : vw X d 126 14 [vR 70, vI l1, vL l2, vN, vI l4] [] M Q := by
  refine w_lload_n d126_14 rfl ?_
  refine w_iload_n d126_15 rfl ?_
  exact w_if_ne d126_16 rfl (fun h => k1 h) (fun h => k2 h)
theorem B_Ye_sum_19 {X : vX} {d : Nat} {M : vM} {Q : Option vV → vM → Prop} {l1 l2 l4 s0 : Int} (hR : vRefs M) (h1 : 0 ≤ l4 ∧ l4 < (60 : Nat)) (h2 : 0 ≤ l4 ∧ l4 < (60 : Nat)) (k : vw X d 126 5 [vR 70, vI l1, vL (w64 (s0 + (w32 ((M 74 l4.toNat) - (M 73 l4.toNat))))), vN, vI (w32 (l4 + 1))] [] M Q) : vw X d 126 19 [vR 70, vI l1, vL l2, vN, vI l4] [vL s0] M Q := by
  refine w_aload_n d126_19 rfl ?_
  refine w_getf (a := 70) (v := vR 74) d126_20 f126_21 rfl rfl (congrArg vR (rf_70_3 hR)) ?_
  refine w_iload d126_23 rfl ?_
  refine w_iaload (a := 74) d126_25 rfl rfl h1 ?_
  refine w_aload_n d126_26 rfl ?_
  refine w_getf (a := 70) (v := vR 73) d126_27 f126_18 rfl rfl (congrArg vR (rf_70_2 hR)) ?_
  refine w_iload d126_30 rfl ?_
  refine w_iaload (a := 73) d126_32 rfl rfl h2 ?_
  refine w_isub d126_33 ?_
  refine w_i2l d126_34 ?_
  refine w_goto (tgt := 46) d126_35 rfl ?_
  refine w_ladd d126_46 ?_
  refine w_lstore_nE (ls' := [vR 70, vI l1, vL (w64 (s0 + (w32 ((M 74 l4.toNat) - (M 73 l4.toNat))))), vN, vI l4]) d126_47 (Nat.le_of_ble_eq_true rfl) rfl ?_
  refine w_iincE (ls' := [vR 70, vI l1, vL (w64 (s0 + (w32 ((M 74 l4.toNat) - (M 73 l4.toNat))))), vN, vI (w32 (l4 + 1))]) d126_48 rfl rfl ?_
  refine w_goto (tgt := 5) d126_51 rfl ?_
  exact k
theorem B_Ye_sum_38 {X : vX} {d : Nat} {M : vM} {Q : Option vV → vM → Prop} {l1 l2 l4 s0 : Int} (hR : vRefs M) (h1 : 0 ≤ l4 ∧ l4 < (60 : Nat)) (k : vw X d 126 5 [vR 70, vI l1, vL (w64 (s0 + (M 73 l4.toNat))), vN, vI (w32 (l4 + 1))] [] M Q) : vw X d 126 38 [vR 70, vI l1, vL l2, vN, vI l4] [vL s0] M Q := by
  refine w_aload_n d126_38 rfl ?_
  refine w_getf (a := 70) (v := vR 73) d126_39 f126_18 rfl rfl (congrArg vR (rf_70_2 hR)) ?_
  refine w_iload d126_42 rfl ?_
  refine w_iaload (a := 73) d126_44 rfl rfl h1 ?_
  refine w_i2l d126_45 ?_
  refine w_ladd d126_46 ?_
  refine w_lstore_nE (ls' := [vR 70, vI l1, vL (w64 (s0 + (M 73 l4.toNat))), vN, vI l4]) d126_47 (Nat.le_of_ble_eq_true rfl) rfl ?_
  refine w_iincE (ls' := [vR 70, vI l1, vL (w64 (s0 + (M 73 l4.toNat))), vN, vI (w32 (l4 + 1))]) d126_48 rfl rfl ?_
  refine w_goto (tgt := 5) d126_51 rfl ?_
  exact k
theorem B_Ye_sum_54 {X : vX} {d : Nat} {M : vM} {Q : Option vV → vM → Prop} {l1 l2 l4 : Int}  (k : Q (some (vL l2)) M) : vw X d 126 54 [vR 70, vI l1, vL l2, vN, vI l4] [] M Q := by
  refine w_lload_n d126_54 rfl ?_
  exact w_lret d126_55 r126 ⟨_, rfl, k⟩
theorem E_Ye_sum {X : vX} {d : Nat} {M : vM} {Q : Option vV → vM → Prop} {l1 : Int} (k : vw X d 126 0 [vR 70, vI l1, vN, vN, vN] [] M Q) : cq X (d + 1) 126 [vR 70, vI l1] M Q := wc_in (Nat.le_of_ble_eq_true rfl) (Nat.le_of_ble_eq_true rfl) k
theorem cd280 : vm_cd 280 = cJ6_compare_7cf53 := rfl
theorem d280_0 : decode (vm_cd 280) 0 = .ok (.iload_n 0, 1) := (congrArg (fun b => decode b 0) cd280).trans (by decide +kernel)
theorem d280_1 : decode (vm_cd 280) 1 = .ok (.iload_n 1, 1) := (congrArg (fun b => decode b 1) cd280).trans (by decide +kernel)
theorem d280_2 : decode (vm_cd 280) 2 = .ok (.if_icmp .ge 7, 3) := (congrArg (fun b => decode b 2) cd280).trans (by decide +kernel)
theorem d280_5 : decode (vm_cd 280) 5 = .ok (.iconst (-1), 1) := (congrArg (fun b => decode b 5) cd280).trans (by decide +kernel)
theorem d280_6 : decode (vm_cd 280) 6 = .ok (.goto 13, 3) := (congrArg (fun b => decode b 6) cd280).trans (by decide +kernel)
theorem d280_9 : decode (vm_cd 280) 9 = .ok (.iload_n 0, 1) := (congrArg (fun b => decode b 9) cd280).trans (by decide +kernel)
theorem d280_10 : decode (vm_cd 280) 10 = .ok (.iload_n 1, 1) := (congrArg (fun b => decode b 10) cd280).trans (by decide +kernel)
theorem d280_11 : decode (vm_cd 280) 11 = .ok (.if_icmp .ne 7, 3) := (congrArg (fun b => decode b 11) cd280).trans (by decide +kernel)
theorem d280_14 : decode (vm_cd 280) 14 = .ok (.iconst 0, 1) := (congrArg (fun b => decode b 14) cd280).trans (by decide +kernel)
theorem d280_15 : decode (vm_cd 280) 15 = .ok (.goto 4, 3) := (congrArg (fun b => decode b 15) cd280).trans (by decide +kernel)
theorem d280_18 : decode (vm_cd 280) 18 = .ok (.iconst 1, 1) := (congrArg (fun b => decode b 18) cd280).trans (by decide +kernel)
theorem d280_19 : decode (vm_cd 280) 19 = .ok (.ireturn, 1) := (congrArg (fun b => decode b 19) cd280).trans (by decide +kernel)
theorem r280 : vm_rt 280 = (some .int) := by decide +kernel
theorem B_J_compare_0 {X : vX} {d : Nat} {M : vM} {Q : Option vV → vM → Prop} {l0 l1 : Int}  (k1 : l1 ≤ l0 → vw X d 280 9 [vI l0, vI l1] [] M Q) (k2 : l0 < l1 → vw X d 280 5 [vI l0, vI l1] [] M Q) : vw X d 280 0 [vI l0, vI l1] [] M Q := by
  refine w_iload_n d280_0 rfl ?_
  refine w_iload_n d280_1 rfl ?_
  exact w_icmp_ge d280_2 rfl (fun h => k1 h) (fun h => k2 h)
theorem B_J_compare_5 {X : vX} {d : Nat} {M : vM} {Q : Option vV → vM → Prop} {l0 l1 : Int}  (k : Q (some (vI ((-1)))) M) : vw X d 280 5 [vI l0, vI l1] [] M Q := by
  refine w_ic (v := (-1)) d280_5 rfl ?_
  refine w_goto (tgt := 19) d280_6 rfl ?_
  exact w_iret d280_19 r280 ⟨_, rfl, k⟩
theorem B_J_compare_9 {X : vX} {d : Nat} {M : vM} {Q : Option vV → vM → Prop} {l0 l1 : Int}  (k1 : ¬ l0 = l1 → vw X d 280 18 [vI l0, vI l1] [] M Q) (k2 : l0 = l1 → vw X d 280 14 [vI l0, vI l1] [] M Q) : vw X d 280 9 [vI l0, vI l1] [] M Q := by
  refine w_iload_n d280_9 rfl ?_
  refine w_iload_n d280_10 rfl ?_
  exact w_icmp_ne d280_11 rfl (fun h => k1 h) (fun h => k2 h)
theorem B_J_compare_14 {X : vX} {d : Nat} {M : vM} {Q : Option vV → vM → Prop} {l0 l1 : Int}  (k : Q (some (vI 0)) M) : vw X d 280 14 [vI l0, vI l1] [] M Q := by
  refine w_ic (v := 0) d280_14 rfl ?_
  refine w_goto (tgt := 19) d280_15 rfl ?_
  exact w_iret d280_19 r280 ⟨_, rfl, k⟩
theorem B_J_compare_18 {X : vX} {d : Nat} {M : vM} {Q : Option vV → vM → Prop} {l0 l1 : Int}  (k : Q (some (vI 1)) M) : vw X d 280 18 [vI l0, vI l1] [] M Q := by
  refine w_ic (v := 1) d280_18 rfl ?_
  exact w_iret d280_19 r280 ⟨_, rfl, k⟩
theorem E_J_compare {X : vX} {d : Nat} {M : vM} {Q : Option vV → vM → Prop} {l0 l1 : Int} (k : vw X d 280 0 [vI l0, vI l1] [] M Q) : cq X (d + 1) 280 [vI l0, vI l1] M Q := wc_in (Nat.le_of_ble_eq_true rfl) (Nat.le_of_ble_eq_true rfl) k
theorem cd281 : vm_cd 281 = cJ6_bitCount_0f7a4 := rfl
theorem d281_0 : decode (vm_cd 281) 0 = .ok (.iload_n 0, 1) := (congrArg (fun b => decode b 0) cd281).trans (by decide +kernel)
theorem d281_1 : decode (vm_cd 281) 1 = .ok (.iload_n 0, 1) := (congrArg (fun b => decode b 1) cd281).trans (by decide +kernel)
theorem d281_2 : decode (vm_cd 281) 2 = .ok (.iconst 1, 1) := (congrArg (fun b => decode b 2) cd281).trans (by decide +kernel)
theorem d281_3 : decode (vm_cd 281) 3 = .ok (.iushr, 1) := (congrArg (fun b => decode b 3) cd281).trans (by decide +kernel)
theorem d281_4 : decode (vm_cd 281) 4 = .ok (.ldc_w 265, 3) := (congrArg (fun b => decode b 4) cd281).trans (by decide +kernel)
theorem d281_7 : decode (vm_cd 281) 7 = .ok (.iand, 1) := (congrArg (fun b => decode b 7) cd281).trans (by decide +kernel)
theorem d281_8 : decode (vm_cd 281) 8 = .ok (.isub, 1) := (congrArg (fun b => decode b 8) cd281).trans (by decide +kernel)
theorem d281_9 : decode (vm_cd 281) 9 = .ok (.istore_n 0, 1) := (congrArg (fun b => decode b 9) cd281).trans (by decide +kernel)
theorem d281_10 : decode (vm_cd 281) 10 = .ok (.iload_n 0, 1) := (congrArg (fun b => decode b 10) cd281).trans (by decide +kernel)
theorem d281_11 : decode (vm_cd 281) 11 = .ok (.ldc_w 266, 3) := (congrArg (fun b => decode b 11) cd281).trans (by decide +kernel)
theorem d281_14 : decode (vm_cd 281) 14 = .ok (.iand, 1) := (congrArg (fun b => decode b 14) cd281).trans (by decide +kernel)
theorem d281_15 : decode (vm_cd 281) 15 = .ok (.iload_n 0, 1) := (congrArg (fun b => decode b 15) cd281).trans (by decide +kernel)
theorem d281_16 : decode (vm_cd 281) 16 = .ok (.iconst 2, 1) := (congrArg (fun b => decode b 16) cd281).trans (by decide +kernel)
theorem d281_17 : decode (vm_cd 281) 17 = .ok (.iushr, 1) := (congrArg (fun b => decode b 17) cd281).trans (by decide +kernel)
theorem d281_18 : decode (vm_cd 281) 18 = .ok (.ldc_w 266, 3) := (congrArg (fun b => decode b 18) cd281).trans (by decide +kernel)
theorem d281_21 : decode (vm_cd 281) 21 = .ok (.iand, 1) := (congrArg (fun b => decode b 21) cd281).trans (by decide +kernel)
theorem d281_22 : decode (vm_cd 281) 22 = .ok (.iadd, 1) := (congrArg (fun b => decode b 22) cd281).trans (by decide +kernel)
theorem d281_23 : decode (vm_cd 281) 23 = .ok (.istore_n 0, 1) := (congrArg (fun b => decode b 23) cd281).trans (by decide +kernel)
theorem d281_24 : decode (vm_cd 281) 24 = .ok (.iload_n 0, 1) := (congrArg (fun b => decode b 24) cd281).trans (by decide +kernel)
theorem d281_25 : decode (vm_cd 281) 25 = .ok (.iload_n 0, 1) := (congrArg (fun b => decode b 25) cd281).trans (by decide +kernel)
theorem d281_26 : decode (vm_cd 281) 26 = .ok (.iconst 4, 1) := (congrArg (fun b => decode b 26) cd281).trans (by decide +kernel)
theorem d281_27 : decode (vm_cd 281) 27 = .ok (.iushr, 1) := (congrArg (fun b => decode b 27) cd281).trans (by decide +kernel)
theorem d281_28 : decode (vm_cd 281) 28 = .ok (.iadd, 1) := (congrArg (fun b => decode b 28) cd281).trans (by decide +kernel)
theorem d281_29 : decode (vm_cd 281) 29 = .ok (.ldc_w 267, 3) := (congrArg (fun b => decode b 29) cd281).trans (by decide +kernel)
theorem d281_32 : decode (vm_cd 281) 32 = .ok (.iand, 1) := (congrArg (fun b => decode b 32) cd281).trans (by decide +kernel)
theorem d281_33 : decode (vm_cd 281) 33 = .ok (.istore_n 0, 1) := (congrArg (fun b => decode b 33) cd281).trans (by decide +kernel)
theorem d281_34 : decode (vm_cd 281) 34 = .ok (.iload_n 0, 1) := (congrArg (fun b => decode b 34) cd281).trans (by decide +kernel)
theorem d281_35 : decode (vm_cd 281) 35 = .ok (.iload_n 0, 1) := (congrArg (fun b => decode b 35) cd281).trans (by decide +kernel)
theorem d281_36 : decode (vm_cd 281) 36 = .ok (.bipush 8, 2) := (congrArg (fun b => decode b 36) cd281).trans (by decide +kernel)
theorem d281_38 : decode (vm_cd 281) 38 = .ok (.iushr, 1) := (congrArg (fun b => decode b 38) cd281).trans (by decide +kernel)
theorem d281_39 : decode (vm_cd 281) 39 = .ok (.iadd, 1) := (congrArg (fun b => decode b 39) cd281).trans (by decide +kernel)
theorem d281_40 : decode (vm_cd 281) 40 = .ok (.istore_n 0, 1) := (congrArg (fun b => decode b 40) cd281).trans (by decide +kernel)
theorem d281_41 : decode (vm_cd 281) 41 = .ok (.iload_n 0, 1) := (congrArg (fun b => decode b 41) cd281).trans (by decide +kernel)
theorem d281_42 : decode (vm_cd 281) 42 = .ok (.iload_n 0, 1) := (congrArg (fun b => decode b 42) cd281).trans (by decide +kernel)
theorem d281_43 : decode (vm_cd 281) 43 = .ok (.bipush 16, 2) := (congrArg (fun b => decode b 43) cd281).trans (by decide +kernel)
theorem d281_45 : decode (vm_cd 281) 45 = .ok (.iushr, 1) := (congrArg (fun b => decode b 45) cd281).trans (by decide +kernel)
theorem d281_46 : decode (vm_cd 281) 46 = .ok (.iadd, 1) := (congrArg (fun b => decode b 46) cd281).trans (by decide +kernel)
theorem d281_47 : decode (vm_cd 281) 47 = .ok (.istore_n 0, 1) := (congrArg (fun b => decode b 47) cd281).trans (by decide +kernel)
theorem d281_48 : decode (vm_cd 281) 48 = .ok (.iload_n 0, 1) := (congrArg (fun b => decode b 48) cd281).trans (by decide +kernel)
theorem d281_49 : decode (vm_cd 281) 49 = .ok (.bipush 63, 2) := (congrArg (fun b => decode b 49) cd281).trans (by decide +kernel)
theorem d281_51 : decode (vm_cd 281) 51 = .ok (.iand, 1) := (congrArg (fun b => decode b 51) cd281).trans (by decide +kernel)
theorem d281_52 : decode (vm_cd 281) 52 = .ok (.ireturn, 1) := (congrArg (fun b => decode b 52) cd281).trans (by decide +kernel)
theorem g281_265 : vm_cn.lookup (vm_own 281, 265) = some ((0), (1431655765), (678)) := by decide +kernel
theorem g281_266 : vm_cn.lookup (vm_own 281, 266) = some ((0), (858993459), (679)) := by decide +kernel
theorem g281_267 : vm_cn.lookup (vm_own 281, 267) = some ((0), (252645135), (680)) := by decide +kernel
theorem r281 : vm_rt 281 = (some .int) := by decide +kernel
theorem B_J_bitCount_0 {X : vX} {d : Nat} {M : vM} {Q : Option vV → vM → Prop} {l0 : Int}  (k : Q (some (vI (j_iand (w32 ((w32 ((j_iand (w32 ((w32 ((j_iand (w32 (l0 - (j_iand (j_iushr l0 1) 1431655765))) 858993459) + (j_iand (j_iushr (w32 (l0 - (j_iand (j_iushr l0 1) 1431655765))) 2) 858993459))) + (j_iushr (w32 ((j_iand (w32 (l0 - (j_iand (j_iushr l0 1) 1431655765))) 858993459) + (j_iand (j_iushr (w32 (l0 - (j_iand (j_iushr l0 1) 1431655765))) 2) 858993459))) 4))) 252645135) + (j_iushr (j_iand (w32 ((w32 ((j_iand (w32 (l0 - (j_iand (j_iushr l0 1) 1431655765))) 858993459) + (j_iand (j_iushr (w32 (l0 - (j_iand (j_iushr l0 1) 1431655765))) 2) 858993459))) + (j_iushr (w32 ((j_iand (w32 (l0 - (j_iand (j_iushr l0 1) 1431655765))) 858993459) + (j_iand (j_iushr (w32 (l0 - (j_iand (j_iushr l0 1) 1431655765))) 2) 858993459))) 4))) 252645135) 8))) + (j_iushr (w32 ((j_iand (w32 ((w32 ((j_iand (w32 (l0 - (j_iand (j_iushr l0 1) 1431655765))) 858993459) + (j_iand (j_iushr (w32 (l0 - (j_iand (j_iushr l0 1) 1431655765))) 2) 858993459))) + (j_iushr (w32 ((j_iand (w32 (l0 - (j_iand (j_iushr l0 1) 1431655765))) 858993459) + (j_iand (j_iushr (w32 (l0 - (j_iand (j_iushr l0 1) 1431655765))) 2) 858993459))) 4))) 252645135) + (j_iushr (j_iand (w32 ((w32 ((j_iand (w32 (l0 - (j_iand (j_iushr l0 1) 1431655765))) 858993459) + (j_iand (j_iushr (w32 (l0 - (j_iand (j_iushr l0 1) 1431655765))) 2) 858993459))) + (j_iushr (w32 ((j_iand (w32 (l0 - (j_iand (j_iushr l0 1) 1431655765))) 858993459) + (j_iand (j_iushr (w32 (l0 - (j_iand (j_iushr l0 1) 1431655765))) 2) 858993459))) 4))) 252645135) 8))) 16))) 63))) M) : vw X d 281 0 [vI l0] [] M Q := by
  refine w_iload_n d281_0 rfl ?_
  refine w_iload_n d281_1 rfl ?_
  refine w_ic (v := 1) d281_2 rfl ?_
  refine w_iushr d281_3 ?_
  refine w_ldc_w (v := 1431655765) d281_4 g281_265 rfl ?_
  refine w_iand d281_7 ?_
  refine w_isub d281_8 ?_
  refine w_istore_nE (ls' := [vI (w32 (l0 - (j_iand (j_iushr l0 1) 1431655765)))]) d281_9 (Nat.le_of_ble_eq_true rfl) rfl ?_
  refine w_iload_n d281_10 rfl ?_
  refine w_ldc_w (v := 858993459) d281_11 g281_266 rfl ?_
  refine w_iand d281_14 ?_
  refine w_iload_n d281_15 rfl ?_
  refine w_ic (v := 2) d281_16 rfl ?_
  refine w_iushr d281_17 ?_
  refine w_ldc_w (v := 858993459) d281_18 g281_266 rfl ?_
  refine w_iand d281_21 ?_
  refine w_iadd d281_22 ?_
  refine w_istore_nE (ls' := [vI (w32 ((j_iand (w32 (l0 - (j_iand (j_iushr l0 1) 1431655765))) 858993459) + (j_iand (j_iushr (w32 (l0 - (j_iand (j_iushr l0 1) 1431655765))) 2) 858993459)))]) d281_23 (Nat.le_of_ble_eq_true rfl) rfl ?_
  refine w_iload_n d281_24 rfl ?_
  refine w_iload_n d281_25 rfl ?_
  refine w_ic (v := 4) d281_26 rfl ?_
  refine w_iushr d281_27 ?_
  refine w_iadd d281_28 ?_
  refine w_ldc_w (v := 252645135) d281_29 g281_267 rfl ?_
  refine w_iand d281_32 ?_
  refine w_istore_nE (ls' := [vI (j_iand (w32 ((w32 ((j_iand (w32 (l0 - (j_iand (j_iushr l0 1) 1431655765))) 858993459) + (j_iand (j_iushr (w32 (l0 - (j_iand (j_iushr l0 1) 1431655765))) 2) 858993459))) + (j_iushr (w32 ((j_iand (w32 (l0 - (j_iand (j_iushr l0 1) 1431655765))) 858993459) + (j_iand (j_iushr (w32 (l0 - (j_iand (j_iushr l0 1) 1431655765))) 2) 858993459))) 4))) 252645135)]) d281_33 (Nat.le_of_ble_eq_true rfl) rfl ?_
  refine w_iload_n d281_34 rfl ?_
  refine w_iload_n d281_35 rfl ?_
  refine w_bi (v := 8) d281_36 rfl ?_
  refine w_iushr d281_38 ?_
  refine w_iadd d281_39 ?_
  refine w_istore_nE (ls' := [vI (w32 ((j_iand (w32 ((w32 ((j_iand (w32 (l0 - (j_iand (j_iushr l0 1) 1431655765))) 858993459) + (j_iand (j_iushr (w32 (l0 - (j_iand (j_iushr l0 1) 1431655765))) 2) 858993459))) + (j_iushr (w32 ((j_iand (w32 (l0 - (j_iand (j_iushr l0 1) 1431655765))) 858993459) + (j_iand (j_iushr (w32 (l0 - (j_iand (j_iushr l0 1) 1431655765))) 2) 858993459))) 4))) 252645135) + (j_iushr (j_iand (w32 ((w32 ((j_iand (w32 (l0 - (j_iand (j_iushr l0 1) 1431655765))) 858993459) + (j_iand (j_iushr (w32 (l0 - (j_iand (j_iushr l0 1) 1431655765))) 2) 858993459))) + (j_iushr (w32 ((j_iand (w32 (l0 - (j_iand (j_iushr l0 1) 1431655765))) 858993459) + (j_iand (j_iushr (w32 (l0 - (j_iand (j_iushr l0 1) 1431655765))) 2) 858993459))) 4))) 252645135) 8)))]) d281_40 (Nat.le_of_ble_eq_true rfl) rfl ?_
  refine w_iload_n d281_41 rfl ?_
  refine w_iload_n d281_42 rfl ?_
  refine w_bi (v := 16) d281_43 rfl ?_
  refine w_iushr d281_45 ?_
  refine w_iadd d281_46 ?_
  refine w_istore_nE (ls' := [vI (w32 ((w32 ((j_iand (w32 ((w32 ((j_iand (w32 (l0 - (j_iand (j_iushr l0 1) 1431655765))) 858993459) + (j_iand (j_iushr (w32 (l0 - (j_iand (j_iushr l0 1) 1431655765))) 2) 858993459))) + (j_iushr (w32 ((j_iand (w32 (l0 - (j_iand (j_iushr l0 1) 1431655765))) 858993459) + (j_iand (j_iushr (w32 (l0 - (j_iand (j_iushr l0 1) 1431655765))) 2) 858993459))) 4))) 252645135) + (j_iushr (j_iand (w32 ((w32 ((j_iand (w32 (l0 - (j_iand (j_iushr l0 1) 1431655765))) 858993459) + (j_iand (j_iushr (w32 (l0 - (j_iand (j_iushr l0 1) 1431655765))) 2) 858993459))) + (j_iushr (w32 ((j_iand (w32 (l0 - (j_iand (j_iushr l0 1) 1431655765))) 858993459) + (j_iand (j_iushr (w32 (l0 - (j_iand (j_iushr l0 1) 1431655765))) 2) 858993459))) 4))) 252645135) 8))) + (j_iushr (w32 ((j_iand (w32 ((w32 ((j_iand (w32 (l0 - (j_iand (j_iushr l0 1) 1431655765))) 858993459) + (j_iand (j_iushr (w32 (l0 - (j_iand (j_iushr l0 1) 1431655765))) 2) 858993459))) + (j_iushr (w32 ((j_iand (w32 (l0 - (j_iand (j_iushr l0 1) 1431655765))) 858993459) + (j_iand (j_iushr (w32 (l0 - (j_iand (j_iushr l0 1) 1431655765))) 2) 858993459))) 4))) 252645135) + (j_iushr (j_iand (w32 ((w32 ((j_iand (w32 (l0 - (j_iand (j_iushr l0 1) 1431655765))) 858993459) + (j_iand (j_iushr (w32 (l0 - (j_iand (j_iushr l0 1) 1431655765))) 2) 858993459))) + (j_iushr (w32 ((j_iand (w32 (l0 - (j_iand (j_iushr l0 1) 1431655765))) 858993459) + (j_iand (j_iushr (w32 (l0 - (j_iand (j_iushr l0 1) 1431655765))) 2) 858993459))) 4))) 252645135) 8))) 16)))]) d281_47 (Nat.le_of_ble_eq_true rfl) rfl ?_
  refine w_iload_n d281_48 rfl ?_
  refine w_bi (v := 63) d281_49 rfl ?_
  refine w_iand d281_51 ?_
  exact w_iret d281_52 r281 ⟨_, rfl, k⟩
theorem E_J_bitCount {X : vX} {d : Nat} {M : vM} {Q : Option vV → vM → Prop} {l0 : Int} (k : vw X d 281 0 [vI l0] [] M Q) : cq X (d + 1) 281 [vI l0] M Q := wc_in (Nat.le_of_ble_eq_true rfl) (Nat.le_of_ble_eq_true rfl) k
theorem cd282 : vm_cd 282 = cJ9_floorMod_7cf53 := rfl
theorem d282_0 : decode (vm_cd 282) 0 = .ok (.iload_n 0, 1) := (congrArg (fun b => decode b 0) cd282).trans (by decide +kernel)
theorem d282_1 : decode (vm_cd 282) 1 = .ok (.iload_n 1, 1) := (congrArg (fun b => decode b 1) cd282).trans (by decide +kernel)
theorem d282_2 : decode (vm_cd 282) 2 = .ok (.irem, 1) := (congrArg (fun b => decode b 2) cd282).trans (by decide +kernel)
theorem d282_3 : decode (vm_cd 282) 3 = .ok (.istore_n 2, 1) := (congrArg (fun b => decode b 3) cd282).trans (by decide +kernel)
theorem d282_4 : decode (vm_cd 282) 4 = .ok (.iload_n 0, 1) := (congrArg (fun b => decode b 4) cd282).trans (by decide +kernel)
theorem d282_5 : decode (vm_cd 282) 5 = .ok (.iload_n 1, 1) := (congrArg (fun b => decode b 5) cd282).trans (by decide +kernel)
theorem d282_6 : decode (vm_cd 282) 6 = .ok (.ixor, 1) := (congrArg (fun b => decode b 6) cd282).trans (by decide +kernel)
theorem d282_7 : decode (vm_cd 282) 7 = .ok (.ifCond .ge 11, 3) := (congrArg (fun b => decode b 7) cd282).trans (by decide +kernel)
theorem d282_10 : decode (vm_cd 282) 10 = .ok (.iload_n 2, 1) := (congrArg (fun b => decode b 10) cd282).trans (by decide +kernel)
theorem d282_11 : decode (vm_cd 282) 11 = .ok (.ifCond .eq 7, 3) := (congrArg (fun b => decode b 11) cd282).trans (by decide +kernel)
theorem d282_14 : decode (vm_cd 282) 14 = .ok (.iload_n 2, 1) := (congrArg (fun b => decode b 14) cd282).trans (by decide +kernel)
theorem d282_15 : decode (vm_cd 282) 15 = .ok (.iload_n 1, 1) := (congrArg (fun b => decode b 15) cd282).trans (by decide +kernel)
theorem d282_16 : decode (vm_cd 282) 16 = .ok (.iadd, 1) := (congrArg (fun b => decode b 16) cd282).trans (by decide +kernel)
theorem d282_17 : decode (vm_cd 282) 17 = .ok (.ireturn, 1) := (congrArg (fun b => decode b 17) cd282).trans (by decide +kernel)
theorem d282_18 : decode (vm_cd 282) 18 = .ok (.iload_n 2, 1) := (congrArg (fun b => decode b 18) cd282).trans (by decide +kernel)
theorem d282_19 : decode (vm_cd 282) 19 = .ok (.ireturn, 1) := (congrArg (fun b => decode b 19) cd282).trans (by decide +kernel)
theorem r282 : vm_rt 282 = (some .int) := by decide +kernel
theorem B_J_floorMod_0 {X : vX} {d : Nat} {M : vM} {Q : Option vV → vM → Prop} {l0 l1 : Int} (h1 : l1 ≠ 0) (k1 : 0 ≤ (j_ixor l0 l1) → vw X d 282 18 [vI l0, vI l1, vI (j_irem l0 l1)] [] M Q) (k2 : (j_ixor l0 l1) < 0 → vw X d 282 10 [vI l0, vI l1, vI (j_irem l0 l1)] [] M Q) : vw X d 282 0 [vI l0, vI l1, vN] [] M Q := by
  refine w_iload_n d282_0 rfl ?_
  refine w_iload_n d282_1 rfl ?_
  refine w_irem d282_2 h1 ?_
  refine w_istore_nE (ls' := [vI l0, vI l1, vI (j_irem l0 l1)]) d282_3 (Nat.le_of_ble_eq_true rfl) rfl ?_
  refine w_iload_n d282_4 rfl ?_
  refine w_iload_n d282_5 rfl ?_
  refine w_ixor d282_6 ?_
  exact w_if_ge d282_7 rfl (fun h => k1 h) (fun h => k2 h)
theorem B_J_floorMod_10 {X : vX} {d : Nat} {M : vM} {Q : Option vV → vM → Prop} {l0 l1 l2 : Int}  (k1 : l2 = 0 → vw X d 282 18 [vI l0, vI l1, vI l2] [] M Q) (k2 : ¬ l2 = 0 → vw X d 282 14 [vI l0, vI l1, vI l2] [] M Q) : vw X d 282 10 [vI l0, vI l1, vI l2] [] M Q := by
  refine w_iload_n d282_10 rfl ?_
  exact w_if_eq d282_11 rfl (fun h => k1 h) (fun h => k2 h)
theorem B_J_floorMod_14 {X : vX} {d : Nat} {M : vM} {Q : Option vV → vM → Prop} {l0 l1 l2 : Int}  (k : Q (some (vI (w32 (l2 + l1)))) M) : vw X d 282 14 [vI l0, vI l1, vI l2] [] M Q := by
  refine w_iload_n d282_14 rfl ?_
  refine w_iload_n d282_15 rfl ?_
  refine w_iadd d282_16 ?_
  exact w_iret d282_17 r282 ⟨_, rfl, k⟩
theorem B_J_floorMod_18 {X : vX} {d : Nat} {M : vM} {Q : Option vV → vM → Prop} {l0 l1 l2 : Int}  (k : Q (some (vI l2)) M) : vw X d 282 18 [vI l0, vI l1, vI l2] [] M Q := by
  refine w_iload_n d282_18 rfl ?_
  exact w_iret d282_19 r282 ⟨_, rfl, k⟩
theorem E_J_floorMod {X : vX} {d : Nat} {M : vM} {Q : Option vV → vM → Prop} {l0 l1 : Int} (k : vw X d 282 0 [vI l0, vI l1, vN] [] M Q) : cq X (d + 1) 282 [vI l0, vI l1] M Q := wc_in (Nat.le_of_ble_eq_true rfl) (Nat.le_of_ble_eq_true rfl) k
theorem cd283 : vm_cd 283 = cJ9_abs_067f4 := rfl
theorem d283_0 : decode (vm_cd 283) 0 = .ok (.lload_n 0, 1) := (congrArg (fun b => decode b 0) cd283).trans (by decide +kernel)
theorem d283_1 : decode (vm_cd 283) 1 = .ok (.lconst 0, 1) := (congrArg (fun b => decode b 1) cd283).trans (by decide +kernel)
theorem d283_2 : decode (vm_cd 283) 2 = .ok (.lcmp, 1) := (congrArg (fun b => decode b 2) cd283).trans (by decide +kernel)
theorem d283_3 : decode (vm_cd 283) 3 = .ok (.ifCond .ge 8, 3) := (congrArg (fun b => decode b 3) cd283).trans (by decide +kernel)
theorem d283_6 : decode (vm_cd 283) 6 = .ok (.lload_n 0, 1) := (congrArg (fun b => decode b 6) cd283).trans (by decide +kernel)
theorem d283_7 : decode (vm_cd 283) 7 = .ok (.lneg, 1) := (congrArg (fun b => decode b 7) cd283).trans (by decide +kernel)
theorem d283_8 : decode (vm_cd 283) 8 = .ok (.goto 4, 3) := (congrArg (fun b => decode b 8) cd283).trans (by decide +kernel)
theorem d283_11 : decode (vm_cd 283) 11 = .ok (.lload_n 0, 1) := (congrArg (fun b => decode b 11) cd283).trans (by decide +kernel)
theorem d283_12 : decode (vm_cd 283) 12 = .ok (.lreturn, 1) := (congrArg (fun b => decode b 12) cd283).trans (by decide +kernel)
theorem r283 : vm_rt 283 = (some .long) := by decide +kernel
theorem B_J_abs_0 {X : vX} {d : Nat} {M : vM} {Q : Option vV → vM → Prop} {l0 : Int}  (k1 : 0 ≤ l0 → vw X d 283 11 [vL l0, vN] [] M Q) (k2 : l0 < 0 → vw X d 283 6 [vL l0, vN] [] M Q) : vw X d 283 0 [vL l0, vN] [] M Q := by
  refine w_lload_n d283_0 rfl ?_
  refine w_lc (v := 0) d283_1 rfl ?_
  exact w_lc_ge d283_2 d283_3 rfl (fun h => k1 h) (fun h => k2 h)
theorem B_J_abs_6 {X : vX} {d : Nat} {M : vM} {Q : Option vV → vM → Prop} {l0 : Int}  (k : Q (some (vL (w64 (-l0)))) M) : vw X d 283 6 [vL l0, vN] [] M Q := by
  refine w_lload_n d283_6 rfl ?_
  refine w_lneg d283_7 ?_
  refine w_goto (tgt := 12) d283_8 rfl ?_
  exact w_lret d283_12 r283 ⟨_, rfl, k⟩
theorem B_J_abs_11 {X : vX} {d : Nat} {M : vM} {Q : Option vV → vM → Prop} {l0 : Int}  (k : Q (some (vL l0)) M) : vw X d 283 11 [vL l0, vN] [] M Q := by
  refine w_lload_n d283_11 rfl ?_
  exact w_lret d283_12 r283 ⟨_, rfl, k⟩
theorem E_J_abs {X : vX} {d : Nat} {M : vM} {Q : Option vV → vM → Prop} {l0 : Int} (k : vw X d 283 0 [vL l0, vN] [] M Q) : cq X (d + 1) 283 [vL l0] M Q := wc_in (Nat.le_of_ble_eq_true rfl) (Nat.le_of_ble_eq_true rfl) k
theorem cd284 : vm_cd 284 = cJ9_max_7cf53 := rfl
theorem d284_0 : decode (vm_cd 284) 0 = .ok (.iload_n 0, 1) := (congrArg (fun b => decode b 0) cd284).trans (by decide +kernel)
theorem d284_1 : decode (vm_cd 284) 1 = .ok (.iload_n 1, 1) := (congrArg (fun b => decode b 1) cd284).trans (by decide +kernel)
theorem d284_2 : decode (vm_cd 284) 2 = .ok (.if_icmp .lt 7, 3) := (congrArg (fun b => decode b 2) cd284).trans (by decide +kernel)
theorem d284_5 : decode (vm_cd 284) 5 = .ok (.iload_n 0, 1) := (congrArg (fun b => decode b 5) cd284).trans (by decide +kernel)
theorem d284_6 : decode (vm_cd 284) 6 = .ok (.goto 4, 3) := (congrArg (fun b => decode b 6) cd284).trans (by decide +kernel)
theorem d284_9 : decode (vm_cd 284) 9 = .ok (.iload_n 1, 1) := (congrArg (fun b => decode b 9) cd284).trans (by decide +kernel)
theorem d284_10 : decode (vm_cd 284) 10 = .ok (.ireturn, 1) := (congrArg (fun b => decode b 10) cd284).trans (by decide +kernel)
theorem r284 : vm_rt 284 = (some .int) := by decide +kernel
theorem B_J_maxI_0 {X : vX} {d : Nat} {M : vM} {Q : Option vV → vM → Prop} {l0 l1 : Int}  (k1 : l0 < l1 → vw X d 284 9 [vI l0, vI l1] [] M Q) (k2 : l1 ≤ l0 → vw X d 284 5 [vI l0, vI l1] [] M Q) : vw X d 284 0 [vI l0, vI l1] [] M Q := by
  refine w_iload_n d284_0 rfl ?_
  refine w_iload_n d284_1 rfl ?_
  exact w_icmp_lt d284_2 rfl (fun h => k1 h) (fun h => k2 h)
theorem B_J_maxI_5 {X : vX} {d : Nat} {M : vM} {Q : Option vV → vM → Prop} {l0 l1 : Int}  (k : Q (some (vI l0)) M) : vw X d 284 5 [vI l0, vI l1] [] M Q := by
  refine w_iload_n d284_5 rfl ?_
  refine w_goto (tgt := 10) d284_6 rfl ?_
  exact w_iret d284_10 r284 ⟨_, rfl, k⟩
theorem B_J_maxI_9 {X : vX} {d : Nat} {M : vM} {Q : Option vV → vM → Prop} {l0 l1 : Int}  (k : Q (some (vI l1)) M) : vw X d 284 9 [vI l0, vI l1] [] M Q := by
  refine w_iload_n d284_9 rfl ?_
  exact w_iret d284_10 r284 ⟨_, rfl, k⟩
theorem E_J_maxI {X : vX} {d : Nat} {M : vM} {Q : Option vV → vM → Prop} {l0 l1 : Int} (k : vw X d 284 0 [vI l0, vI l1] [] M Q) : cq X (d + 1) 284 [vI l0, vI l1] M Q := wc_in (Nat.le_of_ble_eq_true rfl) (Nat.le_of_ble_eq_true rfl) k
theorem cd285 : vm_cd 285 = cJ9_max_f86c9 := rfl
theorem d285_0 : decode (vm_cd 285) 0 = .ok (.lload_n 0, 1) := (congrArg (fun b => decode b 0) cd285).trans (by decide +kernel)
theorem d285_1 : decode (vm_cd 285) 1 = .ok (.lload_n 2, 1) := (congrArg (fun b => decode b 1) cd285).trans (by decide +kernel)
theorem d285_2 : decode (vm_cd 285) 2 = .ok (.lcmp, 1) := (congrArg (fun b => decode b 2) cd285).trans (by decide +kernel)
theorem d285_3 : decode (vm_cd 285) 3 = .ok (.ifCond .lt 7, 3) := (congrArg (fun b => decode b 3) cd285).trans (by decide +kernel)
theorem d285_6 : decode (vm_cd 285) 6 = .ok (.lload_n 0, 1) := (congrArg (fun b => decode b 6) cd285).trans (by decide +kernel)
theorem d285_7 : decode (vm_cd 285) 7 = .ok (.goto 4, 3) := (congrArg (fun b => decode b 7) cd285).trans (by decide +kernel)
theorem d285_10 : decode (vm_cd 285) 10 = .ok (.lload_n 2, 1) := (congrArg (fun b => decode b 10) cd285).trans (by decide +kernel)
theorem d285_11 : decode (vm_cd 285) 11 = .ok (.lreturn, 1) := (congrArg (fun b => decode b 11) cd285).trans (by decide +kernel)
theorem r285 : vm_rt 285 = (some .long) := by decide +kernel
theorem B_J_maxL_0 {X : vX} {d : Nat} {M : vM} {Q : Option vV → vM → Prop} {l0 l2 : Int}  (k1 : l0 < l2 → vw X d 285 10 [vL l0, vN, vL l2, vN] [] M Q) (k2 : l2 ≤ l0 → vw X d 285 6 [vL l0, vN, vL l2, vN] [] M Q) : vw X d 285 0 [vL l0, vN, vL l2, vN] [] M Q := by
  refine w_lload_n d285_0 rfl ?_
  refine w_lload_n d285_1 rfl ?_
  exact w_lc_lt d285_2 d285_3 rfl (fun h => k1 h) (fun h => k2 h)
theorem B_J_maxL_6 {X : vX} {d : Nat} {M : vM} {Q : Option vV → vM → Prop} {l0 l2 : Int}  (k : Q (some (vL l0)) M) : vw X d 285 6 [vL l0, vN, vL l2, vN] [] M Q := by
  refine w_lload_n d285_6 rfl ?_
  refine w_goto (tgt := 11) d285_7 rfl ?_
  exact w_lret d285_11 r285 ⟨_, rfl, k⟩
theorem B_J_maxL_10 {X : vX} {d : Nat} {M : vM} {Q : Option vV → vM → Prop} {l0 l2 : Int}  (k : Q (some (vL l2)) M) : vw X d 285 10 [vL l0, vN, vL l2, vN] [] M Q := by
  refine w_lload_n d285_10 rfl ?_
  exact w_lret d285_11 r285 ⟨_, rfl, k⟩
theorem E_J_maxL {X : vX} {d : Nat} {M : vM} {Q : Option vV → vM → Prop} {l0 l2 : Int} (k : vw X d 285 0 [vL l0, vN, vL l2, vN] [] M Q) : cq X (d + 1) 285 [vL l0, vL l2] M Q := wc_in (Nat.le_of_ble_eq_true rfl) (Nat.le_of_ble_eq_true rfl) k
theorem cd286 : vm_cd 286 = cJ9_min_7cf53 := rfl
theorem d286_0 : decode (vm_cd 286) 0 = .ok (.iload_n 0, 1) := (congrArg (fun b => decode b 0) cd286).trans (by decide +kernel)
theorem d286_1 : decode (vm_cd 286) 1 = .ok (.iload_n 1, 1) := (congrArg (fun b => decode b 1) cd286).trans (by decide +kernel)
theorem d286_2 : decode (vm_cd 286) 2 = .ok (.if_icmp .gt 7, 3) := (congrArg (fun b => decode b 2) cd286).trans (by decide +kernel)
theorem d286_5 : decode (vm_cd 286) 5 = .ok (.iload_n 0, 1) := (congrArg (fun b => decode b 5) cd286).trans (by decide +kernel)
theorem d286_6 : decode (vm_cd 286) 6 = .ok (.goto 4, 3) := (congrArg (fun b => decode b 6) cd286).trans (by decide +kernel)
theorem d286_9 : decode (vm_cd 286) 9 = .ok (.iload_n 1, 1) := (congrArg (fun b => decode b 9) cd286).trans (by decide +kernel)
theorem d286_10 : decode (vm_cd 286) 10 = .ok (.ireturn, 1) := (congrArg (fun b => decode b 10) cd286).trans (by decide +kernel)
theorem r286 : vm_rt 286 = (some .int) := by decide +kernel
theorem B_J_minI_0 {X : vX} {d : Nat} {M : vM} {Q : Option vV → vM → Prop} {l0 l1 : Int}  (k1 : l1 < l0 → vw X d 286 9 [vI l0, vI l1] [] M Q) (k2 : l0 ≤ l1 → vw X d 286 5 [vI l0, vI l1] [] M Q) : vw X d 286 0 [vI l0, vI l1] [] M Q := by
  refine w_iload_n d286_0 rfl ?_
  refine w_iload_n d286_1 rfl ?_
  exact w_icmp_gt d286_2 rfl (fun h => k1 h) (fun h => k2 h)
theorem B_J_minI_5 {X : vX} {d : Nat} {M : vM} {Q : Option vV → vM → Prop} {l0 l1 : Int}  (k : Q (some (vI l0)) M) : vw X d 286 5 [vI l0, vI l1] [] M Q := by
  refine w_iload_n d286_5 rfl ?_
  refine w_goto (tgt := 10) d286_6 rfl ?_
  exact w_iret d286_10 r286 ⟨_, rfl, k⟩
theorem B_J_minI_9 {X : vX} {d : Nat} {M : vM} {Q : Option vV → vM → Prop} {l0 l1 : Int}  (k : Q (some (vI l1)) M) : vw X d 286 9 [vI l0, vI l1] [] M Q := by
  refine w_iload_n d286_9 rfl ?_
  exact w_iret d286_10 r286 ⟨_, rfl, k⟩
theorem E_J_minI {X : vX} {d : Nat} {M : vM} {Q : Option vV → vM → Prop} {l0 l1 : Int} (k : vw X d 286 0 [vI l0, vI l1] [] M Q) : cq X (d + 1) 286 [vI l0, vI l1] M Q := wc_in (Nat.le_of_ble_eq_true rfl) (Nat.le_of_ble_eq_true rfl) k
theorem cd287 : vm_cd 287 = cJ9_min_f86c9 := rfl
theorem d287_0 : decode (vm_cd 287) 0 = .ok (.lload_n 0, 1) := (congrArg (fun b => decode b 0) cd287).trans (by decide +kernel)
theorem d287_1 : decode (vm_cd 287) 1 = .ok (.lload_n 2, 1) := (congrArg (fun b => decode b 1) cd287).trans (by decide +kernel)
theorem d287_2 : decode (vm_cd 287) 2 = .ok (.lcmp, 1) := (congrArg (fun b => decode b 2) cd287).trans (by decide +kernel)
theorem d287_3 : decode (vm_cd 287) 3 = .ok (.ifCond .gt 7, 3) := (congrArg (fun b => decode b 3) cd287).trans (by decide +kernel)
theorem d287_6 : decode (vm_cd 287) 6 = .ok (.lload_n 0, 1) := (congrArg (fun b => decode b 6) cd287).trans (by decide +kernel)
theorem d287_7 : decode (vm_cd 287) 7 = .ok (.goto 4, 3) := (congrArg (fun b => decode b 7) cd287).trans (by decide +kernel)
theorem d287_10 : decode (vm_cd 287) 10 = .ok (.lload_n 2, 1) := (congrArg (fun b => decode b 10) cd287).trans (by decide +kernel)
theorem d287_11 : decode (vm_cd 287) 11 = .ok (.lreturn, 1) := (congrArg (fun b => decode b 11) cd287).trans (by decide +kernel)
theorem r287 : vm_rt 287 = (some .long) := by decide +kernel
theorem B_J_minL_0 {X : vX} {d : Nat} {M : vM} {Q : Option vV → vM → Prop} {l0 l2 : Int}  (k1 : l2 < l0 → vw X d 287 10 [vL l0, vN, vL l2, vN] [] M Q) (k2 : l0 ≤ l2 → vw X d 287 6 [vL l0, vN, vL l2, vN] [] M Q) : vw X d 287 0 [vL l0, vN, vL l2, vN] [] M Q := by
  refine w_lload_n d287_0 rfl ?_
  refine w_lload_n d287_1 rfl ?_
  exact w_lc_gt d287_2 d287_3 rfl (fun h => k1 h) (fun h => k2 h)
theorem B_J_minL_6 {X : vX} {d : Nat} {M : vM} {Q : Option vV → vM → Prop} {l0 l2 : Int}  (k : Q (some (vL l0)) M) : vw X d 287 6 [vL l0, vN, vL l2, vN] [] M Q := by
  refine w_lload_n d287_6 rfl ?_
  refine w_goto (tgt := 11) d287_7 rfl ?_
  exact w_lret d287_11 r287 ⟨_, rfl, k⟩
theorem B_J_minL_10 {X : vX} {d : Nat} {M : vM} {Q : Option vV → vM → Prop} {l0 l2 : Int}  (k : Q (some (vL l2)) M) : vw X d 287 10 [vL l0, vN, vL l2, vN] [] M Q := by
  refine w_lload_n d287_10 rfl ?_
  exact w_lret d287_11 r287 ⟨_, rfl, k⟩
theorem E_J_minL {X : vX} {d : Nat} {M : vM} {Q : Option vV → vM → Prop} {l0 l2 : Int} (k : vw X d 287 0 [vL l0, vN, vL l2, vN] [] M Q) : cq X (d + 1) 287 [vL l0, vL l2] M Q := wc_in (Nat.le_of_ble_eq_true rfl) (Nat.le_of_ble_eq_true rfl) k
