/-! BLOCK LEMMAS, written by gen4.py out of the decode rows: what each stretch of a method does -/
theorem cd128 : vm_cd 128 = cX11_act := rfl
theorem d128_0 : decode (vm_cd 128) 0 = .ok (.iload_n 1, 1) := (congrArg (fun b => decode b 0) cd128).trans (by decide +kernel)
theorem d128_1 : decode (vm_cd 128) 1 = .ok (.iconst 0, 1) := (congrArg (fun b => decode b 1) cd128).trans (by decide +kernel)
theorem d128_2 : decode (vm_cd 128) 2 = .ok (.bipush 99, 2) := (congrArg (fun b => decode b 2) cd128).trans (by decide +kernel)
theorem d128_4 : decode (vm_cd 128) 4 = .ok (.invokestatic 92, 3) := (congrArg (fun b => decode b 4) cd128).trans (by decide +kernel)
theorem d128_7 : decode (vm_cd 128) 7 = .ok (.ifCond .ne 6, 3) := (congrArg (fun b => decode b 7) cd128).trans (by decide +kernel)
theorem d128_10 : decode (vm_cd 128) 10 = .ok (.bipush (-2), 2) := (congrArg (fun b => decode b 10) cd128).trans (by decide +kernel)
theorem d128_12 : decode (vm_cd 128) 12 = .ok (.ireturn, 1) := (congrArg (fun b => decode b 12) cd128).trans (by decide +kernel)
theorem d128_13 : decode (vm_cd 128) 13 = .ok (.aload_n 0, 1) := (congrArg (fun b => decode b 13) cd128).trans (by decide +kernel)
theorem d128_14 : decode (vm_cd 128) 14 = .ok (.getfield 22, 3) := (congrArg (fun b => decode b 14) cd128).trans (by decide +kernel)
theorem d128_17 : decode (vm_cd 128) 17 = .ok (.invokevirtual 96, 3) := (congrArg (fun b => decode b 17) cd128).trans (by decide +kernel)
theorem d128_20 : decode (vm_cd 128) 20 = .ok (.ifCond .eq 8, 3) := (congrArg (fun b => decode b 20) cd128).trans (by decide +kernel)
theorem d128_23 : decode (vm_cd 128) 23 = .ok (.bipush (-4), 2) := (congrArg (fun b => decode b 23) cd128).trans (by decide +kernel)
theorem d128_25 : decode (vm_cd 128) 25 = .ok (.goto 11, 3) := (congrArg (fun b => decode b 25) cd128).trans (by decide +kernel)
theorem d128_28 : decode (vm_cd 128) 28 = .ok (.aload_n 0, 1) := (congrArg (fun b => decode b 28) cd128).trans (by decide +kernel)
theorem d128_29 : decode (vm_cd 128) 29 = .ok (.getfield 22, 3) := (congrArg (fun b => decode b 29) cd128).trans (by decide +kernel)
theorem d128_32 : decode (vm_cd 128) 32 = .ok (.iload_n 1, 1) := (congrArg (fun b => decode b 32) cd128).trans (by decide +kernel)
theorem d128_33 : decode (vm_cd 128) 33 = .ok (.invokevirtual 100, 3) := (congrArg (fun b => decode b 33) cd128).trans (by decide +kernel)
theorem d128_36 : decode (vm_cd 128) 36 = .ok (.ireturn, 1) := (congrArg (fun b => decode b 36) cd128).trans (by decide +kernel)
theorem f128_22 : vm_fl.lookup (vm_own 128, 22) = some (10, 0, 250) := by decide +kernel
theorem c128_92 : vm_ml.lookup (vm_own 128, 92) = some (1, 179, 3, 291, 292, 0, 1) := vm_lk (by decide +kernel)
theorem c128_96 : vm_ml.lookup (vm_own 128, 96) = some (0, 4, 0, 294, 295, 369, 2) := vm_lk (by decide +kernel)
theorem c128_100 : vm_ml.lookup (vm_own 128, 100) = some (0, 7, 1, 298, 299, 373, 2) := vm_lk (by decide +kernel)
theorem r128 : vm_rt 128 = (some .int) := by decide +kernel
theorem B_X_act_0 {X : vX} {d : Nat} {M : vM} {Q : Option vV → vM → Prop} {l1 : Int}  (k : cq X d 179 [vI l1, vI 0, vI 99] M (fun r M1 => wp X d 128 7 [vR 0, vI l1] (r.toList ++ []) (vS0, M1) (vP Q))) : vw X d 128 0 [vR 0, vI l1] [] M Q := by
  refine w_iload_n d128_0 rfl ?_
  refine w_ic (v := 0) d128_1 rfl ?_
  refine w_bi (v := 99) d128_2 rfl ?_
  exact w_inv1 d128_4 c128_92 (by decide) rfl (Nat.le_of_ble_eq_true rfl) (cq.cl (k))
theorem B_X_act_7 {X : vX} {d : Nat} {M : vM} {Q : Option vV → vM → Prop} {l1 s0 : Int}  (k1 : ¬ s0 = 0 → vw X d 128 13 [vR 0, vI l1] [] M Q) (k2 : s0 = 0 → vw X d 128 10 [vR 0, vI l1] [] M Q) : vw X d 128 7 [vR 0, vI l1] [vI s0] M Q := by
  exact w_if_ne d128_7 rfl (fun h => k1 h) (fun h => k2 h)
theorem B_X_act_10 {X : vX} {d : Nat} {M : vM} {Q : Option vV → vM → Prop} {l1 : Int}  (k : Q (some (vI ((-2)))) M) : vw X d 128 10 [vR 0, vI l1] [] M Q := by
  refine w_bi (v := (-2)) d128_10 rfl ?_
  exact w_iret d128_12 r128 ⟨_, rfl, k⟩
theorem B_X_act_13 {X : vX} {d : Nat} {M : vM} {Q : Option vV → vM → Prop} {l1 : Int} (hR : vRefs M)  (k : cq X d 4 [vR 1] M (fun r M1 => wp X d 128 20 [vR 0, vI l1] (r.toList ++ []) (vS0, M1) (vP Q))) : vw X d 128 13 [vR 0, vI l1] [] M Q := by
  refine w_aload_n d128_13 rfl ?_
  refine w_getf (a := 0) (v := vR 1) d128_14 f128_22 rfl rfl (congrArg vR (rf_0_0 hR)) ?_
  exact w_inv0 (a := 1) (c := 0) d128_17 c128_96 rfl rfl rfl v4 (Nat.le_of_ble_eq_true rfl) (cq.cl (k))
theorem B_X_act_20 {X : vX} {d : Nat} {M : vM} {Q : Option vV → vM → Prop} {l1 s0 : Int}  (k1 : s0 = 0 → vw X d 128 28 [vR 0, vI l1] [] M Q) (k2 : ¬ s0 = 0 → vw X d 128 23 [vR 0, vI l1] [] M Q) : vw X d 128 20 [vR 0, vI l1] [vI s0] M Q := by
  exact w_if_eq d128_20 rfl (fun h => k1 h) (fun h => k2 h)
theorem B_X_act_23 {X : vX} {d : Nat} {M : vM} {Q : Option vV → vM → Prop} {l1 : Int}  (k : Q (some (vI ((-4)))) M) : vw X d 128 23 [vR 0, vI l1] [] M Q := by
  refine w_bi (v := (-4)) d128_23 rfl ?_
  refine w_goto (tgt := 36) d128_25 rfl ?_
  exact w_iret d128_36 r128 ⟨_, rfl, k⟩
theorem B_X_act_28 {X : vX} {d : Nat} {M : vM} {Q : Option vV → vM → Prop} {l1 : Int} (hR : vRefs M)  (k : cq X d 7 [vR 1, vI l1] M (fun r M1 => wp X d 128 36 [vR 0, vI l1] (r.toList ++ []) (vS0, M1) (vP Q))) : vw X d 128 28 [vR 0, vI l1] [] M Q := by
  refine w_aload_n d128_28 rfl ?_
  refine w_getf (a := 0) (v := vR 1) d128_29 f128_22 rfl rfl (congrArg vR (rf_0_0 hR)) ?_
  refine w_iload_n d128_32 rfl ?_
  exact w_inv0 (a := 1) (c := 0) d128_33 c128_100 rfl rfl rfl v7 (Nat.le_of_ble_eq_true rfl) (cq.cl (k))
theorem B_X_act_36 {X : vX} {d : Nat} {M : vM} {Q : Option vV → vM → Prop} {l1 s0 : Int}  (k : Q (some (vI s0)) M) : vw X d 128 36 [vR 0, vI l1] [vI s0] M Q := by
  exact w_iret d128_36 r128 ⟨_, rfl, k⟩
theorem E_X_act {X : vX} {d : Nat} {M : vM} {Q : Option vV → vM → Prop} {l1 : Int} (k : vw X d 128 0 [vR 0, vI l1] [] M Q) : cq X (d + 1) 128 [vR 0, vI l1] M Q := wc_in (Nat.le_of_ble_eq_true rfl) (Nat.le_of_ble_eq_true rfl) k
theorem cd129 : vm_cd 129 = cX11_cost := rfl
theorem d129_0 : decode (vm_cd 129) 0 = .ok (.aload_n 0, 1) := (congrArg (fun b => decode b 0) cd129).trans (by decide +kernel)
theorem d129_1 : decode (vm_cd 129) 1 = .ok (.getfield 22, 3) := (congrArg (fun b => decode b 1) cd129).trans (by decide +kernel)
theorem d129_4 : decode (vm_cd 129) 4 = .ok (.iload_n 1, 1) := (congrArg (fun b => decode b 4) cd129).trans (by decide +kernel)
theorem d129_5 : decode (vm_cd 129) 5 = .ok (.invokevirtual 104, 3) := (congrArg (fun b => decode b 5) cd129).trans (by decide +kernel)
theorem d129_8 : decode (vm_cd 129) 8 = .ok (.ifCond .ne 5, 3) := (congrArg (fun b => decode b 8) cd129).trans (by decide +kernel)
theorem d129_11 : decode (vm_cd 129) 11 = .ok (.iconst (-1), 1) := (congrArg (fun b => decode b 11) cd129).trans (by decide +kernel)
theorem d129_12 : decode (vm_cd 129) 12 = .ok (.ireturn, 1) := (congrArg (fun b => decode b 12) cd129).trans (by decide +kernel)
theorem d129_13 : decode (vm_cd 129) 13 = .ok (.iload_n 2, 1) := (congrArg (fun b => decode b 13) cd129).trans (by decide +kernel)
theorem d129_14 : decode (vm_cd 129) 14 = .ok (.iconst 0, 1) := (congrArg (fun b => decode b 14) cd129).trans (by decide +kernel)
theorem d129_15 : decode (vm_cd 129) 15 = .ok (.bipush 99, 2) := (congrArg (fun b => decode b 15) cd129).trans (by decide +kernel)
theorem d129_17 : decode (vm_cd 129) 17 = .ok (.invokestatic 92, 3) := (congrArg (fun b => decode b 17) cd129).trans (by decide +kernel)
theorem d129_20 : decode (vm_cd 129) 20 = .ok (.ifCond .eq 15, 3) := (congrArg (fun b => decode b 20) cd129).trans (by decide +kernel)
theorem d129_23 : decode (vm_cd 129) 23 = .ok (.aload_n 0, 1) := (congrArg (fun b => decode b 23) cd129).trans (by decide +kernel)
theorem d129_24 : decode (vm_cd 129) 24 = .ok (.getfield 22, 3) := (congrArg (fun b => decode b 24) cd129).trans (by decide +kernel)
theorem d129_27 : decode (vm_cd 129) 27 = .ok (.iload_n 1, 1) := (congrArg (fun b => decode b 27) cd129).trans (by decide +kernel)
theorem d129_28 : decode (vm_cd 129) 28 = .ok (.iload_n 2, 1) := (congrArg (fun b => decode b 28) cd129).trans (by decide +kernel)
theorem d129_29 : decode (vm_cd 129) 29 = .ok (.invokevirtual 108, 3) := (congrArg (fun b => decode b 29) cd129).trans (by decide +kernel)
theorem d129_32 : decode (vm_cd 129) 32 = .ok (.goto 5, 3) := (congrArg (fun b => decode b 32) cd129).trans (by decide +kernel)
theorem d129_35 : decode (vm_cd 129) 35 = .ok (.bipush (-2), 2) := (congrArg (fun b => decode b 35) cd129).trans (by decide +kernel)
theorem d129_37 : decode (vm_cd 129) 37 = .ok (.ireturn, 1) := (congrArg (fun b => decode b 37) cd129).trans (by decide +kernel)
theorem f129_22 : vm_fl.lookup (vm_own 129, 22) = some (10, 0, 250) := by decide +kernel
theorem c129_92 : vm_ml.lookup (vm_own 129, 92) = some (1, 179, 3, 291, 292, 0, 1) := vm_lk (by decide +kernel)
theorem c129_104 : vm_ml.lookup (vm_own 129, 104) = some (0, 5, 1, 306, 307, 381, 2) := vm_lk (by decide +kernel)
theorem c129_108 : vm_ml.lookup (vm_own 129, 108) = some (0, 8, 2, 310, 311, 385, 2) := vm_lk (by decide +kernel)
theorem r129 : vm_rt 129 = (some .int) := by decide +kernel
theorem B_X_cost_0 {X : vX} {d : Nat} {M : vM} {Q : Option vV → vM → Prop} {l1 l2 : Int} (hR : vRefs M)  (k : cq X d 5 [vR 1, vI l1] M (fun r M1 => wp X d 129 8 [vR 0, vI l1, vI l2] (r.toList ++ []) (vS0, M1) (vP Q))) : vw X d 129 0 [vR 0, vI l1, vI l2] [] M Q := by
  refine w_aload_n d129_0 rfl ?_
  refine w_getf (a := 0) (v := vR 1) d129_1 f129_22 rfl rfl (congrArg vR (rf_0_0 hR)) ?_
  refine w_iload_n d129_4 rfl ?_
  exact w_inv0 (a := 1) (c := 0) d129_5 c129_104 rfl rfl rfl v5 (Nat.le_of_ble_eq_true rfl) (cq.cl (k))
theorem B_X_cost_8 {X : vX} {d : Nat} {M : vM} {Q : Option vV → vM → Prop} {l1 l2 s0 : Int}  (k1 : ¬ s0 = 0 → vw X d 129 13 [vR 0, vI l1, vI l2] [] M Q) (k2 : s0 = 0 → vw X d 129 11 [vR 0, vI l1, vI l2] [] M Q) : vw X d 129 8 [vR 0, vI l1, vI l2] [vI s0] M Q := by
  exact w_if_ne d129_8 rfl (fun h => k1 h) (fun h => k2 h)
theorem B_X_cost_11 {X : vX} {d : Nat} {M : vM} {Q : Option vV → vM → Prop} {l1 l2 : Int}  (k : Q (some (vI ((-1)))) M) : vw X d 129 11 [vR 0, vI l1, vI l2] [] M Q := by
  refine w_ic (v := (-1)) d129_11 rfl ?_
  exact w_iret d129_12 r129 ⟨_, rfl, k⟩
theorem B_X_cost_13 {X : vX} {d : Nat} {M : vM} {Q : Option vV → vM → Prop} {l1 l2 : Int}  (k : cq X d 179 [vI l2, vI 0, vI 99] M (fun r M1 => wp X d 129 20 [vR 0, vI l1, vI l2] (r.toList ++ []) (vS0, M1) (vP Q))) : vw X d 129 13 [vR 0, vI l1, vI l2] [] M Q := by
  refine w_iload_n d129_13 rfl ?_
  refine w_ic (v := 0) d129_14 rfl ?_
  refine w_bi (v := 99) d129_15 rfl ?_
  exact w_inv1 d129_17 c129_92 (by decide) rfl (Nat.le_of_ble_eq_true rfl) (cq.cl (k))
theorem B_X_cost_20 {X : vX} {d : Nat} {M : vM} {Q : Option vV → vM → Prop} {l1 l2 s0 : Int}  (k1 : s0 = 0 → vw X d 129 35 [vR 0, vI l1, vI l2] [] M Q) (k2 : ¬ s0 = 0 → vw X d 129 23 [vR 0, vI l1, vI l2] [] M Q) : vw X d 129 20 [vR 0, vI l1, vI l2] [vI s0] M Q := by
  exact w_if_eq d129_20 rfl (fun h => k1 h) (fun h => k2 h)
theorem B_X_cost_23 {X : vX} {d : Nat} {M : vM} {Q : Option vV → vM → Prop} {l1 l2 : Int} (hR : vRefs M)  (k : cq X d 8 [vR 1, vI l1, vI l2] M (fun r M1 => wp X d 129 32 [vR 0, vI l1, vI l2] (r.toList ++ []) (vS0, M1) (vP Q))) : vw X d 129 23 [vR 0, vI l1, vI l2] [] M Q := by
  refine w_aload_n d129_23 rfl ?_
  refine w_getf (a := 0) (v := vR 1) d129_24 f129_22 rfl rfl (congrArg vR (rf_0_0 hR)) ?_
  refine w_iload_n d129_27 rfl ?_
  refine w_iload_n d129_28 rfl ?_
  exact w_inv0 (a := 1) (c := 0) d129_29 c129_108 rfl rfl rfl v8 (Nat.le_of_ble_eq_true rfl) (cq.cl (k))
theorem B_X_cost_32 {X : vX} {d : Nat} {M : vM} {Q : Option vV → vM → Prop} {l1 l2 s0 : Int}  (k : Q (some (vI s0)) M) : vw X d 129 32 [vR 0, vI l1, vI l2] [vI s0] M Q := by
  refine w_goto (tgt := 37) d129_32 rfl ?_
  exact w_iret d129_37 r129 ⟨_, rfl, k⟩
theorem B_X_cost_35 {X : vX} {d : Nat} {M : vM} {Q : Option vV → vM → Prop} {l1 l2 : Int}  (k : Q (some (vI ((-2)))) M) : vw X d 129 35 [vR 0, vI l1, vI l2] [] M Q := by
  refine w_bi (v := (-2)) d129_35 rfl ?_
  exact w_iret d129_37 r129 ⟨_, rfl, k⟩
theorem E_X_cost {X : vX} {d : Nat} {M : vM} {Q : Option vV → vM → Prop} {l1 l2 : Int} (k : vw X d 129 0 [vR 0, vI l1, vI l2] [] M Q) : cq X (d + 1) 129 [vR 0, vI l1, vI l2] M Q := wc_in (Nat.le_of_ble_eq_true rfl) (Nat.le_of_ble_eq_true rfl) k
theorem cd130 : vm_cd 130 = cX11_chances := rfl
theorem d130_0 : decode (vm_cd 130) 0 = .ok (.aload_n 0, 1) := (congrArg (fun b => decode b 0) cd130).trans (by decide +kernel)
theorem d130_1 : decode (vm_cd 130) 1 = .ok (.getfield 22, 3) := (congrArg (fun b => decode b 1) cd130).trans (by decide +kernel)
theorem d130_4 : decode (vm_cd 130) 4 = .ok (.iload_n 1, 1) := (congrArg (fun b => decode b 4) cd130).trans (by decide +kernel)
theorem d130_5 : decode (vm_cd 130) 5 = .ok (.invokevirtual 104, 3) := (congrArg (fun b => decode b 5) cd130).trans (by decide +kernel)
theorem d130_8 : decode (vm_cd 130) 8 = .ok (.ifCond .eq 10, 3) := (congrArg (fun b => decode b 8) cd130).trans (by decide +kernel)
theorem d130_11 : decode (vm_cd 130) 11 = .ok (.iload_n 2, 1) := (congrArg (fun b => decode b 11) cd130).trans (by decide +kernel)
theorem d130_12 : decode (vm_cd 130) 12 = .ok (.invokestatic 111, 3) := (congrArg (fun b => decode b 12) cd130).trans (by decide +kernel)
theorem d130_15 : decode (vm_cd 130) 15 = .ok (.ifCond .ne 5, 3) := (congrArg (fun b => decode b 15) cd130).trans (by decide +kernel)
theorem d130_18 : decode (vm_cd 130) 18 = .ok (.iconst (-1), 1) := (congrArg (fun b => decode b 18) cd130).trans (by decide +kernel)
theorem d130_19 : decode (vm_cd 130) 19 = .ok (.ireturn, 1) := (congrArg (fun b => decode b 19) cd130).trans (by decide +kernel)
theorem d130_20 : decode (vm_cd 130) 20 = .ok (.aload_n 0, 1) := (congrArg (fun b => decode b 20) cd130).trans (by decide +kernel)
theorem d130_21 : decode (vm_cd 130) 21 = .ok (.getfield 22, 3) := (congrArg (fun b => decode b 21) cd130).trans (by decide +kernel)
theorem d130_24 : decode (vm_cd 130) 24 = .ok (.iload_n 1, 1) := (congrArg (fun b => decode b 24) cd130).trans (by decide +kernel)
theorem d130_25 : decode (vm_cd 130) 25 = .ok (.iload_n 2, 1) := (congrArg (fun b => decode b 25) cd130).trans (by decide +kernel)
theorem d130_26 : decode (vm_cd 130) 26 = .ok (.iload_n 3, 1) := (congrArg (fun b => decode b 26) cd130).trans (by decide +kernel)
theorem d130_27 : decode (vm_cd 130) 27 = .ok (.invokevirtual 114, 3) := (congrArg (fun b => decode b 27) cd130).trans (by decide +kernel)
theorem d130_30 : decode (vm_cd 130) 30 = .ok (.ifCond .eq 7, 3) := (congrArg (fun b => decode b 30) cd130).trans (by decide +kernel)
theorem d130_33 : decode (vm_cd 130) 33 = .ok (.iconst 0, 1) := (congrArg (fun b => decode b 33) cd130).trans (by decide +kernel)
theorem d130_34 : decode (vm_cd 130) 34 = .ok (.goto 5, 3) := (congrArg (fun b => decode b 34) cd130).trans (by decide +kernel)
theorem d130_37 : decode (vm_cd 130) 37 = .ok (.bipush (-2), 2) := (congrArg (fun b => decode b 37) cd130).trans (by decide +kernel)
theorem d130_39 : decode (vm_cd 130) 39 = .ok (.ireturn, 1) := (congrArg (fun b => decode b 39) cd130).trans (by decide +kernel)
theorem f130_22 : vm_fl.lookup (vm_own 130, 22) = some (10, 0, 250) := by decide +kernel
theorem c130_104 : vm_ml.lookup (vm_own 130, 104) = some (0, 5, 1, 306, 307, 381, 2) := vm_lk (by decide +kernel)
theorem c130_111 : vm_ml.lookup (vm_own 130, 111) = some (1, 180, 1, 318, 319, 0, 1) := vm_lk (by decide +kernel)
theorem c130_114 : vm_ml.lookup (vm_own 130, 114) = some (0, 9, 3, 321, 322, 396, 2) := vm_lk (by decide +kernel)
theorem r130 : vm_rt 130 = (some .int) := by decide +kernel
theorem B_X_chances_0 {X : vX} {d : Nat} {M : vM} {Q : Option vV → vM → Prop} {l1 l2 l3 : Int} (hR : vRefs M)  (k : cq X d 5 [vR 1, vI l1] M (fun r M1 => wp X d 130 8 [vR 0, vI l1, vI l2, vI l3] (r.toList ++ []) (vS0, M1) (vP Q))) : vw X d 130 0 [vR 0, vI l1, vI l2, vI l3] [] M Q := by
  refine w_aload_n d130_0 rfl ?_
  refine w_getf (a := 0) (v := vR 1) d130_1 f130_22 rfl rfl (congrArg vR (rf_0_0 hR)) ?_
  refine w_iload_n d130_4 rfl ?_
  exact w_inv0 (a := 1) (c := 0) d130_5 c130_104 rfl rfl rfl v5 (Nat.le_of_ble_eq_true rfl) (cq.cl (k))
theorem B_X_chances_8 {X : vX} {d : Nat} {M : vM} {Q : Option vV → vM → Prop} {l1 l2 l3 s0 : Int}  (k1 : s0 = 0 → vw X d 130 18 [vR 0, vI l1, vI l2, vI l3] [] M Q) (k2 : ¬ s0 = 0 → vw X d 130 11 [vR 0, vI l1, vI l2, vI l3] [] M Q) : vw X d 130 8 [vR 0, vI l1, vI l2, vI l3] [vI s0] M Q := by
  exact w_if_eq d130_8 rfl (fun h => k1 h) (fun h => k2 h)
theorem B_X_chances_11 {X : vX} {d : Nat} {M : vM} {Q : Option vV → vM → Prop} {l1 l2 l3 : Int}  (k : cq X d 180 [vI l2] M (fun r M1 => wp X d 130 15 [vR 0, vI l1, vI l2, vI l3] (r.toList ++ []) (vS0, M1) (vP Q))) : vw X d 130 11 [vR 0, vI l1, vI l2, vI l3] [] M Q := by
  refine w_iload_n d130_11 rfl ?_
  exact w_inv1 d130_12 c130_111 (by decide) rfl (Nat.le_of_ble_eq_true rfl) (cq.cl (k))
theorem B_X_chances_15 {X : vX} {d : Nat} {M : vM} {Q : Option vV → vM → Prop} {l1 l2 l3 s0 : Int}  (k1 : ¬ s0 = 0 → vw X d 130 20 [vR 0, vI l1, vI l2, vI l3] [] M Q) (k2 : s0 = 0 → vw X d 130 18 [vR 0, vI l1, vI l2, vI l3] [] M Q) : vw X d 130 15 [vR 0, vI l1, vI l2, vI l3] [vI s0] M Q := by
  exact w_if_ne d130_15 rfl (fun h => k1 h) (fun h => k2 h)
theorem B_X_chances_18 {X : vX} {d : Nat} {M : vM} {Q : Option vV → vM → Prop} {l1 l2 l3 : Int}  (k : Q (some (vI ((-1)))) M) : vw X d 130 18 [vR 0, vI l1, vI l2, vI l3] [] M Q := by
  refine w_ic (v := (-1)) d130_18 rfl ?_
  exact w_iret d130_19 r130 ⟨_, rfl, k⟩
theorem B_X_chances_20 {X : vX} {d : Nat} {M : vM} {Q : Option vV → vM → Prop} {l1 l2 l3 : Int} (hR : vRefs M)  (k : cq X d 9 [vR 1, vI l1, vI l2, vI l3] M (fun r M1 => wp X d 130 30 [vR 0, vI l1, vI l2, vI l3] (r.toList ++ []) (vS0, M1) (vP Q))) : vw X d 130 20 [vR 0, vI l1, vI l2, vI l3] [] M Q := by
  refine w_aload_n d130_20 rfl ?_
  refine w_getf (a := 0) (v := vR 1) d130_21 f130_22 rfl rfl (congrArg vR (rf_0_0 hR)) ?_
  refine w_iload_n d130_24 rfl ?_
  refine w_iload_n d130_25 rfl ?_
  refine w_iload_n d130_26 rfl ?_
  exact w_inv0 (a := 1) (c := 0) d130_27 c130_114 rfl rfl rfl v9 (Nat.le_of_ble_eq_true rfl) (cq.cl (k))
theorem B_X_chances_30 {X : vX} {d : Nat} {M : vM} {Q : Option vV → vM → Prop} {l1 l2 l3 s0 : Int}  (k1 : s0 = 0 → vw X d 130 37 [vR 0, vI l1, vI l2, vI l3] [] M Q) (k2 : ¬ s0 = 0 → vw X d 130 33 [vR 0, vI l1, vI l2, vI l3] [] M Q) : vw X d 130 30 [vR 0, vI l1, vI l2, vI l3] [vI s0] M Q := by
  exact w_if_eq d130_30 rfl (fun h => k1 h) (fun h => k2 h)
theorem B_X_chances_33 {X : vX} {d : Nat} {M : vM} {Q : Option vV → vM → Prop} {l1 l2 l3 : Int}  (k : Q (some (vI 0)) M) : vw X d 130 33 [vR 0, vI l1, vI l2, vI l3] [] M Q := by
  refine w_ic (v := 0) d130_33 rfl ?_
  refine w_goto (tgt := 39) d130_34 rfl ?_
  exact w_iret d130_39 r130 ⟨_, rfl, k⟩
theorem B_X_chances_37 {X : vX} {d : Nat} {M : vM} {Q : Option vV → vM → Prop} {l1 l2 l3 : Int}  (k : Q (some (vI ((-2)))) M) : vw X d 130 37 [vR 0, vI l1, vI l2, vI l3] [] M Q := by
  refine w_bi (v := (-2)) d130_37 rfl ?_
  exact w_iret d130_39 r130 ⟨_, rfl, k⟩
theorem E_X_chances {X : vX} {d : Nat} {M : vM} {Q : Option vV → vM → Prop} {l1 l2 l3 : Int} (k : vw X d 130 0 [vR 0, vI l1, vI l2, vI l3] [] M Q) : cq X (d + 1) 130 [vR 0, vI l1, vI l2, vI l3] M Q := wc_in (Nat.le_of_ble_eq_true rfl) (Nat.le_of_ble_eq_true rfl) k
theorem cd131 : vm_cd 131 = cX11_value := rfl
theorem d131_0 : decode (vm_cd 131) 0 = .ok (.aload_n 0, 1) := (congrArg (fun b => decode b 0) cd131).trans (by decide +kernel)
theorem d131_1 : decode (vm_cd 131) 1 = .ok (.getfield 22, 3) := (congrArg (fun b => decode b 1) cd131).trans (by decide +kernel)
theorem d131_4 : decode (vm_cd 131) 4 = .ok (.iload_n 1, 1) := (congrArg (fun b => decode b 4) cd131).trans (by decide +kernel)
theorem d131_5 : decode (vm_cd 131) 5 = .ok (.invokevirtual 117, 3) := (congrArg (fun b => decode b 5) cd131).trans (by decide +kernel)
theorem d131_8 : decode (vm_cd 131) 8 = .ok (.ifCond .eq 14, 3) := (congrArg (fun b => decode b 8) cd131).trans (by decide +kernel)
theorem d131_11 : decode (vm_cd 131) 11 = .ok (.iload_n 2, 1) := (congrArg (fun b => decode b 11) cd131).trans (by decide +kernel)
theorem d131_12 : decode (vm_cd 131) 12 = .ok (.bipush (-99), 2) := (congrArg (fun b => decode b 12) cd131).trans (by decide +kernel)
theorem d131_14 : decode (vm_cd 131) 14 = .ok (.bipush 99, 2) := (congrArg (fun b => decode b 14) cd131).trans (by decide +kernel)
theorem d131_16 : decode (vm_cd 131) 16 = .ok (.invokestatic 92, 3) := (congrArg (fun b => decode b 16) cd131).trans (by decide +kernel)
theorem d131_19 : decode (vm_cd 131) 19 = .ok (.ifCond .ne 7, 3) := (congrArg (fun b => decode b 19) cd131).trans (by decide +kernel)
theorem d131_22 : decode (vm_cd 131) 22 = .ok (.sipush (-1000), 3) := (congrArg (fun b => decode b 22) cd131).trans (by decide +kernel)
theorem d131_25 : decode (vm_cd 131) 25 = .ok (.ireturn, 1) := (congrArg (fun b => decode b 25) cd131).trans (by decide +kernel)
theorem d131_26 : decode (vm_cd 131) 26 = .ok (.aload_n 0, 1) := (congrArg (fun b => decode b 26) cd131).trans (by decide +kernel)
theorem d131_27 : decode (vm_cd 131) 27 = .ok (.getfield 22, 3) := (congrArg (fun b => decode b 27) cd131).trans (by decide +kernel)
theorem d131_30 : decode (vm_cd 131) 30 = .ok (.iload_n 1, 1) := (congrArg (fun b => decode b 30) cd131).trans (by decide +kernel)
theorem d131_31 : decode (vm_cd 131) 31 = .ok (.iload_n 2, 1) := (congrArg (fun b => decode b 31) cd131).trans (by decide +kernel)
theorem d131_32 : decode (vm_cd 131) 32 = .ok (.invokevirtual 120, 3) := (congrArg (fun b => decode b 32) cd131).trans (by decide +kernel)
theorem d131_35 : decode (vm_cd 131) 35 = .ok (.ireturn, 1) := (congrArg (fun b => decode b 35) cd131).trans (by decide +kernel)
theorem f131_22 : vm_fl.lookup (vm_own 131, 22) = some (10, 0, 250) := by decide +kernel
theorem c131_92 : vm_ml.lookup (vm_own 131, 92) = some (1, 179, 3, 291, 292, 0, 1) := vm_lk (by decide +kernel)
theorem c131_117 : vm_ml.lookup (vm_own 131, 117) = some (0, 6, 1, 329, 330, 404, 2) := vm_lk (by decide +kernel)
theorem c131_120 : vm_ml.lookup (vm_own 131, 120) = some (0, 10, 2, 333, 334, 408, 2) := vm_lk (by decide +kernel)
theorem r131 : vm_rt 131 = (some .int) := by decide +kernel
theorem B_X_value_0 {X : vX} {d : Nat} {M : vM} {Q : Option vV → vM → Prop} {l1 l2 : Int} (hR : vRefs M)  (k : cq X d 6 [vR 1, vI l1] M (fun r M1 => wp X d 131 8 [vR 0, vI l1, vI l2] (r.toList ++ []) (vS0, M1) (vP Q))) : vw X d 131 0 [vR 0, vI l1, vI l2] [] M Q := by
  refine w_aload_n d131_0 rfl ?_
  refine w_getf (a := 0) (v := vR 1) d131_1 f131_22 rfl rfl (congrArg vR (rf_0_0 hR)) ?_
  refine w_iload_n d131_4 rfl ?_
  exact w_inv0 (a := 1) (c := 0) d131_5 c131_117 rfl rfl rfl v6 (Nat.le_of_ble_eq_true rfl) (cq.cl (k))
theorem B_X_value_8 {X : vX} {d : Nat} {M : vM} {Q : Option vV → vM → Prop} {l1 l2 s0 : Int}  (k1 : s0 = 0 → vw X d 131 22 [vR 0, vI l1, vI l2] [] M Q) (k2 : ¬ s0 = 0 → vw X d 131 11 [vR 0, vI l1, vI l2] [] M Q) : vw X d 131 8 [vR 0, vI l1, vI l2] [vI s0] M Q := by
  exact w_if_eq d131_8 rfl (fun h => k1 h) (fun h => k2 h)
theorem B_X_value_11 {X : vX} {d : Nat} {M : vM} {Q : Option vV → vM → Prop} {l1 l2 : Int}  (k : cq X d 179 [vI l2, vI ((-99)), vI 99] M (fun r M1 => wp X d 131 19 [vR 0, vI l1, vI l2] (r.toList ++ []) (vS0, M1) (vP Q))) : vw X d 131 11 [vR 0, vI l1, vI l2] [] M Q := by
  refine w_iload_n d131_11 rfl ?_
  refine w_bi (v := (-99)) d131_12 rfl ?_
  refine w_bi (v := 99) d131_14 rfl ?_
  exact w_inv1 d131_16 c131_92 (by decide) rfl (Nat.le_of_ble_eq_true rfl) (cq.cl (k))
theorem B_X_value_19 {X : vX} {d : Nat} {M : vM} {Q : Option vV → vM → Prop} {l1 l2 s0 : Int}  (k1 : ¬ s0 = 0 → vw X d 131 26 [vR 0, vI l1, vI l2] [] M Q) (k2 : s0 = 0 → vw X d 131 22 [vR 0, vI l1, vI l2] [] M Q) : vw X d 131 19 [vR 0, vI l1, vI l2] [vI s0] M Q := by
  exact w_if_ne d131_19 rfl (fun h => k1 h) (fun h => k2 h)
theorem B_X_value_22 {X : vX} {d : Nat} {M : vM} {Q : Option vV → vM → Prop} {l1 l2 : Int}  (k : Q (some (vI ((-1000)))) M) : vw X d 131 22 [vR 0, vI l1, vI l2] [] M Q := by
  refine w_si (v := (-1000)) d131_22 rfl ?_
  exact w_iret d131_25 r131 ⟨_, rfl, k⟩
theorem B_X_value_26 {X : vX} {d : Nat} {M : vM} {Q : Option vV → vM → Prop} {l1 l2 : Int} (hR : vRefs M)  (k : cq X d 10 [vR 1, vI l1, vI l2] M (fun r M1 => wp X d 131 35 [vR 0, vI l1, vI l2] (r.toList ++ []) (vS0, M1) (vP Q))) : vw X d 131 26 [vR 0, vI l1, vI l2] [] M Q := by
  refine w_aload_n d131_26 rfl ?_
  refine w_getf (a := 0) (v := vR 1) d131_27 f131_22 rfl rfl (congrArg vR (rf_0_0 hR)) ?_
  refine w_iload_n d131_30 rfl ?_
  refine w_iload_n d131_31 rfl ?_
  exact w_inv0 (a := 1) (c := 0) d131_32 c131_120 rfl rfl rfl v10 (Nat.le_of_ble_eq_true rfl) (cq.cl (k))
theorem B_X_value_35 {X : vX} {d : Nat} {M : vM} {Q : Option vV → vM → Prop} {l1 l2 s0 : Int}  (k : Q (some (vI s0)) M) : vw X d 131 35 [vR 0, vI l1, vI l2] [vI s0] M Q := by
  exact w_iret d131_35 r131 ⟨_, rfl, k⟩
theorem E_X_value {X : vX} {d : Nat} {M : vM} {Q : Option vV → vM → Prop} {l1 l2 : Int} (k : vw X d 131 0 [vR 0, vI l1, vI l2] [] M Q) : cq X (d + 1) 131 [vR 0, vI l1, vI l2] M Q := wc_in (Nat.le_of_ble_eq_true rfl) (Nat.le_of_ble_eq_true rfl) k
theorem cd132 : vm_cd 132 = cX11_reserve := rfl
theorem d132_0 : decode (vm_cd 132) 0 = .ok (.iload_n 1, 1) := (congrArg (fun b => decode b 0) cd132).trans (by decide +kernel)
theorem d132_1 : decode (vm_cd 132) 1 = .ok (.iconst 0, 1) := (congrArg (fun b => decode b 1) cd132).trans (by decide +kernel)
theorem d132_2 : decode (vm_cd 132) 2 = .ok (.bipush 99, 2) := (congrArg (fun b => decode b 2) cd132).trans (by decide +kernel)
theorem d132_4 : decode (vm_cd 132) 4 = .ok (.invokestatic 92, 3) := (congrArg (fun b => decode b 4) cd132).trans (by decide +kernel)
theorem d132_7 : decode (vm_cd 132) 7 = .ok (.ifCond .eq 14, 3) := (congrArg (fun b => decode b 7) cd132).trans (by decide +kernel)
theorem d132_10 : decode (vm_cd 132) 10 = .ok (.aload_n 0, 1) := (congrArg (fun b => decode b 10) cd132).trans (by decide +kernel)
theorem d132_11 : decode (vm_cd 132) 11 = .ok (.getfield 22, 3) := (congrArg (fun b => decode b 11) cd132).trans (by decide +kernel)
theorem d132_14 : decode (vm_cd 132) 14 = .ok (.iload_n 1, 1) := (congrArg (fun b => decode b 14) cd132).trans (by decide +kernel)
theorem d132_15 : decode (vm_cd 132) 15 = .ok (.invokevirtual 123, 3) := (congrArg (fun b => decode b 15) cd132).trans (by decide +kernel)
theorem d132_18 : decode (vm_cd 132) 18 = .ok (.goto 5, 3) := (congrArg (fun b => decode b 18) cd132).trans (by decide +kernel)
theorem d132_21 : decode (vm_cd 132) 21 = .ok (.bipush (-2), 2) := (congrArg (fun b => decode b 21) cd132).trans (by decide +kernel)
theorem d132_23 : decode (vm_cd 132) 23 = .ok (.ireturn, 1) := (congrArg (fun b => decode b 23) cd132).trans (by decide +kernel)
theorem f132_22 : vm_fl.lookup (vm_own 132, 22) = some (10, 0, 250) := by decide +kernel
theorem c132_92 : vm_ml.lookup (vm_own 132, 92) = some (1, 179, 3, 291, 292, 0, 1) := vm_lk (by decide +kernel)
theorem c132_123 : vm_ml.lookup (vm_own 132, 123) = some (0, 11, 1, 341, 342, 416, 2) := vm_lk (by decide +kernel)
theorem r132 : vm_rt 132 = (some .int) := by decide +kernel
theorem B_X_reserve_0 {X : vX} {d : Nat} {M : vM} {Q : Option vV → vM → Prop} {l1 : Int}  (k : cq X d 179 [vI l1, vI 0, vI 99] M (fun r M1 => wp X d 132 7 [vR 0, vI l1] (r.toList ++ []) (vS0, M1) (vP Q))) : vw X d 132 0 [vR 0, vI l1] [] M Q := by
  refine w_iload_n d132_0 rfl ?_
  refine w_ic (v := 0) d132_1 rfl ?_
  refine w_bi (v := 99) d132_2 rfl ?_
  exact w_inv1 d132_4 c132_92 (by decide) rfl (Nat.le_of_ble_eq_true rfl) (cq.cl (k))
theorem B_X_reserve_7 {X : vX} {d : Nat} {M : vM} {Q : Option vV → vM → Prop} {l1 s0 : Int}  (k1 : s0 = 0 → vw X d 132 21 [vR 0, vI l1] [] M Q) (k2 : ¬ s0 = 0 → vw X d 132 10 [vR 0, vI l1] [] M Q) : vw X d 132 7 [vR 0, vI l1] [vI s0] M Q := by
  exact w_if_eq d132_7 rfl (fun h => k1 h) (fun h => k2 h)
theorem B_X_reserve_10 {X : vX} {d : Nat} {M : vM} {Q : Option vV → vM → Prop} {l1 : Int} (hR : vRefs M)  (k : cq X d 11 [vR 1, vI l1] M (fun r M1 => wp X d 132 18 [vR 0, vI l1] (r.toList ++ []) (vS0, M1) (vP Q))) : vw X d 132 10 [vR 0, vI l1] [] M Q := by
  refine w_aload_n d132_10 rfl ?_
  refine w_getf (a := 0) (v := vR 1) d132_11 f132_22 rfl rfl (congrArg vR (rf_0_0 hR)) ?_
  refine w_iload_n d132_14 rfl ?_
  exact w_inv0 (a := 1) (c := 0) d132_15 c132_123 rfl rfl rfl v11 (Nat.le_of_ble_eq_true rfl) (cq.cl (k))
theorem B_X_reserve_18 {X : vX} {d : Nat} {M : vM} {Q : Option vV → vM → Prop} {l1 s0 : Int}  (k : Q (some (vI s0)) M) : vw X d 132 18 [vR 0, vI l1] [vI s0] M Q := by
  refine w_goto (tgt := 23) d132_18 rfl ?_
  exact w_iret d132_23 r132 ⟨_, rfl, k⟩
theorem B_X_reserve_21 {X : vX} {d : Nat} {M : vM} {Q : Option vV → vM → Prop} {l1 : Int}  (k : Q (some (vI ((-2)))) M) : vw X d 132 21 [vR 0, vI l1] [] M Q := by
  refine w_bi (v := (-2)) d132_21 rfl ?_
  exact w_iret d132_23 r132 ⟨_, rfl, k⟩
theorem E_X_reserve {X : vX} {d : Nat} {M : vM} {Q : Option vV → vM → Prop} {l1 : Int} (k : vw X d 132 0 [vR 0, vI l1] [] M Q) : cq X (d + 1) 132 [vR 0, vI l1] M Q := wc_in (Nat.le_of_ble_eq_true rfl) (Nat.le_of_ble_eq_true rfl) k
theorem cd133 : vm_cd 133 = cX11_pay := rfl
theorem d133_0 : decode (vm_cd 133) 0 = .ok (.aload_n 0, 1) := (congrArg (fun b => decode b 0) cd133).trans (by decide +kernel)
theorem d133_1 : decode (vm_cd 133) 1 = .ok (.getfield 22, 3) := (congrArg (fun b => decode b 1) cd133).trans (by decide +kernel)
theorem d133_4 : decode (vm_cd 133) 4 = .ok (.iload_n 1, 1) := (congrArg (fun b => decode b 4) cd133).trans (by decide +kernel)
theorem d133_5 : decode (vm_cd 133) 5 = .ok (.invokevirtual 117, 3) := (congrArg (fun b => decode b 5) cd133).trans (by decide +kernel)
theorem d133_8 : decode (vm_cd 133) 8 = .ok (.ifCond .ne 5, 3) := (congrArg (fun b => decode b 8) cd133).trans (by decide +kernel)
theorem d133_11 : decode (vm_cd 133) 11 = .ok (.iconst (-1), 1) := (congrArg (fun b => decode b 11) cd133).trans (by decide +kernel)
theorem d133_12 : decode (vm_cd 133) 12 = .ok (.ireturn, 1) := (congrArg (fun b => decode b 12) cd133).trans (by decide +kernel)
theorem d133_13 : decode (vm_cd 133) 13 = .ok (.iload_n 2, 1) := (congrArg (fun b => decode b 13) cd133).trans (by decide +kernel)
theorem d133_14 : decode (vm_cd 133) 14 = .ok (.iconst 0, 1) := (congrArg (fun b => decode b 14) cd133).trans (by decide +kernel)
theorem d133_15 : decode (vm_cd 133) 15 = .ok (.sipush 999, 3) := (congrArg (fun b => decode b 15) cd133).trans (by decide +kernel)
theorem d133_18 : decode (vm_cd 133) 18 = .ok (.invokestatic 92, 3) := (congrArg (fun b => decode b 18) cd133).trans (by decide +kernel)
theorem d133_21 : decode (vm_cd 133) 21 = .ok (.ifCond .ne 6, 3) := (congrArg (fun b => decode b 21) cd133).trans (by decide +kernel)
theorem d133_24 : decode (vm_cd 133) 24 = .ok (.bipush (-2), 2) := (congrArg (fun b => decode b 24) cd133).trans (by decide +kernel)
theorem d133_26 : decode (vm_cd 133) 26 = .ok (.ireturn, 1) := (congrArg (fun b => decode b 26) cd133).trans (by decide +kernel)
theorem d133_27 : decode (vm_cd 133) 27 = .ok (.aload_n 0, 1) := (congrArg (fun b => decode b 27) cd133).trans (by decide +kernel)
theorem d133_28 : decode (vm_cd 133) 28 = .ok (.getfield 82, 3) := (congrArg (fun b => decode b 28) cd133).trans (by decide +kernel)
theorem d133_31 : decode (vm_cd 133) 31 = .ok (.iload_n 1, 1) := (congrArg (fun b => decode b 31) cd133).trans (by decide +kernel)
theorem d133_32 : decode (vm_cd 133) 32 = .ok (.iaload, 1) := (congrArg (fun b => decode b 32) cd133).trans (by decide +kernel)
theorem d133_33 : decode (vm_cd 133) 33 = .ok (.istore_n 3, 1) := (congrArg (fun b => decode b 33) cd133).trans (by decide +kernel)
theorem d133_34 : decode (vm_cd 133) 34 = .ok (.aload_n 0, 1) := (congrArg (fun b => decode b 34) cd133).trans (by decide +kernel)
theorem d133_35 : decode (vm_cd 133) 35 = .ok (.getfield 82, 3) := (congrArg (fun b => decode b 35) cd133).trans (by decide +kernel)
theorem d133_38 : decode (vm_cd 133) 38 = .ok (.iload_n 1, 1) := (congrArg (fun b => decode b 38) cd133).trans (by decide +kernel)
theorem d133_39 : decode (vm_cd 133) 39 = .ok (.iload_n 2, 1) := (congrArg (fun b => decode b 39) cd133).trans (by decide +kernel)
theorem d133_40 : decode (vm_cd 133) 40 = .ok (.iastore, 1) := (congrArg (fun b => decode b 40) cd133).trans (by decide +kernel)
theorem d133_41 : decode (vm_cd 133) 41 = .ok (.iload_n 3, 1) := (congrArg (fun b => decode b 41) cd133).trans (by decide +kernel)
theorem d133_42 : decode (vm_cd 133) 42 = .ok (.ireturn, 1) := (congrArg (fun b => decode b 42) cd133).trans (by decide +kernel)
theorem f133_22 : vm_fl.lookup (vm_own 133, 22) = some (10, 0, 250) := by decide +kernel
theorem f133_82 : vm_fl.lookup (vm_own 133, 82) = some (10, 9, 259) := by decide +kernel
theorem c133_92 : vm_ml.lookup (vm_own 133, 92) = some (1, 179, 3, 291, 292, 0, 1) := vm_lk (by decide +kernel)
theorem c133_117 : vm_ml.lookup (vm_own 133, 117) = some (0, 6, 1, 329, 330, 404, 2) := vm_lk (by decide +kernel)
theorem r133 : vm_rt 133 = (some .int) := by decide +kernel
theorem B_X_pay_0 {X : vX} {d : Nat} {M : vM} {Q : Option vV → vM → Prop} {l1 l2 : Int} (hR : vRefs M)  (k : cq X d 6 [vR 1, vI l1] M (fun r M1 => wp X d 133 8 [vR 0, vI l1, vI l2, vN] (r.toList ++ []) (vS0, M1) (vP Q))) : vw X d 133 0 [vR 0, vI l1, vI l2, vN] [] M Q := by
  refine w_aload_n d133_0 rfl ?_
  refine w_getf (a := 0) (v := vR 1) d133_1 f133_22 rfl rfl (congrArg vR (rf_0_0 hR)) ?_
  refine w_iload_n d133_4 rfl ?_
  exact w_inv0 (a := 1) (c := 0) d133_5 c133_117 rfl rfl rfl v6 (Nat.le_of_ble_eq_true rfl) (cq.cl (k))
theorem B_X_pay_8 {X : vX} {d : Nat} {M : vM} {Q : Option vV → vM → Prop} {l1 l2 s0 : Int}  (k1 : ¬ s0 = 0 → vw X d 133 13 [vR 0, vI l1, vI l2, vN] [] M Q) (k2 : s0 = 0 → vw X d 133 11 [vR 0, vI l1, vI l2, vN] [] M Q) : vw X d 133 8 [vR 0, vI l1, vI l2, vN] [vI s0] M Q := by
  exact w_if_ne d133_8 rfl (fun h => k1 h) (fun h => k2 h)
theorem B_X_pay_11 {X : vX} {d : Nat} {M : vM} {Q : Option vV → vM → Prop} {l1 l2 : Int}  (k : Q (some (vI ((-1)))) M) : vw X d 133 11 [vR 0, vI l1, vI l2, vN] [] M Q := by
  refine w_ic (v := (-1)) d133_11 rfl ?_
  exact w_iret d133_12 r133 ⟨_, rfl, k⟩
theorem B_X_pay_13 {X : vX} {d : Nat} {M : vM} {Q : Option vV → vM → Prop} {l1 l2 : Int}  (k : cq X d 179 [vI l2, vI 0, vI 999] M (fun r M1 => wp X d 133 21 [vR 0, vI l1, vI l2, vN] (r.toList ++ []) (vS0, M1) (vP Q))) : vw X d 133 13 [vR 0, vI l1, vI l2, vN] [] M Q := by
  refine w_iload_n d133_13 rfl ?_
  refine w_ic (v := 0) d133_14 rfl ?_
  refine w_si (v := 999) d133_15 rfl ?_
  exact w_inv1 d133_18 c133_92 (by decide) rfl (Nat.le_of_ble_eq_true rfl) (cq.cl (k))
theorem B_X_pay_21 {X : vX} {d : Nat} {M : vM} {Q : Option vV → vM → Prop} {l1 l2 s0 : Int}  (k1 : ¬ s0 = 0 → vw X d 133 27 [vR 0, vI l1, vI l2, vN] [] M Q) (k2 : s0 = 0 → vw X d 133 24 [vR 0, vI l1, vI l2, vN] [] M Q) : vw X d 133 21 [vR 0, vI l1, vI l2, vN] [vI s0] M Q := by
  exact w_if_ne d133_21 rfl (fun h => k1 h) (fun h => k2 h)
theorem B_X_pay_24 {X : vX} {d : Nat} {M : vM} {Q : Option vV → vM → Prop} {l1 l2 : Int}  (k : Q (some (vI ((-2)))) M) : vw X d 133 24 [vR 0, vI l1, vI l2, vN] [] M Q := by
  refine w_bi (v := (-2)) d133_24 rfl ?_
  exact w_iret d133_26 r133 ⟨_, rfl, k⟩
theorem B_X_pay_27 {X : vX} {d : Nat} {M : vM} {Q : Option vV → vM → Prop} {l1 l2 : Int} (hR : vRefs M) (h1 : 0 ≤ l1 ∧ l1 < (4 : Nat)) (h2 : 0 ≤ l1 ∧ l1 < (4 : Nat)) (k : vRefs (vm_up M 78 l1.toNat l2) → Q (some (vI (M 78 l1.toNat))) (vm_up M 78 l1.toNat l2)) : vw X d 133 27 [vR 0, vI l1, vI l2, vN] [] M Q := by
  refine w_aload_n d133_27 rfl ?_
  refine w_getf (a := 0) (v := vR 78) d133_28 f133_82 rfl rfl (congrArg vR (rf_0_9 hR)) ?_
  refine w_iload_n d133_31 rfl ?_
  refine w_iaload (a := 78) d133_32 rfl rfl h1 ?_
  refine w_istore_nE (ls' := [vR 0, vI l1, vI l2, vI (M 78 l1.toNat)]) d133_33 (Nat.le_of_ble_eq_true rfl) rfl ?_
  refine w_aload_n d133_34 rfl ?_
  refine w_getf (a := 0) (v := vR 78) d133_35 f133_82 rfl rfl (congrArg vR (rf_0_9 hR)) ?_
  refine w_iload_n d133_38 rfl ?_
  refine w_iload_n d133_39 rfl ?_
  refine w_iast (a := 78) d133_40 rfl rfl h2 ?_
  refine w_iload_n d133_41 rfl ?_
  exact w_iret d133_42 r133 ⟨_, rfl, k (vRefs_free hR ⟨by decide, by decide⟩)⟩
theorem E_X_pay {X : vX} {d : Nat} {M : vM} {Q : Option vV → vM → Prop} {l1 l2 : Int} (k : vw X d 133 0 [vR 0, vI l1, vI l2, vN] [] M Q) : cq X (d + 1) 133 [vR 0, vI l1, vI l2] M Q := wc_in (Nat.le_of_ble_eq_true rfl) (Nat.le_of_ble_eq_true rfl) k
theorem cd134 : vm_cd 134 = cX11_gain := rfl
theorem d134_0 : decode (vm_cd 134) 0 = .ok (.aload_n 0, 1) := (congrArg (fun b => decode b 0) cd134).trans (by decide +kernel)
theorem d134_1 : decode (vm_cd 134) 1 = .ok (.getfield 22, 3) := (congrArg (fun b => decode b 1) cd134).trans (by decide +kernel)
theorem d134_4 : decode (vm_cd 134) 4 = .ok (.iload_n 1, 1) := (congrArg (fun b => decode b 4) cd134).trans (by decide +kernel)
theorem d134_5 : decode (vm_cd 134) 5 = .ok (.invokevirtual 104, 3) := (congrArg (fun b => decode b 5) cd134).trans (by decide +kernel)
theorem d134_8 : decode (vm_cd 134) 8 = .ok (.ifCond .eq 26, 3) := (congrArg (fun b => decode b 8) cd134).trans (by decide +kernel)
theorem d134_11 : decode (vm_cd 134) 11 = .ok (.iload_n 2, 1) := (congrArg (fun b => decode b 11) cd134).trans (by decide +kernel)
theorem d134_12 : decode (vm_cd 134) 12 = .ok (.invokestatic 111, 3) := (congrArg (fun b => decode b 12) cd134).trans (by decide +kernel)
theorem d134_15 : decode (vm_cd 134) 15 = .ok (.ifCond .eq 19, 3) := (congrArg (fun b => decode b 15) cd134).trans (by decide +kernel)
theorem d134_18 : decode (vm_cd 134) 18 = .ok (.aload_n 0, 1) := (congrArg (fun b => decode b 18) cd134).trans (by decide +kernel)
theorem d134_19 : decode (vm_cd 134) 19 = .ok (.getfield 22, 3) := (congrArg (fun b => decode b 19) cd134).trans (by decide +kernel)
theorem d134_22 : decode (vm_cd 134) 22 = .ok (.iload_n 1, 1) := (congrArg (fun b => decode b 22) cd134).trans (by decide +kernel)
theorem d134_23 : decode (vm_cd 134) 23 = .ok (.iload_n 2, 1) := (congrArg (fun b => decode b 23) cd134).trans (by decide +kernel)
theorem d134_24 : decode (vm_cd 134) 24 = .ok (.aload_n 0, 1) := (congrArg (fun b => decode b 24) cd134).trans (by decide +kernel)
theorem d134_25 : decode (vm_cd 134) 25 = .ok (.getfield 82, 3) := (congrArg (fun b => decode b 25) cd134).trans (by decide +kernel)
theorem d134_28 : decode (vm_cd 134) 28 = .ok (.invokevirtual 126, 3) := (congrArg (fun b => decode b 28) cd134).trans (by decide +kernel)
theorem d134_31 : decode (vm_cd 134) 31 = .ok (.goto 6, 3) := (congrArg (fun b => decode b 31) cd134).trans (by decide +kernel)
theorem d134_34 : decode (vm_cd 134) 34 = .ok (.ldc2_w 130, 3) := (congrArg (fun b => decode b 34) cd134).trans (by decide +kernel)
theorem d134_37 : decode (vm_cd 134) 37 = .ok (.lreturn, 1) := (congrArg (fun b => decode b 37) cd134).trans (by decide +kernel)
theorem f134_22 : vm_fl.lookup (vm_own 134, 22) = some (10, 0, 250) := by decide +kernel
theorem f134_82 : vm_fl.lookup (vm_own 134, 82) = some (10, 9, 259) := by decide +kernel
theorem c134_104 : vm_ml.lookup (vm_own 134, 104) = some (0, 5, 1, 306, 307, 381, 2) := vm_lk (by decide +kernel)
theorem c134_111 : vm_ml.lookup (vm_own 134, 111) = some (1, 180, 1, 318, 319, 0, 1) := vm_lk (by decide +kernel)
theorem c134_126 : vm_ml.lookup (vm_own 134, 126) = some (0, 16, 3, 353, 354, 428, 2) := vm_lk (by decide +kernel)
theorem g134_130 : vm_cn.lookup (vm_own 134, 130) = some ((1), (-9223372036854775808), (365)) := by decide +kernel
theorem r134 : vm_rt 134 = (some .long) := by decide +kernel
theorem B_X_gain_0 {X : vX} {d : Nat} {M : vM} {Q : Option vV → vM → Prop} {l1 l2 : Int} (hR : vRefs M)  (k : cq X d 5 [vR 1, vI l1] M (fun r M1 => wp X d 134 8 [vR 0, vI l1, vI l2] (r.toList ++ []) (vS0, M1) (vP Q))) : vw X d 134 0 [vR 0, vI l1, vI l2] [] M Q := by
  refine w_aload_n d134_0 rfl ?_
  refine w_getf (a := 0) (v := vR 1) d134_1 f134_22 rfl rfl (congrArg vR (rf_0_0 hR)) ?_
  refine w_iload_n d134_4 rfl ?_
  exact w_inv0 (a := 1) (c := 0) d134_5 c134_104 rfl rfl rfl v5 (Nat.le_of_ble_eq_true rfl) (cq.cl (k))
theorem B_X_gain_8 {X : vX} {d : Nat} {M : vM} {Q : Option vV → vM → Prop} {l1 l2 s0 : Int}  (k1 : s0 = 0 → vw X d 134 34 [vR 0, vI l1, vI l2] [] M Q) (k2 : ¬ s0 = 0 → vw X d 134 11 [vR 0, vI l1, vI l2] [] M Q) : vw X d 134 8 [vR 0, vI l1, vI l2] [vI s0] M Q := by
  exact w_if_eq d134_8 rfl (fun h => k1 h) (fun h => k2 h)
theorem B_X_gain_11 {X : vX} {d : Nat} {M : vM} {Q : Option vV → vM → Prop} {l1 l2 : Int}  (k : cq X d 180 [vI l2] M (fun r M1 => wp X d 134 15 [vR 0, vI l1, vI l2] (r.toList ++ []) (vS0, M1) (vP Q))) : vw X d 134 11 [vR 0, vI l1, vI l2] [] M Q := by
  refine w_iload_n d134_11 rfl ?_
  exact w_inv1 d134_12 c134_111 (by decide) rfl (Nat.le_of_ble_eq_true rfl) (cq.cl (k))
theorem B_X_gain_15 {X : vX} {d : Nat} {M : vM} {Q : Option vV → vM → Prop} {l1 l2 s0 : Int}  (k1 : s0 = 0 → vw X d 134 34 [vR 0, vI l1, vI l2] [] M Q) (k2 : ¬ s0 = 0 → vw X d 134 18 [vR 0, vI l1, vI l2] [] M Q) : vw X d 134 15 [vR 0, vI l1, vI l2] [vI s0] M Q := by
  exact w_if_eq d134_15 rfl (fun h => k1 h) (fun h => k2 h)
theorem B_X_gain_18 {X : vX} {d : Nat} {M : vM} {Q : Option vV → vM → Prop} {l1 l2 : Int} (hR : vRefs M)  (k : cq X d 16 [vR 1, vI l1, vI l2, vR 78] M (fun r M1 => wp X d 134 31 [vR 0, vI l1, vI l2] (r.toList ++ []) (vS0, M1) (vP Q))) : vw X d 134 18 [vR 0, vI l1, vI l2] [] M Q := by
  refine w_aload_n d134_18 rfl ?_
  refine w_getf (a := 0) (v := vR 1) d134_19 f134_22 rfl rfl (congrArg vR (rf_0_0 hR)) ?_
  refine w_iload_n d134_22 rfl ?_
  refine w_iload_n d134_23 rfl ?_
  refine w_aload_n d134_24 rfl ?_
  refine w_getf (a := 0) (v := vR 78) d134_25 f134_82 rfl rfl (congrArg vR (rf_0_9 hR)) ?_
  exact w_inv0 (a := 1) (c := 0) d134_28 c134_126 rfl rfl rfl v16 (Nat.le_of_ble_eq_true rfl) (cq.cl (k))
theorem B_X_gain_31 {X : vX} {d : Nat} {M : vM} {Q : Option vV → vM → Prop} {l1 l2 s0 : Int}  (k : Q (some (vL s0)) M) : vw X d 134 31 [vR 0, vI l1, vI l2] [vL s0] M Q := by
  refine w_goto (tgt := 37) d134_31 rfl ?_
  exact w_lret d134_37 r134 ⟨_, rfl, k⟩
theorem B_X_gain_34 {X : vX} {d : Nat} {M : vM} {Q : Option vV → vM → Prop} {l1 l2 : Int}  (k : Q (some (vL ((-9223372036854775808)))) M) : vw X d 134 34 [vR 0, vI l1, vI l2] [] M Q := by
  refine w_ldc2_w (v := (-9223372036854775808)) d134_34 g134_130 rfl ?_
  exact w_lret d134_37 r134 ⟨_, rfl, k⟩
theorem E_X_gain {X : vX} {d : Nat} {M : vM} {Q : Option vV → vM → Prop} {l1 l2 : Int} (k : vw X d 134 0 [vR 0, vI l1, vI l2] [] M Q) : cq X (d + 1) 134 [vR 0, vI l1, vI l2] M Q := wc_in (Nat.le_of_ble_eq_true rfl) (Nat.le_of_ble_eq_true rfl) k
theorem cd135 : vm_cd 135 = cX11_answer := rfl
theorem d135_0 : decode (vm_cd 135) 0 = .ok (.iload_n 1, 1) := (congrArg (fun b => decode b 0) cd135).trans (by decide +kernel)
theorem d135_1 : decode (vm_cd 135) 1 = .ok (.invokestatic 111, 3) := (congrArg (fun b => decode b 1) cd135).trans (by decide +kernel)
theorem d135_4 : decode (vm_cd 135) 4 = .ok (.ifCond .eq 18, 3) := (congrArg (fun b => decode b 4) cd135).trans (by decide +kernel)
theorem d135_7 : decode (vm_cd 135) 7 = .ok (.aload_n 0, 1) := (congrArg (fun b => decode b 7) cd135).trans (by decide +kernel)
theorem d135_8 : decode (vm_cd 135) 8 = .ok (.getfield 22, 3) := (congrArg (fun b => decode b 8) cd135).trans (by decide +kernel)
theorem d135_11 : decode (vm_cd 135) 11 = .ok (.iload_n 1, 1) := (congrArg (fun b => decode b 11) cd135).trans (by decide +kernel)
theorem d135_12 : decode (vm_cd 135) 12 = .ok (.aload_n 0, 1) := (congrArg (fun b => decode b 12) cd135).trans (by decide +kernel)
theorem d135_13 : decode (vm_cd 135) 13 = .ok (.getfield 82, 3) := (congrArg (fun b => decode b 13) cd135).trans (by decide +kernel)
theorem d135_16 : decode (vm_cd 135) 16 = .ok (.invokevirtual 132, 3) := (congrArg (fun b => decode b 16) cd135).trans (by decide +kernel)
theorem d135_19 : decode (vm_cd 135) 19 = .ok (.goto 4, 3) := (congrArg (fun b => decode b 19) cd135).trans (by decide +kernel)
theorem d135_22 : decode (vm_cd 135) 22 = .ok (.iconst (-1), 1) := (congrArg (fun b => decode b 22) cd135).trans (by decide +kernel)
theorem d135_23 : decode (vm_cd 135) 23 = .ok (.ireturn, 1) := (congrArg (fun b => decode b 23) cd135).trans (by decide +kernel)
theorem f135_22 : vm_fl.lookup (vm_own 135, 22) = some (10, 0, 250) := by decide +kernel
theorem f135_82 : vm_fl.lookup (vm_own 135, 82) = some (10, 9, 259) := by decide +kernel
theorem c135_111 : vm_ml.lookup (vm_own 135, 111) = some (1, 180, 1, 318, 319, 0, 1) := vm_lk (by decide +kernel)
theorem c135_132 : vm_ml.lookup (vm_own 135, 132) = some (0, 19, 2, 370, 371, 445, 2) := vm_lk (by decide +kernel)
theorem r135 : vm_rt 135 = (some .int) := by decide +kernel
theorem B_X_answer_0 {X : vX} {d : Nat} {M : vM} {Q : Option vV → vM → Prop} {l1 : Int}  (k : cq X d 180 [vI l1] M (fun r M1 => wp X d 135 4 [vR 0, vI l1] (r.toList ++ []) (vS0, M1) (vP Q))) : vw X d 135 0 [vR 0, vI l1] [] M Q := by
  refine w_iload_n d135_0 rfl ?_
  exact w_inv1 d135_1 c135_111 (by decide) rfl (Nat.le_of_ble_eq_true rfl) (cq.cl (k))
theorem B_X_answer_4 {X : vX} {d : Nat} {M : vM} {Q : Option vV → vM → Prop} {l1 s0 : Int}  (k1 : s0 = 0 → vw X d 135 22 [vR 0, vI l1] [] M Q) (k2 : ¬ s0 = 0 → vw X d 135 7 [vR 0, vI l1] [] M Q) : vw X d 135 4 [vR 0, vI l1] [vI s0] M Q := by
  exact w_if_eq d135_4 rfl (fun h => k1 h) (fun h => k2 h)
theorem B_X_answer_7 {X : vX} {d : Nat} {M : vM} {Q : Option vV → vM → Prop} {l1 : Int} (hR : vRefs M)  (k : cq X d 19 [vR 1, vI l1, vR 78] M (fun r M1 => wp X d 135 19 [vR 0, vI l1] (r.toList ++ []) (vS0, M1) (vP Q))) : vw X d 135 7 [vR 0, vI l1] [] M Q := by
  refine w_aload_n d135_7 rfl ?_
  refine w_getf (a := 0) (v := vR 1) d135_8 f135_22 rfl rfl (congrArg vR (rf_0_0 hR)) ?_
  refine w_iload_n d135_11 rfl ?_
  refine w_aload_n d135_12 rfl ?_
  refine w_getf (a := 0) (v := vR 78) d135_13 f135_82 rfl rfl (congrArg vR (rf_0_9 hR)) ?_
  exact w_inv0 (a := 1) (c := 0) d135_16 c135_132 rfl rfl rfl v19 (Nat.le_of_ble_eq_true rfl) (cq.cl (k))
theorem B_X_answer_19 {X : vX} {d : Nat} {M : vM} {Q : Option vV → vM → Prop} {l1 s0 : Int}  (k : Q (some (vI s0)) M) : vw X d 135 19 [vR 0, vI l1] [vI s0] M Q := by
  refine w_goto (tgt := 23) d135_19 rfl ?_
  exact w_iret d135_23 r135 ⟨_, rfl, k⟩
theorem B_X_answer_22 {X : vX} {d : Nat} {M : vM} {Q : Option vV → vM → Prop} {l1 : Int}  (k : Q (some (vI ((-1)))) M) : vw X d 135 22 [vR 0, vI l1] [] M Q := by
  refine w_ic (v := (-1)) d135_22 rfl ?_
  exact w_iret d135_23 r135 ⟨_, rfl, k⟩
theorem E_X_answer {X : vX} {d : Nat} {M : vM} {Q : Option vV → vM → Prop} {l1 : Int} (k : vw X d 135 0 [vR 0, vI l1] [] M Q) : cq X (d + 1) 135 [vR 0, vI l1] M Q := wc_in (Nat.le_of_ble_eq_true rfl) (Nat.le_of_ble_eq_true rfl) k
theorem cd136 : vm_cd 136 = cX11_steers := rfl
theorem d136_0 : decode (vm_cd 136) 0 = .ok (.aload_n 0, 1) := (congrArg (fun b => decode b 0) cd136).trans (by decide +kernel)
theorem d136_1 : decode (vm_cd 136) 1 = .ok (.getfield 22, 3) := (congrArg (fun b => decode b 1) cd136).trans (by decide +kernel)
theorem d136_4 : decode (vm_cd 136) 4 = .ok (.iload_n 1, 1) := (congrArg (fun b => decode b 4) cd136).trans (by decide +kernel)
theorem d136_5 : decode (vm_cd 136) 5 = .ok (.invokevirtual 104, 3) := (congrArg (fun b => decode b 5) cd136).trans (by decide +kernel)
theorem d136_8 : decode (vm_cd 136) 8 = .ok (.ifCond .ne 5, 3) := (congrArg (fun b => decode b 8) cd136).trans (by decide +kernel)
theorem d136_11 : decode (vm_cd 136) 11 = .ok (.iconst (-1), 1) := (congrArg (fun b => decode b 11) cd136).trans (by decide +kernel)
theorem d136_12 : decode (vm_cd 136) 12 = .ok (.ireturn, 1) := (congrArg (fun b => decode b 12) cd136).trans (by decide +kernel)
theorem d136_13 : decode (vm_cd 136) 13 = .ok (.iload_n 2, 1) := (congrArg (fun b => decode b 13) cd136).trans (by decide +kernel)
theorem d136_14 : decode (vm_cd 136) 14 = .ok (.invokestatic 136, 3) := (congrArg (fun b => decode b 14) cd136).trans (by decide +kernel)
theorem d136_17 : decode (vm_cd 136) 17 = .ok (.ifCond .ne 6, 3) := (congrArg (fun b => decode b 17) cd136).trans (by decide +kernel)
theorem d136_20 : decode (vm_cd 136) 20 = .ok (.bipush (-2), 2) := (congrArg (fun b => decode b 20) cd136).trans (by decide +kernel)
theorem d136_22 : decode (vm_cd 136) 22 = .ok (.ireturn, 1) := (congrArg (fun b => decode b 22) cd136).trans (by decide +kernel)
theorem d136_23 : decode (vm_cd 136) 23 = .ok (.aload_n 0, 1) := (congrArg (fun b => decode b 23) cd136).trans (by decide +kernel)
theorem d136_24 : decode (vm_cd 136) 24 = .ok (.iload_n 1, 1) := (congrArg (fun b => decode b 24) cd136).trans (by decide +kernel)
theorem d136_25 : decode (vm_cd 136) 25 = .ok (.iload_n 2, 1) := (congrArg (fun b => decode b 25) cd136).trans (by decide +kernel)
theorem d136_26 : decode (vm_cd 136) 26 = .ok (.invokevirtual 139, 3) := (congrArg (fun b => decode b 26) cd136).trans (by decide +kernel)
theorem d136_29 : decode (vm_cd 136) 29 = .ok (.ifCond .eq 7, 3) := (congrArg (fun b => decode b 29) cd136).trans (by decide +kernel)
theorem d136_32 : decode (vm_cd 136) 32 = .ok (.iconst 1, 1) := (congrArg (fun b => decode b 32) cd136).trans (by decide +kernel)
theorem d136_33 : decode (vm_cd 136) 33 = .ok (.goto 4, 3) := (congrArg (fun b => decode b 33) cd136).trans (by decide +kernel)
theorem d136_36 : decode (vm_cd 136) 36 = .ok (.iconst 0, 1) := (congrArg (fun b => decode b 36) cd136).trans (by decide +kernel)
theorem d136_37 : decode (vm_cd 136) 37 = .ok (.ireturn, 1) := (congrArg (fun b => decode b 37) cd136).trans (by decide +kernel)
theorem f136_22 : vm_fl.lookup (vm_own 136, 22) = some (10, 0, 250) := by decide +kernel
theorem c136_104 : vm_ml.lookup (vm_own 136, 104) = some (0, 5, 1, 306, 307, 381, 2) := vm_lk (by decide +kernel)
theorem c136_136 : vm_ml.lookup (vm_own 136, 136) = some (1, 181, 1, 391, 392, 0, 1) := vm_lk (by decide +kernel)
theorem c136_139 : vm_ml.lookup (vm_own 136, 139) = some (0, 175, 2, 394, 396, 1, 1) := vm_lk (by decide +kernel)
theorem r136 : vm_rt 136 = (some .int) := by decide +kernel
theorem B_X_steers_0 {X : vX} {d : Nat} {M : vM} {Q : Option vV → vM → Prop} {l1 l2 : Int} (hR : vRefs M)  (k : cq X d 5 [vR 1, vI l1] M (fun r M1 => wp X d 136 8 [vR 0, vI l1, vI l2] (r.toList ++ []) (vS0, M1) (vP Q))) : vw X d 136 0 [vR 0, vI l1, vI l2] [] M Q := by
  refine w_aload_n d136_0 rfl ?_
  refine w_getf (a := 0) (v := vR 1) d136_1 f136_22 rfl rfl (congrArg vR (rf_0_0 hR)) ?_
  refine w_iload_n d136_4 rfl ?_
  exact w_inv0 (a := 1) (c := 0) d136_5 c136_104 rfl rfl rfl v5 (Nat.le_of_ble_eq_true rfl) (cq.cl (k))
theorem B_X_steers_8 {X : vX} {d : Nat} {M : vM} {Q : Option vV → vM → Prop} {l1 l2 s0 : Int}  (k1 : ¬ s0 = 0 → vw X d 136 13 [vR 0, vI l1, vI l2] [] M Q) (k2 : s0 = 0 → vw X d 136 11 [vR 0, vI l1, vI l2] [] M Q) : vw X d 136 8 [vR 0, vI l1, vI l2] [vI s0] M Q := by
  exact w_if_ne d136_8 rfl (fun h => k1 h) (fun h => k2 h)
theorem B_X_steers_11 {X : vX} {d : Nat} {M : vM} {Q : Option vV → vM → Prop} {l1 l2 : Int}  (k : Q (some (vI ((-1)))) M) : vw X d 136 11 [vR 0, vI l1, vI l2] [] M Q := by
  refine w_ic (v := (-1)) d136_11 rfl ?_
  exact w_iret d136_12 r136 ⟨_, rfl, k⟩
theorem B_X_steers_13 {X : vX} {d : Nat} {M : vM} {Q : Option vV → vM → Prop} {l1 l2 : Int}  (k : cq X d 181 [vI l2] M (fun r M1 => wp X d 136 17 [vR 0, vI l1, vI l2] (r.toList ++ []) (vS0, M1) (vP Q))) : vw X d 136 13 [vR 0, vI l1, vI l2] [] M Q := by
  refine w_iload_n d136_13 rfl ?_
  exact w_inv1 d136_14 c136_136 (by decide) rfl (Nat.le_of_ble_eq_true rfl) (cq.cl (k))
theorem B_X_steers_17 {X : vX} {d : Nat} {M : vM} {Q : Option vV → vM → Prop} {l1 l2 s0 : Int}  (k1 : ¬ s0 = 0 → vw X d 136 23 [vR 0, vI l1, vI l2] [] M Q) (k2 : s0 = 0 → vw X d 136 20 [vR 0, vI l1, vI l2] [] M Q) : vw X d 136 17 [vR 0, vI l1, vI l2] [vI s0] M Q := by
  exact w_if_ne d136_17 rfl (fun h => k1 h) (fun h => k2 h)
theorem B_X_steers_20 {X : vX} {d : Nat} {M : vM} {Q : Option vV → vM → Prop} {l1 l2 : Int}  (k : Q (some (vI ((-2)))) M) : vw X d 136 20 [vR 0, vI l1, vI l2] [] M Q := by
  refine w_bi (v := (-2)) d136_20 rfl ?_
  exact w_iret d136_22 r136 ⟨_, rfl, k⟩
theorem B_X_steers_23 {X : vX} {d : Nat} {M : vM} {Q : Option vV → vM → Prop} {l1 l2 : Int}  (k : cq X d 175 [vR 0, vI l1, vI l2] M (fun r M1 => wp X d 136 29 [vR 0, vI l1, vI l2] (r.toList ++ []) (vS0, M1) (vP Q))) : vw X d 136 23 [vR 0, vI l1, vI l2] [] M Q := by
  refine w_aload_n d136_23 rfl ?_
  refine w_iload_n d136_24 rfl ?_
  refine w_iload_n d136_25 rfl ?_
  exact w_inv0 (a := 0) (c := 10) d136_26 c136_139 rfl rfl rfl v175 (Nat.le_of_ble_eq_true rfl) (cq.cl (k))
theorem B_X_steers_29 {X : vX} {d : Nat} {M : vM} {Q : Option vV → vM → Prop} {l1 l2 s0 : Int}  (k1 : s0 = 0 → vw X d 136 36 [vR 0, vI l1, vI l2] [] M Q) (k2 : ¬ s0 = 0 → vw X d 136 32 [vR 0, vI l1, vI l2] [] M Q) : vw X d 136 29 [vR 0, vI l1, vI l2] [vI s0] M Q := by
  exact w_if_eq d136_29 rfl (fun h => k1 h) (fun h => k2 h)
theorem B_X_steers_32 {X : vX} {d : Nat} {M : vM} {Q : Option vV → vM → Prop} {l1 l2 : Int}  (k : Q (some (vI 1)) M) : vw X d 136 32 [vR 0, vI l1, vI l2] [] M Q := by
  refine w_ic (v := 1) d136_32 rfl ?_
  refine w_goto (tgt := 37) d136_33 rfl ?_
  exact w_iret d136_37 r136 ⟨_, rfl, k⟩
theorem B_X_steers_36 {X : vX} {d : Nat} {M : vM} {Q : Option vV → vM → Prop} {l1 l2 : Int}  (k : Q (some (vI 0)) M) : vw X d 136 36 [vR 0, vI l1, vI l2] [] M Q := by
  refine w_ic (v := 0) d136_36 rfl ?_
  exact w_iret d136_37 r136 ⟨_, rfl, k⟩
theorem E_X_steers {X : vX} {d : Nat} {M : vM} {Q : Option vV → vM → Prop} {l1 l2 : Int} (k : vw X d 136 0 [vR 0, vI l1, vI l2] [] M Q) : cq X (d + 1) 136 [vR 0, vI l1, vI l2] M Q := wc_in (Nat.le_of_ble_eq_true rfl) (Nat.le_of_ble_eq_true rfl) k
theorem cd137 : vm_cd 137 = cX11_least := rfl
theorem d137_0 : decode (vm_cd 137) 0 = .ok (.aload_n 0, 1) := (congrArg (fun b => decode b 0) cd137).trans (by decide +kernel)
theorem d137_1 : decode (vm_cd 137) 1 = .ok (.getfield 22, 3) := (congrArg (fun b => decode b 1) cd137).trans (by decide +kernel)
theorem d137_4 : decode (vm_cd 137) 4 = .ok (.iload_n 1, 1) := (congrArg (fun b => decode b 4) cd137).trans (by decide +kernel)
theorem d137_5 : decode (vm_cd 137) 5 = .ok (.invokevirtual 104, 3) := (congrArg (fun b => decode b 5) cd137).trans (by decide +kernel)
theorem d137_8 : decode (vm_cd 137) 8 = .ok (.ifCond .eq 26, 3) := (congrArg (fun b => decode b 8) cd137).trans (by decide +kernel)
theorem d137_11 : decode (vm_cd 137) 11 = .ok (.iload_n 2, 1) := (congrArg (fun b => decode b 11) cd137).trans (by decide +kernel)
theorem d137_12 : decode (vm_cd 137) 12 = .ok (.invokestatic 136, 3) := (congrArg (fun b => decode b 12) cd137).trans (by decide +kernel)
theorem d137_15 : decode (vm_cd 137) 15 = .ok (.ifCond .eq 19, 3) := (congrArg (fun b => decode b 15) cd137).trans (by decide +kernel)
theorem d137_18 : decode (vm_cd 137) 18 = .ok (.iload_n 3, 1) := (congrArg (fun b => decode b 18) cd137).trans (by decide +kernel)
theorem d137_19 : decode (vm_cd 137) 19 = .ok (.iconst (-1), 1) := (congrArg (fun b => decode b 19) cd137).trans (by decide +kernel)
theorem d137_20 : decode (vm_cd 137) 20 = .ok (.if_icmp .eq 18, 3) := (congrArg (fun b => decode b 20) cd137).trans (by decide +kernel)
theorem d137_23 : decode (vm_cd 137) 23 = .ok (.aload_n 0, 1) := (congrArg (fun b => decode b 23) cd137).trans (by decide +kernel)
theorem d137_24 : decode (vm_cd 137) 24 = .ok (.getfield 22, 3) := (congrArg (fun b => decode b 24) cd137).trans (by decide +kernel)
theorem d137_27 : decode (vm_cd 137) 27 = .ok (.iload_n 3, 1) := (congrArg (fun b => decode b 27) cd137).trans (by decide +kernel)
theorem d137_28 : decode (vm_cd 137) 28 = .ok (.invokevirtual 117, 3) := (congrArg (fun b => decode b 28) cd137).trans (by decide +kernel)
theorem d137_31 : decode (vm_cd 137) 31 = .ok (.ifCond .ne 7, 3) := (congrArg (fun b => decode b 31) cd137).trans (by decide +kernel)
theorem d137_34 : decode (vm_cd 137) 34 = .ok (.ldc2_w 130, 3) := (congrArg (fun b => decode b 34) cd137).trans (by decide +kernel)
theorem d137_37 : decode (vm_cd 137) 37 = .ok (.lreturn, 1) := (congrArg (fun b => decode b 37) cd137).trans (by decide +kernel)
theorem d137_38 : decode (vm_cd 137) 38 = .ok (.aload_n 0, 1) := (congrArg (fun b => decode b 38) cd137).trans (by decide +kernel)
theorem d137_39 : decode (vm_cd 137) 39 = .ok (.iload_n 1, 1) := (congrArg (fun b => decode b 39) cd137).trans (by decide +kernel)
theorem d137_40 : decode (vm_cd 137) 40 = .ok (.iload_n 2, 1) := (congrArg (fun b => decode b 40) cd137).trans (by decide +kernel)
theorem d137_41 : decode (vm_cd 137) 41 = .ok (.invokevirtual 139, 3) := (congrArg (fun b => decode b 41) cd137).trans (by decide +kernel)
theorem d137_44 : decode (vm_cd 137) 44 = .ok (.ifCond .ne 7, 3) := (congrArg (fun b => decode b 44) cd137).trans (by decide +kernel)
theorem d137_47 : decode (vm_cd 137) 47 = .ok (.ldc2_w 130, 3) := (congrArg (fun b => decode b 47) cd137).trans (by decide +kernel)
theorem d137_50 : decode (vm_cd 137) 50 = .ok (.lreturn, 1) := (congrArg (fun b => decode b 50) cd137).trans (by decide +kernel)
theorem d137_51 : decode (vm_cd 137) 51 = .ok (.iload_n 3, 1) := (congrArg (fun b => decode b 51) cd137).trans (by decide +kernel)
theorem d137_52 : decode (vm_cd 137) 52 = .ok (.iconst (-1), 1) := (congrArg (fun b => decode b 52) cd137).trans (by decide +kernel)
theorem d137_53 : decode (vm_cd 137) 53 = .ok (.if_icmp .ne 29, 3) := (congrArg (fun b => decode b 53) cd137).trans (by decide +kernel)
theorem d137_56 : decode (vm_cd 137) 56 = .ok (.aload_n 0, 1) := (congrArg (fun b => decode b 56) cd137).trans (by decide +kernel)
theorem d137_57 : decode (vm_cd 137) 57 = .ok (.getfield 29, 3) := (congrArg (fun b => decode b 57) cd137).trans (by decide +kernel)
theorem d137_60 : decode (vm_cd 137) 60 = .ok (.invokevirtual 143, 3) := (congrArg (fun b => decode b 60) cd137).trans (by decide +kernel)
theorem d137_63 : decode (vm_cd 137) 63 = .ok (.ldc2_w 147, 3) := (congrArg (fun b => decode b 63) cd137).trans (by decide +kernel)
theorem d137_66 : decode (vm_cd 137) 66 = .ok (.aload_n 0, 1) := (congrArg (fun b => decode b 66) cd137).trans (by decide +kernel)
theorem d137_67 : decode (vm_cd 137) 67 = .ok (.getfield 29, 3) := (congrArg (fun b => decode b 67) cd137).trans (by decide +kernel)
theorem d137_70 : decode (vm_cd 137) 70 = .ok (.invokevirtual 149, 3) := (congrArg (fun b => decode b 70) cd137).trans (by decide +kernel)
theorem d137_73 : decode (vm_cd 137) 73 = .ok (.lmul, 1) := (congrArg (fun b => decode b 73) cd137).trans (by decide +kernel)
theorem d137_74 : decode (vm_cd 137) 74 = .ok (.iload 4, 2) := (congrArg (fun b => decode b 74) cd137).trans (by decide +kernel)
theorem d137_76 : decode (vm_cd 137) 76 = .ok (.invokestatic 152, 3) := (congrArg (fun b => decode b 76) cd137).trans (by decide +kernel)
theorem d137_79 : decode (vm_cd 137) 79 = .ok (.goto 23, 3) := (congrArg (fun b => decode b 79) cd137).trans (by decide +kernel)
theorem d137_82 : decode (vm_cd 137) 82 = .ok (.aload_n 0, 1) := (congrArg (fun b => decode b 82) cd137).trans (by decide +kernel)
theorem d137_83 : decode (vm_cd 137) 83 = .ok (.getfield 29, 3) := (congrArg (fun b => decode b 83) cd137).trans (by decide +kernel)
theorem d137_86 : decode (vm_cd 137) 86 = .ok (.iload_n 3, 1) := (congrArg (fun b => decode b 86) cd137).trans (by decide +kernel)
theorem d137_87 : decode (vm_cd 137) 87 = .ok (.invokevirtual 156, 3) := (congrArg (fun b => decode b 87) cd137).trans (by decide +kernel)
theorem d137_90 : decode (vm_cd 137) 90 = .ok (.aload_n 0, 1) := (congrArg (fun b => decode b 90) cd137).trans (by decide +kernel)
theorem d137_91 : decode (vm_cd 137) 91 = .ok (.getfield 29, 3) := (congrArg (fun b => decode b 91) cd137).trans (by decide +kernel)
theorem d137_94 : decode (vm_cd 137) 94 = .ok (.invokevirtual 149, 3) := (congrArg (fun b => decode b 94) cd137).trans (by decide +kernel)
theorem d137_97 : decode (vm_cd 137) 97 = .ok (.iload 4, 2) := (congrArg (fun b => decode b 97) cd137).trans (by decide +kernel)
theorem d137_99 : decode (vm_cd 137) 99 = .ok (.invokestatic 152, 3) := (congrArg (fun b => decode b 99) cd137).trans (by decide +kernel)
theorem d137_102 : decode (vm_cd 137) 102 = .ok (.lreturn, 1) := (congrArg (fun b => decode b 102) cd137).trans (by decide +kernel)
theorem f137_22 : vm_fl.lookup (vm_own 137, 22) = some (10, 0, 250) := by decide +kernel
theorem f137_29 : vm_fl.lookup (vm_own 137, 29) = some (10, 1, 251) := by decide +kernel
theorem c137_104 : vm_ml.lookup (vm_own 137, 104) = some (0, 5, 1, 306, 307, 381, 2) := vm_lk (by decide +kernel)
theorem c137_117 : vm_ml.lookup (vm_own 137, 117) = some (0, 6, 1, 329, 330, 404, 2) := vm_lk (by decide +kernel)
theorem c137_136 : vm_ml.lookup (vm_own 137, 136) = some (1, 181, 1, 391, 392, 0, 1) := vm_lk (by decide +kernel)
theorem c137_139 : vm_ml.lookup (vm_own 137, 139) = some (0, 175, 2, 394, 396, 1, 1) := vm_lk (by decide +kernel)
theorem c137_143 : vm_ml.lookup (vm_own 137, 143) = some (0, 95, 0, 458, 459, 533, 4) := vm_lk (by decide +kernel)
theorem c137_149 : vm_ml.lookup (vm_own 137, 149) = some (0, 97, 0, 463, 464, 538, 4) := vm_lk (by decide +kernel)
theorem c137_152 : vm_ml.lookup (vm_own 137, 152) = some (1, 182, 3, 467, 468, 0, 1) := vm_lk (by decide +kernel)
theorem c137_156 : vm_ml.lookup (vm_own 137, 156) = some (0, 96, 1, 476, 477, 551, 4) := vm_lk (by decide +kernel)
theorem g137_130 : vm_cn.lookup (vm_own 137, 130) = some ((1), (-9223372036854775808), (365)) := by decide +kernel
theorem g137_147 : vm_cn.lookup (vm_own 137, 147) = some ((1), (12), (462)) := by decide +kernel
theorem r137 : vm_rt 137 = (some .long) := by decide +kernel
theorem B_X_least_0 {X : vX} {d : Nat} {M : vM} {Q : Option vV → vM → Prop} {l1 l2 l3 l4 : Int} (hR : vRefs M)  (k : cq X d 5 [vR 1, vI l1] M (fun r M1 => wp X d 137 8 [vR 0, vI l1, vI l2, vI l3, vI l4] (r.toList ++ []) (vS0, M1) (vP Q))) : vw X d 137 0 [vR 0, vI l1, vI l2, vI l3, vI l4] [] M Q := by
  refine w_aload_n d137_0 rfl ?_
  refine w_getf (a := 0) (v := vR 1) d137_1 f137_22 rfl rfl (congrArg vR (rf_0_0 hR)) ?_
  refine w_iload_n d137_4 rfl ?_
  exact w_inv0 (a := 1) (c := 0) d137_5 c137_104 rfl rfl rfl v5 (Nat.le_of_ble_eq_true rfl) (cq.cl (k))
theorem B_X_least_8 {X : vX} {d : Nat} {M : vM} {Q : Option vV → vM → Prop} {l1 l2 l3 l4 s0 : Int}  (k1 : s0 = 0 → vw X d 137 34 [vR 0, vI l1, vI l2, vI l3, vI l4] [] M Q) (k2 : ¬ s0 = 0 → vw X d 137 11 [vR 0, vI l1, vI l2, vI l3, vI l4] [] M Q) : vw X d 137 8 [vR 0, vI l1, vI l2, vI l3, vI l4] [vI s0] M Q := by
  exact w_if_eq d137_8 rfl (fun h => k1 h) (fun h => k2 h)
theorem B_X_least_11 {X : vX} {d : Nat} {M : vM} {Q : Option vV → vM → Prop} {l1 l2 l3 l4 : Int}  (k : cq X d 181 [vI l2] M (fun r M1 => wp X d 137 15 [vR 0, vI l1, vI l2, vI l3, vI l4] (r.toList ++ []) (vS0, M1) (vP Q))) : vw X d 137 11 [vR 0, vI l1, vI l2, vI l3, vI l4] [] M Q := by
  refine w_iload_n d137_11 rfl ?_
  exact w_inv1 d137_12 c137_136 (by decide) rfl (Nat.le_of_ble_eq_true rfl) (cq.cl (k))
theorem B_X_least_15 {X : vX} {d : Nat} {M : vM} {Q : Option vV → vM → Prop} {l1 l2 l3 l4 s0 : Int}  (k1 : s0 = 0 → vw X d 137 34 [vR 0, vI l1, vI l2, vI l3, vI l4] [] M Q) (k2 : ¬ s0 = 0 → vw X d 137 18 [vR 0, vI l1, vI l2, vI l3, vI l4] [] M Q) : vw X d 137 15 [vR 0, vI l1, vI l2, vI l3, vI l4] [vI s0] M Q := by
  exact w_if_eq d137_15 rfl (fun h => k1 h) (fun h => k2 h)
theorem B_X_least_18 {X : vX} {d : Nat} {M : vM} {Q : Option vV → vM → Prop} {l1 l2 l3 l4 : Int}  (k1 : l3 = ((-1)) → vw X d 137 38 [vR 0, vI l1, vI l2, vI l3, vI l4] [] M Q) (k2 : ¬ l3 = ((-1)) → vw X d 137 23 [vR 0, vI l1, vI l2, vI l3, vI l4] [] M Q) : vw X d 137 18 [vR 0, vI l1, vI l2, vI l3, vI l4] [] M Q := by
  refine w_iload_n d137_18 rfl ?_
  refine w_ic (v := (-1)) d137_19 rfl ?_
  exact w_icmp_eq d137_20 rfl (fun h => k1 h) (fun h => k2 h)
theorem B_X_least_23 {X : vX} {d : Nat} {M : vM} {Q : Option vV → vM → Prop} {l1 l2 l3 l4 : Int} (hR : vRefs M)  (k : cq X d 6 [vR 1, vI l3] M (fun r M1 => wp X d 137 31 [vR 0, vI l1, vI l2, vI l3, vI l4] (r.toList ++ []) (vS0, M1) (vP Q))) : vw X d 137 23 [vR 0, vI l1, vI l2, vI l3, vI l4] [] M Q := by
  refine w_aload_n d137_23 rfl ?_
  refine w_getf (a := 0) (v := vR 1) d137_24 f137_22 rfl rfl (congrArg vR (rf_0_0 hR)) ?_
  refine w_iload_n d137_27 rfl ?_
  exact w_inv0 (a := 1) (c := 0) d137_28 c137_117 rfl rfl rfl v6 (Nat.le_of_ble_eq_true rfl) (cq.cl (k))
theorem B_X_least_31 {X : vX} {d : Nat} {M : vM} {Q : Option vV → vM → Prop} {l1 l2 l3 l4 s0 : Int}  (k1 : ¬ s0 = 0 → vw X d 137 38 [vR 0, vI l1, vI l2, vI l3, vI l4] [] M Q) (k2 : s0 = 0 → vw X d 137 34 [vR 0, vI l1, vI l2, vI l3, vI l4] [] M Q) : vw X d 137 31 [vR 0, vI l1, vI l2, vI l3, vI l4] [vI s0] M Q := by
  exact w_if_ne d137_31 rfl (fun h => k1 h) (fun h => k2 h)
theorem B_X_least_34 {X : vX} {d : Nat} {M : vM} {Q : Option vV → vM → Prop} {l1 l2 l3 l4 : Int}  (k : Q (some (vL ((-9223372036854775808)))) M) : vw X d 137 34 [vR 0, vI l1, vI l2, vI l3, vI l4] [] M Q := by
  refine w_ldc2_w (v := (-9223372036854775808)) d137_34 g137_130 rfl ?_
  exact w_lret d137_37 r137 ⟨_, rfl, k⟩
theorem B_X_least_38 {X : vX} {d : Nat} {M : vM} {Q : Option vV → vM → Prop} {l1 l2 l3 l4 : Int}  (k : cq X d 175 [vR 0, vI l1, vI l2] M (fun r M1 => wp X d 137 44 [vR 0, vI l1, vI l2, vI l3, vI l4] (r.toList ++ []) (vS0, M1) (vP Q))) : vw X d 137 38 [vR 0, vI l1, vI l2, vI l3, vI l4] [] M Q := by
  refine w_aload_n d137_38 rfl ?_
  refine w_iload_n d137_39 rfl ?_
  refine w_iload_n d137_40 rfl ?_
  exact w_inv0 (a := 0) (c := 10) d137_41 c137_139 rfl rfl rfl v175 (Nat.le_of_ble_eq_true rfl) (cq.cl (k))
theorem B_X_least_44 {X : vX} {d : Nat} {M : vM} {Q : Option vV → vM → Prop} {l1 l2 l3 l4 s0 : Int}  (k1 : ¬ s0 = 0 → vw X d 137 51 [vR 0, vI l1, vI l2, vI l3, vI l4] [] M Q) (k2 : s0 = 0 → vw X d 137 47 [vR 0, vI l1, vI l2, vI l3, vI l4] [] M Q) : vw X d 137 44 [vR 0, vI l1, vI l2, vI l3, vI l4] [vI s0] M Q := by
  exact w_if_ne d137_44 rfl (fun h => k1 h) (fun h => k2 h)
theorem B_X_least_47 {X : vX} {d : Nat} {M : vM} {Q : Option vV → vM → Prop} {l1 l2 l3 l4 : Int}  (k : Q (some (vL ((-9223372036854775808)))) M) : vw X d 137 47 [vR 0, vI l1, vI l2, vI l3, vI l4] [] M Q := by
  refine w_ldc2_w (v := (-9223372036854775808)) d137_47 g137_130 rfl ?_
  exact w_lret d137_50 r137 ⟨_, rfl, k⟩
theorem B_X_least_51 {X : vX} {d : Nat} {M : vM} {Q : Option vV → vM → Prop} {l1 l2 l3 l4 : Int}  (k1 : ¬ l3 = ((-1)) → vw X d 137 82 [vR 0, vI l1, vI l2, vI l3, vI l4] [] M Q) (k2 : l3 = ((-1)) → vw X d 137 56 [vR 0, vI l1, vI l2, vI l3, vI l4] [] M Q) : vw X d 137 51 [vR 0, vI l1, vI l2, vI l3, vI l4] [] M Q := by
  refine w_iload_n d137_51 rfl ?_
  refine w_ic (v := (-1)) d137_52 rfl ?_
  exact w_icmp_ne d137_53 rfl (fun h => k1 h) (fun h => k2 h)
theorem B_X_least_56 {X : vX} {d : Nat} {M : vM} {Q : Option vV → vM → Prop} {l1 l2 l3 l4 : Int} (hR : vRefs M)  (k : cq X d 95 [vR 13] M (fun r M1 => wp X d 137 63 [vR 0, vI l1, vI l2, vI l3, vI l4] (r.toList ++ []) (vS0, M1) (vP Q))) : vw X d 137 56 [vR 0, vI l1, vI l2, vI l3, vI l4] [] M Q := by
  refine w_aload_n d137_56 rfl ?_
  refine w_getf (a := 0) (v := vR 13) d137_57 f137_29 rfl rfl (congrArg vR (rf_0_1 hR)) ?_
  exact w_inv0 (a := 13) (c := 6) d137_60 c137_143 rfl rfl rfl v95 (Nat.le_of_ble_eq_true rfl) (cq.cl (k))
theorem B_X_least_63 {X : vX} {d : Nat} {M : vM} {Q : Option vV → vM → Prop} {l1 l2 l3 l4 s0 : Int} (hR : vRefs M)  (k : cq X d 97 [vR 13] M (fun r M1 => wp X d 137 73 [vR 0, vI l1, vI l2, vI l3, vI l4] (r.toList ++ [vL 12, vL s0]) (vS0, M1) (vP Q))) : vw X d 137 63 [vR 0, vI l1, vI l2, vI l3, vI l4] [vL s0] M Q := by
  refine w_ldc2_w (v := 12) d137_63 g137_147 rfl ?_
  refine w_aload_n d137_66 rfl ?_
  refine w_getf (a := 0) (v := vR 13) d137_67 f137_29 rfl rfl (congrArg vR (rf_0_1 hR)) ?_
  exact w_inv0 (a := 13) (c := 6) d137_70 c137_149 rfl rfl rfl v97 (Nat.le_of_ble_eq_true rfl) (cq.cl (k))
theorem B_X_least_73 {X : vX} {d : Nat} {M : vM} {Q : Option vV → vM → Prop} {l1 l2 l3 l4 s0 s1 s2 : Int}  (k : cq X d 182 [vL s0, vL (w64 (s1 * s2)), vI l4] M (fun r M1 => wp X d 137 79 [vR 0, vI l1, vI l2, vI l3, vI l4] (r.toList ++ []) (vS0, M1) (vP Q))) : vw X d 137 73 [vR 0, vI l1, vI l2, vI l3, vI l4] [vL s2, vL s1, vL s0] M Q := by
  refine w_lmul d137_73 ?_
  refine w_iload d137_74 rfl ?_
  exact w_inv1 d137_76 c137_152 (by decide) rfl (Nat.le_of_ble_eq_true rfl) (cq.cl (k))
theorem B_X_least_79 {X : vX} {d : Nat} {M : vM} {Q : Option vV → vM → Prop} {l1 l2 l3 l4 s0 : Int}  (k : Q (some (vL s0)) M) : vw X d 137 79 [vR 0, vI l1, vI l2, vI l3, vI l4] [vL s0] M Q := by
  refine w_goto (tgt := 102) d137_79 rfl ?_
  exact w_lret d137_102 r137 ⟨_, rfl, k⟩
theorem B_X_least_82 {X : vX} {d : Nat} {M : vM} {Q : Option vV → vM → Prop} {l1 l2 l3 l4 : Int} (hR : vRefs M)  (k : cq X d 96 [vR 13, vI l3] M (fun r M1 => wp X d 137 90 [vR 0, vI l1, vI l2, vI l3, vI l4] (r.toList ++ []) (vS0, M1) (vP Q))) : vw X d 137 82 [vR 0, vI l1, vI l2, vI l3, vI l4] [] M Q := by
  refine w_aload_n d137_82 rfl ?_
  refine w_getf (a := 0) (v := vR 13) d137_83 f137_29 rfl rfl (congrArg vR (rf_0_1 hR)) ?_
  refine w_iload_n d137_86 rfl ?_
  exact w_inv0 (a := 13) (c := 6) d137_87 c137_156 rfl rfl rfl v96 (Nat.le_of_ble_eq_true rfl) (cq.cl (k))
theorem B_X_least_90 {X : vX} {d : Nat} {M : vM} {Q : Option vV → vM → Prop} {l1 l2 l3 l4 s0 : Int} (hR : vRefs M)  (k : cq X d 97 [vR 13] M (fun r M1 => wp X d 137 97 [vR 0, vI l1, vI l2, vI l3, vI l4] (r.toList ++ [vL s0]) (vS0, M1) (vP Q))) : vw X d 137 90 [vR 0, vI l1, vI l2, vI l3, vI l4] [vL s0] M Q := by
  refine w_aload_n d137_90 rfl ?_
  refine w_getf (a := 0) (v := vR 13) d137_91 f137_29 rfl rfl (congrArg vR (rf_0_1 hR)) ?_
  exact w_inv0 (a := 13) (c := 6) d137_94 c137_149 rfl rfl rfl v97 (Nat.le_of_ble_eq_true rfl) (cq.cl (k))
theorem B_X_least_97 {X : vX} {d : Nat} {M : vM} {Q : Option vV → vM → Prop} {l1 l2 l3 l4 s0 s1 : Int}  (k : cq X d 182 [vL s0, vL s1, vI l4] M (fun r M1 => wp X d 137 102 [vR 0, vI l1, vI l2, vI l3, vI l4] (r.toList ++ []) (vS0, M1) (vP Q))) : vw X d 137 97 [vR 0, vI l1, vI l2, vI l3, vI l4] [vL s1, vL s0] M Q := by
  refine w_iload d137_97 rfl ?_
  exact w_inv1 d137_99 c137_152 (by decide) rfl (Nat.le_of_ble_eq_true rfl) (cq.cl (k))
theorem B_X_least_102 {X : vX} {d : Nat} {M : vM} {Q : Option vV → vM → Prop} {l1 l2 l3 l4 s0 : Int}  (k : Q (some (vL s0)) M) : vw X d 137 102 [vR 0, vI l1, vI l2, vI l3, vI l4] [vL s0] M Q := by
  exact w_lret d137_102 r137 ⟨_, rfl, k⟩
theorem E_X_least {X : vX} {d : Nat} {M : vM} {Q : Option vV → vM → Prop} {l1 l2 l3 l4 : Int} (k : vw X d 137 0 [vR 0, vI l1, vI l2, vI l3, vI l4] [] M Q) : cq X (d + 1) 137 [vR 0, vI l1, vI l2, vI l3, vI l4] M Q := wc_in (Nat.le_of_ble_eq_true rfl) (Nat.le_of_ble_eq_true rfl) k
theorem cd138 : vm_cd 138 = cX11_proof := rfl
theorem d138_0 : decode (vm_cd 138) 0 = .ok (.aload_n 0, 1) := (congrArg (fun b => decode b 0) cd138).trans (by decide +kernel)
theorem d138_1 : decode (vm_cd 138) 1 = .ok (.getfield 22, 3) := (congrArg (fun b => decode b 1) cd138).trans (by decide +kernel)
theorem d138_4 : decode (vm_cd 138) 4 = .ok (.iload_n 1, 1) := (congrArg (fun b => decode b 4) cd138).trans (by decide +kernel)
theorem d138_5 : decode (vm_cd 138) 5 = .ok (.invokevirtual 104, 3) := (congrArg (fun b => decode b 5) cd138).trans (by decide +kernel)
theorem d138_8 : decode (vm_cd 138) 8 = .ok (.ifCond .eq 31, 3) := (congrArg (fun b => decode b 8) cd138).trans (by decide +kernel)
theorem d138_11 : decode (vm_cd 138) 11 = .ok (.iload_n 2, 1) := (congrArg (fun b => decode b 11) cd138).trans (by decide +kernel)
theorem d138_12 : decode (vm_cd 138) 12 = .ok (.invokestatic 111, 3) := (congrArg (fun b => decode b 12) cd138).trans (by decide +kernel)
theorem d138_15 : decode (vm_cd 138) 15 = .ok (.ifCond .eq 24, 3) := (congrArg (fun b => decode b 15) cd138).trans (by decide +kernel)
theorem d138_18 : decode (vm_cd 138) 18 = .ok (.iload_n 3, 1) := (congrArg (fun b => decode b 18) cd138).trans (by decide +kernel)
theorem d138_19 : decode (vm_cd 138) 19 = .ok (.iload_n 1, 1) := (congrArg (fun b => decode b 19) cd138).trans (by decide +kernel)
theorem d138_20 : decode (vm_cd 138) 20 = .ok (.if_icmp .eq 19, 3) := (congrArg (fun b => decode b 20) cd138).trans (by decide +kernel)
theorem d138_23 : decode (vm_cd 138) 23 = .ok (.iload_n 3, 1) := (congrArg (fun b => decode b 23) cd138).trans (by decide +kernel)
theorem d138_24 : decode (vm_cd 138) 24 = .ok (.iconst (-1), 1) := (congrArg (fun b => decode b 24) cd138).trans (by decide +kernel)
theorem d138_25 : decode (vm_cd 138) 25 = .ok (.if_icmp .eq 18, 3) := (congrArg (fun b => decode b 25) cd138).trans (by decide +kernel)
theorem d138_28 : decode (vm_cd 138) 28 = .ok (.aload_n 0, 1) := (congrArg (fun b => decode b 28) cd138).trans (by decide +kernel)
theorem d138_29 : decode (vm_cd 138) 29 = .ok (.getfield 22, 3) := (congrArg (fun b => decode b 29) cd138).trans (by decide +kernel)
theorem d138_32 : decode (vm_cd 138) 32 = .ok (.iload_n 3, 1) := (congrArg (fun b => decode b 32) cd138).trans (by decide +kernel)
theorem d138_33 : decode (vm_cd 138) 33 = .ok (.invokevirtual 104, 3) := (congrArg (fun b => decode b 33) cd138).trans (by decide +kernel)
theorem d138_36 : decode (vm_cd 138) 36 = .ok (.ifCond .ne 7, 3) := (congrArg (fun b => decode b 36) cd138).trans (by decide +kernel)
theorem d138_39 : decode (vm_cd 138) 39 = .ok (.ldc2_w 130, 3) := (congrArg (fun b => decode b 39) cd138).trans (by decide +kernel)
theorem d138_42 : decode (vm_cd 138) 42 = .ok (.lreturn, 1) := (congrArg (fun b => decode b 42) cd138).trans (by decide +kernel)
theorem d138_43 : decode (vm_cd 138) 43 = .ok (.aload_n 0, 1) := (congrArg (fun b => decode b 43) cd138).trans (by decide +kernel)
theorem d138_44 : decode (vm_cd 138) 44 = .ok (.iload_n 1, 1) := (congrArg (fun b => decode b 44) cd138).trans (by decide +kernel)
theorem d138_45 : decode (vm_cd 138) 45 = .ok (.iconst 1, 1) := (congrArg (fun b => decode b 45) cd138).trans (by decide +kernel)
theorem d138_46 : decode (vm_cd 138) 46 = .ok (.iload_n 2, 1) := (congrArg (fun b => decode b 46) cd138).trans (by decide +kernel)
theorem d138_47 : decode (vm_cd 138) 47 = .ok (.ishl, 1) := (congrArg (fun b => decode b 47) cd138).trans (by decide +kernel)
theorem d138_48 : decode (vm_cd 138) 48 = .ok (.invokevirtual 139, 3) := (congrArg (fun b => decode b 48) cd138).trans (by decide +kernel)
theorem d138_51 : decode (vm_cd 138) 51 = .ok (.ifCond .eq 7, 3) := (congrArg (fun b => decode b 51) cd138).trans (by decide +kernel)
theorem d138_54 : decode (vm_cd 138) 54 = .ok (.ldc2_w 130, 3) := (congrArg (fun b => decode b 54) cd138).trans (by decide +kernel)
theorem d138_57 : decode (vm_cd 138) 57 = .ok (.lreturn, 1) := (congrArg (fun b => decode b 57) cd138).trans (by decide +kernel)
theorem d138_58 : decode (vm_cd 138) 58 = .ok (.aload_n 0, 1) := (congrArg (fun b => decode b 58) cd138).trans (by decide +kernel)
theorem d138_59 : decode (vm_cd 138) 59 = .ok (.getfield 22, 3) := (congrArg (fun b => decode b 59) cd138).trans (by decide +kernel)
theorem d138_62 : decode (vm_cd 138) 62 = .ok (.aload_n 0, 1) := (congrArg (fun b => decode b 62) cd138).trans (by decide +kernel)
theorem d138_63 : decode (vm_cd 138) 63 = .ok (.getfield 29, 3) := (congrArg (fun b => decode b 63) cd138).trans (by decide +kernel)
theorem d138_66 : decode (vm_cd 138) 66 = .ok (.iload_n 1, 1) := (congrArg (fun b => decode b 66) cd138).trans (by decide +kernel)
theorem d138_67 : decode (vm_cd 138) 67 = .ok (.iload_n 2, 1) := (congrArg (fun b => decode b 67) cd138).trans (by decide +kernel)
theorem d138_68 : decode (vm_cd 138) 68 = .ok (.invokevirtual 160, 3) := (congrArg (fun b => decode b 68) cd138).trans (by decide +kernel)
theorem d138_71 : decode (vm_cd 138) 71 = .ok (.aload_n 0, 1) := (congrArg (fun b => decode b 71) cd138).trans (by decide +kernel)
theorem d138_72 : decode (vm_cd 138) 72 = .ok (.getfield 29, 3) := (congrArg (fun b => decode b 72) cd138).trans (by decide +kernel)
theorem d138_75 : decode (vm_cd 138) 75 = .ok (.invokevirtual 164, 3) := (congrArg (fun b => decode b 75) cd138).trans (by decide +kernel)
theorem d138_78 : decode (vm_cd 138) 78 = .ok (.ifCond .ne 7, 3) := (congrArg (fun b => decode b 78) cd138).trans (by decide +kernel)
theorem d138_81 : decode (vm_cd 138) 81 = .ok (.ldc2_w 130, 3) := (congrArg (fun b => decode b 81) cd138).trans (by decide +kernel)
theorem d138_84 : decode (vm_cd 138) 84 = .ok (.lreturn, 1) := (congrArg (fun b => decode b 84) cd138).trans (by decide +kernel)
theorem d138_85 : decode (vm_cd 138) 85 = .ok (.iload_n 3, 1) := (congrArg (fun b => decode b 85) cd138).trans (by decide +kernel)
theorem d138_86 : decode (vm_cd 138) 86 = .ok (.iconst (-1), 1) := (congrArg (fun b => decode b 86) cd138).trans (by decide +kernel)
theorem d138_87 : decode (vm_cd 138) 87 = .ok (.if_icmp .ne 25, 3) := (congrArg (fun b => decode b 87) cd138).trans (by decide +kernel)
theorem d138_90 : decode (vm_cd 138) 90 = .ok (.aload_n 0, 1) := (congrArg (fun b => decode b 90) cd138).trans (by decide +kernel)
theorem d138_91 : decode (vm_cd 138) 91 = .ok (.getfield 29, 3) := (congrArg (fun b => decode b 91) cd138).trans (by decide +kernel)
theorem d138_94 : decode (vm_cd 138) 94 = .ok (.invokevirtual 143, 3) := (congrArg (fun b => decode b 94) cd138).trans (by decide +kernel)
theorem d138_97 : decode (vm_cd 138) 97 = .ok (.aload_n 0, 1) := (congrArg (fun b => decode b 97) cd138).trans (by decide +kernel)
theorem d138_98 : decode (vm_cd 138) 98 = .ok (.getfield 29, 3) := (congrArg (fun b => decode b 98) cd138).trans (by decide +kernel)
theorem d138_101 : decode (vm_cd 138) 101 = .ok (.invokevirtual 149, 3) := (congrArg (fun b => decode b 101) cd138).trans (by decide +kernel)
theorem d138_104 : decode (vm_cd 138) 104 = .ok (.iload 4, 2) := (congrArg (fun b => decode b 104) cd138).trans (by decide +kernel)
theorem d138_106 : decode (vm_cd 138) 106 = .ok (.invokestatic 152, 3) := (congrArg (fun b => decode b 106) cd138).trans (by decide +kernel)
theorem d138_109 : decode (vm_cd 138) 109 = .ok (.goto 27, 3) := (congrArg (fun b => decode b 109) cd138).trans (by decide +kernel)
theorem d138_112 : decode (vm_cd 138) 112 = .ok (.aload_n 0, 1) := (congrArg (fun b => decode b 112) cd138).trans (by decide +kernel)
theorem d138_113 : decode (vm_cd 138) 113 = .ok (.getfield 29, 3) := (congrArg (fun b => decode b 113) cd138).trans (by decide +kernel)
theorem d138_116 : decode (vm_cd 138) 116 = .ok (.iload_n 1, 1) := (congrArg (fun b => decode b 116) cd138).trans (by decide +kernel)
theorem d138_117 : decode (vm_cd 138) 117 = .ok (.iload_n 3, 1) := (congrArg (fun b => decode b 117) cd138).trans (by decide +kernel)
theorem d138_118 : decode (vm_cd 138) 118 = .ok (.invokestatic 167, 3) := (congrArg (fun b => decode b 118) cd138).trans (by decide +kernel)
theorem d138_121 : decode (vm_cd 138) 121 = .ok (.invokevirtual 156, 3) := (congrArg (fun b => decode b 121) cd138).trans (by decide +kernel)
theorem d138_124 : decode (vm_cd 138) 124 = .ok (.aload_n 0, 1) := (congrArg (fun b => decode b 124) cd138).trans (by decide +kernel)
theorem d138_125 : decode (vm_cd 138) 125 = .ok (.getfield 29, 3) := (congrArg (fun b => decode b 125) cd138).trans (by decide +kernel)
theorem d138_128 : decode (vm_cd 138) 128 = .ok (.invokevirtual 149, 3) := (congrArg (fun b => decode b 128) cd138).trans (by decide +kernel)
theorem d138_131 : decode (vm_cd 138) 131 = .ok (.iload 4, 2) := (congrArg (fun b => decode b 131) cd138).trans (by decide +kernel)
theorem d138_133 : decode (vm_cd 138) 133 = .ok (.invokestatic 152, 3) := (congrArg (fun b => decode b 133) cd138).trans (by decide +kernel)
theorem d138_136 : decode (vm_cd 138) 136 = .ok (.lreturn, 1) := (congrArg (fun b => decode b 136) cd138).trans (by decide +kernel)
theorem f138_22 : vm_fl.lookup (vm_own 138, 22) = some (10, 0, 250) := by decide +kernel
theorem f138_29 : vm_fl.lookup (vm_own 138, 29) = some (10, 1, 251) := by decide +kernel
theorem c138_104 : vm_ml.lookup (vm_own 138, 104) = some (0, 5, 1, 306, 307, 381, 2) := vm_lk (by decide +kernel)
theorem c138_111 : vm_ml.lookup (vm_own 138, 111) = some (1, 180, 1, 318, 319, 0, 1) := vm_lk (by decide +kernel)
theorem c138_139 : vm_ml.lookup (vm_own 138, 139) = some (0, 175, 2, 394, 396, 1, 1) := vm_lk (by decide +kernel)
theorem c138_143 : vm_ml.lookup (vm_own 138, 143) = some (0, 95, 0, 458, 459, 533, 4) := vm_lk (by decide +kernel)
theorem c138_149 : vm_ml.lookup (vm_own 138, 149) = some (0, 97, 0, 463, 464, 538, 4) := vm_lk (by decide +kernel)
theorem c138_152 : vm_ml.lookup (vm_own 138, 152) = some (1, 182, 3, 467, 468, 0, 1) := vm_lk (by decide +kernel)
theorem c138_156 : vm_ml.lookup (vm_own 138, 156) = some (0, 96, 1, 476, 477, 551, 4) := vm_lk (by decide +kernel)
theorem c138_160 : vm_ml.lookup (vm_own 138, 160) = some (0, 24, 3, 484, 485, 559, 2) := vm_lk (by decide +kernel)
theorem c138_164 : vm_ml.lookup (vm_own 138, 164) = some (0, 90, 0, 433, 434, 508, 4) := vm_lk (by decide +kernel)
theorem c138_167 : vm_ml.lookup (vm_own 138, 167) = some (1, 26, 2, 495, 489, 0, 2) := vm_lk (by decide +kernel)
theorem g138_130 : vm_cn.lookup (vm_own 138, 130) = some ((1), (-9223372036854775808), (365)) := by decide +kernel
theorem r138 : vm_rt 138 = (some .long) := by decide +kernel
theorem B_X_proof_0 {X : vX} {d : Nat} {M : vM} {Q : Option vV → vM → Prop} {l1 l2 l3 l4 : Int} (hR : vRefs M)  (k : cq X d 5 [vR 1, vI l1] M (fun r M1 => wp X d 138 8 [vR 0, vI l1, vI l2, vI l3, vI l4] (r.toList ++ []) (vS0, M1) (vP Q))) : vw X d 138 0 [vR 0, vI l1, vI l2, vI l3, vI l4] [] M Q := by
  refine w_aload_n d138_0 rfl ?_
  refine w_getf (a := 0) (v := vR 1) d138_1 f138_22 rfl rfl (congrArg vR (rf_0_0 hR)) ?_
  refine w_iload_n d138_4 rfl ?_
  exact w_inv0 (a := 1) (c := 0) d138_5 c138_104 rfl rfl rfl v5 (Nat.le_of_ble_eq_true rfl) (cq.cl (k))
theorem B_X_proof_8 {X : vX} {d : Nat} {M : vM} {Q : Option vV → vM → Prop} {l1 l2 l3 l4 s0 : Int}  (k1 : s0 = 0 → vw X d 138 39 [vR 0, vI l1, vI l2, vI l3, vI l4] [] M Q) (k2 : ¬ s0 = 0 → vw X d 138 11 [vR 0, vI l1, vI l2, vI l3, vI l4] [] M Q) : vw X d 138 8 [vR 0, vI l1, vI l2, vI l3, vI l4] [vI s0] M Q := by
  exact w_if_eq d138_8 rfl (fun h => k1 h) (fun h => k2 h)
theorem B_X_proof_11 {X : vX} {d : Nat} {M : vM} {Q : Option vV → vM → Prop} {l1 l2 l3 l4 : Int}  (k : cq X d 180 [vI l2] M (fun r M1 => wp X d 138 15 [vR 0, vI l1, vI l2, vI l3, vI l4] (r.toList ++ []) (vS0, M1) (vP Q))) : vw X d 138 11 [vR 0, vI l1, vI l2, vI l3, vI l4] [] M Q := by
  refine w_iload_n d138_11 rfl ?_
  exact w_inv1 d138_12 c138_111 (by decide) rfl (Nat.le_of_ble_eq_true rfl) (cq.cl (k))
theorem B_X_proof_15 {X : vX} {d : Nat} {M : vM} {Q : Option vV → vM → Prop} {l1 l2 l3 l4 s0 : Int}  (k1 : s0 = 0 → vw X d 138 39 [vR 0, vI l1, vI l2, vI l3, vI l4] [] M Q) (k2 : ¬ s0 = 0 → vw X d 138 18 [vR 0, vI l1, vI l2, vI l3, vI l4] [] M Q) : vw X d 138 15 [vR 0, vI l1, vI l2, vI l3, vI l4] [vI s0] M Q := by
  exact w_if_eq d138_15 rfl (fun h => k1 h) (fun h => k2 h)
theorem B_X_proof_18 {X : vX} {d : Nat} {M : vM} {Q : Option vV → vM → Prop} {l1 l2 l3 l4 : Int}  (k1 : l3 = l1 → vw X d 138 39 [vR 0, vI l1, vI l2, vI l3, vI l4] [] M Q) (k2 : ¬ l3 = l1 → vw X d 138 23 [vR 0, vI l1, vI l2, vI l3, vI l4] [] M Q) : vw X d 138 18 [vR 0, vI l1, vI l2, vI l3, vI l4] [] M Q := by
  refine w_iload_n d138_18 rfl ?_
  refine w_iload_n d138_19 rfl ?_
  exact w_icmp_eq d138_20 rfl (fun h => k1 h) (fun h => k2 h)
theorem B_X_proof_23 {X : vX} {d : Nat} {M : vM} {Q : Option vV → vM → Prop} {l1 l2 l3 l4 : Int}  (k1 : l3 = ((-1)) → vw X d 138 43 [vR 0, vI l1, vI l2, vI l3, vI l4] [] M Q) (k2 : ¬ l3 = ((-1)) → vw X d 138 28 [vR 0, vI l1, vI l2, vI l3, vI l4] [] M Q) : vw X d 138 23 [vR 0, vI l1, vI l2, vI l3, vI l4] [] M Q := by
  refine w_iload_n d138_23 rfl ?_
  refine w_ic (v := (-1)) d138_24 rfl ?_
  exact w_icmp_eq d138_25 rfl (fun h => k1 h) (fun h => k2 h)
theorem B_X_proof_28 {X : vX} {d : Nat} {M : vM} {Q : Option vV → vM → Prop} {l1 l2 l3 l4 : Int} (hR : vRefs M)  (k : cq X d 5 [vR 1, vI l3] M (fun r M1 => wp X d 138 36 [vR 0, vI l1, vI l2, vI l3, vI l4] (r.toList ++ []) (vS0, M1) (vP Q))) : vw X d 138 28 [vR 0, vI l1, vI l2, vI l3, vI l4] [] M Q := by
  refine w_aload_n d138_28 rfl ?_
  refine w_getf (a := 0) (v := vR 1) d138_29 f138_22 rfl rfl (congrArg vR (rf_0_0 hR)) ?_
  refine w_iload_n d138_32 rfl ?_
  exact w_inv0 (a := 1) (c := 0) d138_33 c138_104 rfl rfl rfl v5 (Nat.le_of_ble_eq_true rfl) (cq.cl (k))
theorem B_X_proof_36 {X : vX} {d : Nat} {M : vM} {Q : Option vV → vM → Prop} {l1 l2 l3 l4 s0 : Int}  (k1 : ¬ s0 = 0 → vw X d 138 43 [vR 0, vI l1, vI l2, vI l3, vI l4] [] M Q) (k2 : s0 = 0 → vw X d 138 39 [vR 0, vI l1, vI l2, vI l3, vI l4] [] M Q) : vw X d 138 36 [vR 0, vI l1, vI l2, vI l3, vI l4] [vI s0] M Q := by
  exact w_if_ne d138_36 rfl (fun h => k1 h) (fun h => k2 h)
theorem B_X_proof_39 {X : vX} {d : Nat} {M : vM} {Q : Option vV → vM → Prop} {l1 l2 l3 l4 : Int}  (k : Q (some (vL ((-9223372036854775808)))) M) : vw X d 138 39 [vR 0, vI l1, vI l2, vI l3, vI l4] [] M Q := by
  refine w_ldc2_w (v := (-9223372036854775808)) d138_39 g138_130 rfl ?_
  exact w_lret d138_42 r138 ⟨_, rfl, k⟩
theorem B_X_proof_43 {X : vX} {d : Nat} {M : vM} {Q : Option vV → vM → Prop} {l1 l2 l3 l4 : Int}  (k : cq X d 175 [vR 0, vI l1, vI (j_ishl 1 l2)] M (fun r M1 => wp X d 138 51 [vR 0, vI l1, vI l2, vI l3, vI l4] (r.toList ++ []) (vS0, M1) (vP Q))) : vw X d 138 43 [vR 0, vI l1, vI l2, vI l3, vI l4] [] M Q := by
  refine w_aload_n d138_43 rfl ?_
  refine w_iload_n d138_44 rfl ?_
  refine w_ic (v := 1) d138_45 rfl ?_
  refine w_iload_n d138_46 rfl ?_
  refine w_ishl d138_47 ?_
  exact w_inv0 (a := 0) (c := 10) d138_48 c138_139 rfl rfl rfl v175 (Nat.le_of_ble_eq_true rfl) (cq.cl (k))
theorem B_X_proof_51 {X : vX} {d : Nat} {M : vM} {Q : Option vV → vM → Prop} {l1 l2 l3 l4 s0 : Int}  (k1 : s0 = 0 → vw X d 138 58 [vR 0, vI l1, vI l2, vI l3, vI l4] [] M Q) (k2 : ¬ s0 = 0 → vw X d 138 54 [vR 0, vI l1, vI l2, vI l3, vI l4] [] M Q) : vw X d 138 51 [vR 0, vI l1, vI l2, vI l3, vI l4] [vI s0] M Q := by
  exact w_if_eq d138_51 rfl (fun h => k1 h) (fun h => k2 h)
theorem B_X_proof_54 {X : vX} {d : Nat} {M : vM} {Q : Option vV → vM → Prop} {l1 l2 l3 l4 : Int}  (k : Q (some (vL ((-9223372036854775808)))) M) : vw X d 138 54 [vR 0, vI l1, vI l2, vI l3, vI l4] [] M Q := by
  refine w_ldc2_w (v := (-9223372036854775808)) d138_54 g138_130 rfl ?_
  exact w_lret d138_57 r138 ⟨_, rfl, k⟩
theorem B_X_proof_58 {X : vX} {d : Nat} {M : vM} {Q : Option vV → vM → Prop} {l1 l2 l3 l4 : Int} (hR : vRefs M)  (k : cq X d 24 [vR 1, vR 13, vI l1, vI l2] M (fun r M1 => wp X d 138 71 [vR 0, vI l1, vI l2, vI l3, vI l4] (r.toList ++ []) (vS0, M1) (vP Q))) : vw X d 138 58 [vR 0, vI l1, vI l2, vI l3, vI l4] [] M Q := by
  refine w_aload_n d138_58 rfl ?_
  refine w_getf (a := 0) (v := vR 1) d138_59 f138_22 rfl rfl (congrArg vR (rf_0_0 hR)) ?_
  refine w_aload_n d138_62 rfl ?_
  refine w_getf (a := 0) (v := vR 13) d138_63 f138_29 rfl rfl (congrArg vR (rf_0_1 hR)) ?_
  refine w_iload_n d138_66 rfl ?_
  refine w_iload_n d138_67 rfl ?_
  exact w_inv0 (a := 1) (c := 0) d138_68 c138_160 rfl rfl rfl v24 (Nat.le_of_ble_eq_true rfl) (cq.cl (k))
theorem B_X_proof_71 {X : vX} {d : Nat} {M : vM} {Q : Option vV → vM → Prop} {l1 l2 l3 l4 : Int} (hR : vRefs M)  (k : cq X d 90 [vR 13] M (fun r M1 => wp X d 138 78 [vR 0, vI l1, vI l2, vI l3, vI l4] (r.toList ++ []) (vS0, M1) (vP Q))) : vw X d 138 71 [vR 0, vI l1, vI l2, vI l3, vI l4] [] M Q := by
  refine w_aload_n d138_71 rfl ?_
  refine w_getf (a := 0) (v := vR 13) d138_72 f138_29 rfl rfl (congrArg vR (rf_0_1 hR)) ?_
  exact w_inv0 (a := 13) (c := 6) d138_75 c138_164 rfl rfl rfl v90 (Nat.le_of_ble_eq_true rfl) (cq.cl (k))
theorem B_X_proof_78 {X : vX} {d : Nat} {M : vM} {Q : Option vV → vM → Prop} {l1 l2 l3 l4 s0 : Int}  (k1 : ¬ s0 = 0 → vw X d 138 85 [vR 0, vI l1, vI l2, vI l3, vI l4] [] M Q) (k2 : s0 = 0 → vw X d 138 81 [vR 0, vI l1, vI l2, vI l3, vI l4] [] M Q) : vw X d 138 78 [vR 0, vI l1, vI l2, vI l3, vI l4] [vI s0] M Q := by
  exact w_if_ne d138_78 rfl (fun h => k1 h) (fun h => k2 h)
theorem B_X_proof_81 {X : vX} {d : Nat} {M : vM} {Q : Option vV → vM → Prop} {l1 l2 l3 l4 : Int}  (k : Q (some (vL ((-9223372036854775808)))) M) : vw X d 138 81 [vR 0, vI l1, vI l2, vI l3, vI l4] [] M Q := by
  refine w_ldc2_w (v := (-9223372036854775808)) d138_81 g138_130 rfl ?_
  exact w_lret d138_84 r138 ⟨_, rfl, k⟩
theorem B_X_proof_85 {X : vX} {d : Nat} {M : vM} {Q : Option vV → vM → Prop} {l1 l2 l3 l4 : Int}  (k1 : ¬ l3 = ((-1)) → vw X d 138 112 [vR 0, vI l1, vI l2, vI l3, vI l4] [] M Q) (k2 : l3 = ((-1)) → vw X d 138 90 [vR 0, vI l1, vI l2, vI l3, vI l4] [] M Q) : vw X d 138 85 [vR 0, vI l1, vI l2, vI l3, vI l4] [] M Q := by
  refine w_iload_n d138_85 rfl ?_
  refine w_ic (v := (-1)) d138_86 rfl ?_
  exact w_icmp_ne d138_87 rfl (fun h => k1 h) (fun h => k2 h)
theorem B_X_proof_90 {X : vX} {d : Nat} {M : vM} {Q : Option vV → vM → Prop} {l1 l2 l3 l4 : Int} (hR : vRefs M)  (k : cq X d 95 [vR 13] M (fun r M1 => wp X d 138 97 [vR 0, vI l1, vI l2, vI l3, vI l4] (r.toList ++ []) (vS0, M1) (vP Q))) : vw X d 138 90 [vR 0, vI l1, vI l2, vI l3, vI l4] [] M Q := by
  refine w_aload_n d138_90 rfl ?_
  refine w_getf (a := 0) (v := vR 13) d138_91 f138_29 rfl rfl (congrArg vR (rf_0_1 hR)) ?_
  exact w_inv0 (a := 13) (c := 6) d138_94 c138_143 rfl rfl rfl v95 (Nat.le_of_ble_eq_true rfl) (cq.cl (k))
theorem B_X_proof_97 {X : vX} {d : Nat} {M : vM} {Q : Option vV → vM → Prop} {l1 l2 l3 l4 s0 : Int} (hR : vRefs M)  (k : cq X d 97 [vR 13] M (fun r M1 => wp X d 138 104 [vR 0, vI l1, vI l2, vI l3, vI l4] (r.toList ++ [vL s0]) (vS0, M1) (vP Q))) : vw X d 138 97 [vR 0, vI l1, vI l2, vI l3, vI l4] [vL s0] M Q := by
  refine w_aload_n d138_97 rfl ?_
  refine w_getf (a := 0) (v := vR 13) d138_98 f138_29 rfl rfl (congrArg vR (rf_0_1 hR)) ?_
  exact w_inv0 (a := 13) (c := 6) d138_101 c138_149 rfl rfl rfl v97 (Nat.le_of_ble_eq_true rfl) (cq.cl (k))
theorem B_X_proof_104 {X : vX} {d : Nat} {M : vM} {Q : Option vV → vM → Prop} {l1 l2 l3 l4 s0 s1 : Int}  (k : cq X d 182 [vL s0, vL s1, vI l4] M (fun r M1 => wp X d 138 109 [vR 0, vI l1, vI l2, vI l3, vI l4] (r.toList ++ []) (vS0, M1) (vP Q))) : vw X d 138 104 [vR 0, vI l1, vI l2, vI l3, vI l4] [vL s1, vL s0] M Q := by
  refine w_iload d138_104 rfl ?_
  exact w_inv1 d138_106 c138_152 (by decide) rfl (Nat.le_of_ble_eq_true rfl) (cq.cl (k))
theorem B_X_proof_109 {X : vX} {d : Nat} {M : vM} {Q : Option vV → vM → Prop} {l1 l2 l3 l4 s0 : Int}  (k : Q (some (vL s0)) M) : vw X d 138 109 [vR 0, vI l1, vI l2, vI l3, vI l4] [vL s0] M Q := by
  refine w_goto (tgt := 136) d138_109 rfl ?_
  exact w_lret d138_136 r138 ⟨_, rfl, k⟩
theorem B_X_proof_112 {X : vX} {d : Nat} {M : vM} {Q : Option vV → vM → Prop} {l1 l2 l3 l4 : Int} (hR : vRefs M)  (k : cq X d 26 [vI l1, vI l3] M (fun r M1 => wp X d 138 121 [vR 0, vI l1, vI l2, vI l3, vI l4] (r.toList ++ [vR 13]) (vS0, M1) (vP Q))) : vw X d 138 112 [vR 0, vI l1, vI l2, vI l3, vI l4] [] M Q := by
  refine w_aload_n d138_112 rfl ?_
  refine w_getf (a := 0) (v := vR 13) d138_113 f138_29 rfl rfl (congrArg vR (rf_0_1 hR)) ?_
  refine w_iload_n d138_116 rfl ?_
  refine w_iload_n d138_117 rfl ?_
  exact w_inv1 d138_118 c138_167 (by decide) rfl (Nat.le_of_ble_eq_true rfl) (cq.cl (k))
theorem B_X_proof_121 {X : vX} {d : Nat} {M : vM} {Q : Option vV → vM → Prop} {l1 l2 l3 l4 s1 : Int}  (k : cq X d 96 [vR 13, vI s1] M (fun r M1 => wp X d 138 124 [vR 0, vI l1, vI l2, vI l3, vI l4] (r.toList ++ []) (vS0, M1) (vP Q))) : vw X d 138 121 [vR 0, vI l1, vI l2, vI l3, vI l4] [vI s1, vR 13] M Q := by
  exact w_inv0 (a := 13) (c := 6) d138_121 c138_156 rfl rfl rfl v96 (Nat.le_of_ble_eq_true rfl) (cq.cl (k))
theorem B_X_proof_124 {X : vX} {d : Nat} {M : vM} {Q : Option vV → vM → Prop} {l1 l2 l3 l4 s0 : Int} (hR : vRefs M)  (k : cq X d 97 [vR 13] M (fun r M1 => wp X d 138 131 [vR 0, vI l1, vI l2, vI l3, vI l4] (r.toList ++ [vL s0]) (vS0, M1) (vP Q))) : vw X d 138 124 [vR 0, vI l1, vI l2, vI l3, vI l4] [vL s0] M Q := by
  refine w_aload_n d138_124 rfl ?_
  refine w_getf (a := 0) (v := vR 13) d138_125 f138_29 rfl rfl (congrArg vR (rf_0_1 hR)) ?_
  exact w_inv0 (a := 13) (c := 6) d138_128 c138_149 rfl rfl rfl v97 (Nat.le_of_ble_eq_true rfl) (cq.cl (k))
theorem B_X_proof_131 {X : vX} {d : Nat} {M : vM} {Q : Option vV → vM → Prop} {l1 l2 l3 l4 s0 s1 : Int}  (k : cq X d 182 [vL s0, vL s1, vI l4] M (fun r M1 => wp X d 138 136 [vR 0, vI l1, vI l2, vI l3, vI l4] (r.toList ++ []) (vS0, M1) (vP Q))) : vw X d 138 131 [vR 0, vI l1, vI l2, vI l3, vI l4] [vL s1, vL s0] M Q := by
  refine w_iload d138_131 rfl ?_
  exact w_inv1 d138_133 c138_152 (by decide) rfl (Nat.le_of_ble_eq_true rfl) (cq.cl (k))
theorem B_X_proof_136 {X : vX} {d : Nat} {M : vM} {Q : Option vV → vM → Prop} {l1 l2 l3 l4 s0 : Int}  (k : Q (some (vL s0)) M) : vw X d 138 136 [vR 0, vI l1, vI l2, vI l3, vI l4] [vL s0] M Q := by
  exact w_lret d138_136 r138 ⟨_, rfl, k⟩
theorem E_X_proof {X : vX} {d : Nat} {M : vM} {Q : Option vV → vM → Prop} {l1 l2 l3 l4 : Int} (k : vw X d 138 0 [vR 0, vI l1, vI l2, vI l3, vI l4] [] M Q) : cq X (d + 1) 138 [vR 0, vI l1, vI l2, vI l3, vI l4] M Q := wc_in (Nat.le_of_ble_eq_true rfl) (Nat.le_of_ble_eq_true rfl) k
theorem cd139 : vm_cd 139 = cX11_best := rfl
theorem d139_0 : decode (vm_cd 139) 0 = .ok (.iload_n 1, 1) := (congrArg (fun b => decode b 0) cd139).trans (by decide +kernel)
theorem d139_1 : decode (vm_cd 139) 1 = .ok (.invokestatic 111, 3) := (congrArg (fun b => decode b 1) cd139).trans (by decide +kernel)
theorem d139_4 : decode (vm_cd 139) 4 = .ok (.ifCond .ne 5, 3) := (congrArg (fun b => decode b 4) cd139).trans (by decide +kernel)
theorem d139_7 : decode (vm_cd 139) 7 = .ok (.iconst (-1), 1) := (congrArg (fun b => decode b 7) cd139).trans (by decide +kernel)
theorem d139_8 : decode (vm_cd 139) 8 = .ok (.ireturn, 1) := (congrArg (fun b => decode b 8) cd139).trans (by decide +kernel)
theorem d139_9 : decode (vm_cd 139) 9 = .ok (.iconst (-1), 1) := (congrArg (fun b => decode b 9) cd139).trans (by decide +kernel)
theorem d139_10 : decode (vm_cd 139) 10 = .ok (.istore_n 2, 1) := (congrArg (fun b => decode b 10) cd139).trans (by decide +kernel)
theorem d139_11 : decode (vm_cd 139) 11 = .ok (.lconst 0, 1) := (congrArg (fun b => decode b 11) cd139).trans (by decide +kernel)
theorem d139_12 : decode (vm_cd 139) 12 = .ok (.lstore_n 3, 1) := (congrArg (fun b => decode b 12) cd139).trans (by decide +kernel)
theorem d139_13 : decode (vm_cd 139) 13 = .ok (.lconst 1, 1) := (congrArg (fun b => decode b 13) cd139).trans (by decide +kernel)
theorem d139_14 : decode (vm_cd 139) 14 = .ok (.lstore 5, 2) := (congrArg (fun b => decode b 14) cd139).trans (by decide +kernel)
theorem d139_16 : decode (vm_cd 139) 16 = .ok (.iconst 0, 1) := (congrArg (fun b => decode b 16) cd139).trans (by decide +kernel)
theorem d139_17 : decode (vm_cd 139) 17 = .ok (.istore 7, 2) := (congrArg (fun b => decode b 17) cd139).trans (by decide +kernel)
theorem d139_19 : decode (vm_cd 139) 19 = .ok (.iload 7, 2) := (congrArg (fun b => decode b 19) cd139).trans (by decide +kernel)
theorem d139_21 : decode (vm_cd 139) 21 = .ok (.aload_n 0, 1) := (congrArg (fun b => decode b 21) cd139).trans (by decide +kernel)
theorem d139_22 : decode (vm_cd 139) 22 = .ok (.getfield 22, 3) := (congrArg (fun b => decode b 22) cd139).trans (by decide +kernel)
theorem d139_25 : decode (vm_cd 139) 25 = .ok (.invokevirtual 170, 3) := (congrArg (fun b => decode b 25) cd139).trans (by decide +kernel)
theorem d139_28 : decode (vm_cd 139) 28 = .ok (.if_icmp .ge 67, 3) := (congrArg (fun b => decode b 28) cd139).trans (by decide +kernel)
theorem d139_31 : decode (vm_cd 139) 31 = .ok (.aload_n 0, 1) := (congrArg (fun b => decode b 31) cd139).trans (by decide +kernel)
theorem d139_32 : decode (vm_cd 139) 32 = .ok (.iload 7, 2) := (congrArg (fun b => decode b 32) cd139).trans (by decide +kernel)
theorem d139_34 : decode (vm_cd 139) 34 = .ok (.iconst 1, 1) := (congrArg (fun b => decode b 34) cd139).trans (by decide +kernel)
theorem d139_35 : decode (vm_cd 139) 35 = .ok (.iload_n 1, 1) := (congrArg (fun b => decode b 35) cd139).trans (by decide +kernel)
theorem d139_36 : decode (vm_cd 139) 36 = .ok (.ishl, 1) := (congrArg (fun b => decode b 36) cd139).trans (by decide +kernel)
theorem d139_37 : decode (vm_cd 139) 37 = .ok (.invokevirtual 139, 3) := (congrArg (fun b => decode b 37) cd139).trans (by decide +kernel)
theorem d139_40 : decode (vm_cd 139) 40 = .ok (.ifCond .eq 49, 3) := (congrArg (fun b => decode b 40) cd139).trans (by decide +kernel)
theorem d139_43 : decode (vm_cd 139) 43 = .ok (.aload_n 0, 1) := (congrArg (fun b => decode b 43) cd139).trans (by decide +kernel)
theorem d139_44 : decode (vm_cd 139) 44 = .ok (.iload 7, 2) := (congrArg (fun b => decode b 44) cd139).trans (by decide +kernel)
theorem d139_46 : decode (vm_cd 139) 46 = .ok (.iload_n 1, 1) := (congrArg (fun b => decode b 46) cd139).trans (by decide +kernel)
theorem d139_47 : decode (vm_cd 139) 47 = .ok (.invokevirtual 174, 3) := (congrArg (fun b => decode b 47) cd139).trans (by decide +kernel)
theorem d139_50 : decode (vm_cd 139) 50 = .ok (.lstore 8, 2) := (congrArg (fun b => decode b 50) cd139).trans (by decide +kernel)
theorem d139_52 : decode (vm_cd 139) 52 = .ok (.aload_n 0, 1) := (congrArg (fun b => decode b 52) cd139).trans (by decide +kernel)
theorem d139_53 : decode (vm_cd 139) 53 = .ok (.getfield 29, 3) := (congrArg (fun b => decode b 53) cd139).trans (by decide +kernel)
theorem d139_56 : decode (vm_cd 139) 56 = .ok (.invokevirtual 149, 3) := (congrArg (fun b => decode b 56) cd139).trans (by decide +kernel)
theorem d139_59 : decode (vm_cd 139) 59 = .ok (.lstore 10, 2) := (congrArg (fun b => decode b 59) cd139).trans (by decide +kernel)
theorem d139_61 : decode (vm_cd 139) 61 = .ok (.iload_n 2, 1) := (congrArg (fun b => decode b 61) cd139).trans (by decide +kernel)
theorem d139_62 : decode (vm_cd 139) 62 = .ok (.iconst (-1), 1) := (congrArg (fun b => decode b 62) cd139).trans (by decide +kernel)
theorem d139_63 : decode (vm_cd 139) 63 = .ok (.if_icmp .eq 16, 3) := (congrArg (fun b => decode b 63) cd139).trans (by decide +kernel)
theorem d139_66 : decode (vm_cd 139) 66 = .ok (.lload 8, 2) := (congrArg (fun b => decode b 66) cd139).trans (by decide +kernel)
theorem d139_68 : decode (vm_cd 139) 68 = .ok (.lload 5, 2) := (congrArg (fun b => decode b 68) cd139).trans (by decide +kernel)
theorem d139_70 : decode (vm_cd 139) 70 = .ok (.lmul, 1) := (congrArg (fun b => decode b 70) cd139).trans (by decide +kernel)
theorem d139_71 : decode (vm_cd 139) 71 = .ok (.lload_n 3, 1) := (congrArg (fun b => decode b 71) cd139).trans (by decide +kernel)
theorem d139_72 : decode (vm_cd 139) 72 = .ok (.lload 10, 2) := (congrArg (fun b => decode b 72) cd139).trans (by decide +kernel)
theorem d139_74 : decode (vm_cd 139) 74 = .ok (.lmul, 1) := (congrArg (fun b => decode b 74) cd139).trans (by decide +kernel)
theorem d139_75 : decode (vm_cd 139) 75 = .ok (.lcmp, 1) := (congrArg (fun b => decode b 75) cd139).trans (by decide +kernel)
theorem d139_76 : decode (vm_cd 139) 76 = .ok (.ifCond .le 13, 3) := (congrArg (fun b => decode b 76) cd139).trans (by decide +kernel)
theorem d139_79 : decode (vm_cd 139) 79 = .ok (.iload 7, 2) := (congrArg (fun b => decode b 79) cd139).trans (by decide +kernel)
theorem d139_81 : decode (vm_cd 139) 81 = .ok (.istore_n 2, 1) := (congrArg (fun b => decode b 81) cd139).trans (by decide +kernel)
theorem d139_82 : decode (vm_cd 139) 82 = .ok (.lload 8, 2) := (congrArg (fun b => decode b 82) cd139).trans (by decide +kernel)
theorem d139_84 : decode (vm_cd 139) 84 = .ok (.lstore_n 3, 1) := (congrArg (fun b => decode b 84) cd139).trans (by decide +kernel)
theorem d139_85 : decode (vm_cd 139) 85 = .ok (.lload 10, 2) := (congrArg (fun b => decode b 85) cd139).trans (by decide +kernel)
theorem d139_87 : decode (vm_cd 139) 87 = .ok (.lstore 5, 2) := (congrArg (fun b => decode b 87) cd139).trans (by decide +kernel)
theorem d139_89 : decode (vm_cd 139) 89 = .ok (.iinc 7 1, 3) := (congrArg (fun b => decode b 89) cd139).trans (by decide +kernel)
theorem d139_92 : decode (vm_cd 139) 92 = .ok (.goto (-73), 3) := (congrArg (fun b => decode b 92) cd139).trans (by decide +kernel)
theorem d139_95 : decode (vm_cd 139) 95 = .ok (.iload_n 2, 1) := (congrArg (fun b => decode b 95) cd139).trans (by decide +kernel)
theorem d139_96 : decode (vm_cd 139) 96 = .ok (.ireturn, 1) := (congrArg (fun b => decode b 96) cd139).trans (by decide +kernel)
theorem f139_22 : vm_fl.lookup (vm_own 139, 22) = some (10, 0, 250) := by decide +kernel
theorem f139_29 : vm_fl.lookup (vm_own 139, 29) = some (10, 1, 251) := by decide +kernel
theorem c139_111 : vm_ml.lookup (vm_own 139, 111) = some (1, 180, 1, 318, 319, 0, 1) := vm_lk (by decide +kernel)
theorem c139_139 : vm_ml.lookup (vm_own 139, 139) = some (0, 175, 2, 394, 396, 1, 1) := vm_lk (by decide +kernel)
theorem c139_149 : vm_ml.lookup (vm_own 139, 149) = some (0, 97, 0, 463, 464, 538, 4) := vm_lk (by decide +kernel)
theorem c139_170 : vm_ml.lookup (vm_own 139, 170) = some (0, 1, 0, 500, 501, 575, 2) := vm_lk (by decide +kernel)
theorem c139_174 : vm_ml.lookup (vm_own 139, 174) = some (0, 176, 2, 504, 506, 9, 1) := vm_lk (by decide +kernel)
theorem r139 : vm_rt 139 = (some .int) := by decide +kernel
theorem B_X_best_0 {X : vX} {d : Nat} {M : vM} {Q : Option vV → vM → Prop} {l1 : Int}  (k : cq X d 180 [vI l1] M (fun r M1 => wp X d 139 4 [vR 0, vI l1, vN, vN, vN, vN, vN, vN, vN, vN, vN, vN] (r.toList ++ []) (vS0, M1) (vP Q))) : vw X d 139 0 [vR 0, vI l1, vN, vN, vN, vN, vN, vN, vN, vN, vN, vN] [] M Q := by
  refine w_iload_n d139_0 rfl ?_
  exact w_inv1 d139_1 c139_111 (by decide) rfl (Nat.le_of_ble_eq_true rfl) (cq.cl (k))
theorem B_X_best_4 {X : vX} {d : Nat} {M : vM} {Q : Option vV → vM → Prop} {l1 s0 : Int}  (k1 : ¬ s0 = 0 → vw X d 139 9 [vR 0, vI l1, vN, vN, vN, vN, vN, vN, vN, vN, vN, vN] [] M Q) (k2 : s0 = 0 → vw X d 139 7 [vR 0, vI l1, vN, vN, vN, vN, vN, vN, vN, vN, vN, vN] [] M Q) : vw X d 139 4 [vR 0, vI l1, vN, vN, vN, vN, vN, vN, vN, vN, vN, vN] [vI s0] M Q := by
  exact w_if_ne d139_4 rfl (fun h => k1 h) (fun h => k2 h)
theorem B_X_best_7 {X : vX} {d : Nat} {M : vM} {Q : Option vV → vM → Prop} {l1 : Int}  (k : Q (some (vI ((-1)))) M) : vw X d 139 7 [vR 0, vI l1, vN, vN, vN, vN, vN, vN, vN, vN, vN, vN] [] M Q := by
  refine w_ic (v := (-1)) d139_7 rfl ?_
  exact w_iret d139_8 r139 ⟨_, rfl, k⟩
theorem B_X_best_9 {X : vX} {d : Nat} {M : vM} {Q : Option vV → vM → Prop} {l1 : Int}  (k : vw X d 139 19 [vR 0, vI l1, vI ((-1)), vL 0, vN, vL 1, vN, vI 0, vN, vN, vN, vN] [] M Q) : vw X d 139 9 [vR 0, vI l1, vN, vN, vN, vN, vN, vN, vN, vN, vN, vN] [] M Q := by
  refine w_ic (v := (-1)) d139_9 rfl ?_
  refine w_istore_nE (ls' := [vR 0, vI l1, vI ((-1)), vN, vN, vN, vN, vN, vN, vN, vN, vN]) d139_10 (Nat.le_of_ble_eq_true rfl) rfl ?_
  refine w_lc (v := 0) d139_11 rfl ?_
  refine w_lstore_nE (ls' := [vR 0, vI l1, vI ((-1)), vL 0, vN, vN, vN, vN, vN, vN, vN, vN]) d139_12 (Nat.le_of_ble_eq_true rfl) rfl ?_
  refine w_lc (v := 1) d139_13 rfl ?_
  refine w_lstoreE (ls' := [vR 0, vI l1, vI ((-1)), vL 0, vN, vL 1, vN, vN, vN, vN, vN, vN]) d139_14 (Nat.le_of_ble_eq_true rfl) rfl ?_
  refine w_ic (v := 0) d139_16 rfl ?_
  refine w_istoreE (ls' := [vR 0, vI l1, vI ((-1)), vL 0, vN, vL 1, vN, vI 0, vN, vN, vN, vN]) d139_17 (Nat.le_of_ble_eq_true rfl) rfl ?_
  exact k
theorem B_X_best_19 {X : vX} {d : Nat} {M : vM} {Q : Option vV → vM → Prop} {l1 l2 l3 l5 l7 : Int} {w8 w10 : vV} (hR : vRefs M)  (k : cq X d 1 [vR 1] M (fun r M1 => wp X d 139 28 [vR 0, vI l1, vI l2, vL l3, vN, vL l5, vN, vI l7, w8, vN, w10, vN] (r.toList ++ [vI l7]) (vS0, M1) (vP Q))) : vw X d 139 19 [vR 0, vI l1, vI l2, vL l3, vN, vL l5, vN, vI l7, w8, vN, w10, vN] [] M Q := by
  refine w_iload d139_19 rfl ?_
  refine w_aload_n d139_21 rfl ?_
  refine w_getf (a := 0) (v := vR 1) d139_22 f139_22 rfl rfl (congrArg vR (rf_0_0 hR)) ?_
  exact w_inv0 (a := 1) (c := 0) d139_25 c139_170 rfl rfl rfl v1 (Nat.le_of_ble_eq_true rfl) (cq.cl (k))
theorem B_X_best_28 {X : vX} {d : Nat} {M : vM} {Q : Option vV → vM → Prop} {l1 l2 l3 l5 l7 s0 s1 : Int} {w8 w10 : vV}  (k1 : s1 ≤ s0 → vw X d 139 95 [vR 0, vI l1, vI l2, vL l3, vN, vL l5, vN, vI l7, w8, vN, w10, vN] [] M Q) (k2 : s0 < s1 → vw X d 139 31 [vR 0, vI l1, vI l2, vL l3, vN, vL l5, vN, vI l7, w8, vN, w10, vN] [] M Q) : vw X d 139 28 [vR 0, vI l1, vI l2, vL l3, vN, vL l5, vN, vI l7, w8, vN, w10, vN] [vI s1, vI s0] M Q := by
  exact w_icmp_ge d139_28 rfl (fun h => k1 h) (fun h => k2 h)
theorem B_X_best_31 {X : vX} {d : Nat} {M : vM} {Q : Option vV → vM → Prop} {l1 l2 l3 l5 l7 : Int} {w8 w10 : vV}  (k : cq X d 175 [vR 0, vI l7, vI (j_ishl 1 l1)] M (fun r M1 => wp X d 139 40 [vR 0, vI l1, vI l2, vL l3, vN, vL l5, vN, vI l7, w8, vN, w10, vN] (r.toList ++ []) (vS0, M1) (vP Q))) : vw X d 139 31 [vR 0, vI l1, vI l2, vL l3, vN, vL l5, vN, vI l7, w8, vN, w10, vN] [] M Q := by
  refine w_aload_n d139_31 rfl ?_
  refine w_iload d139_32 rfl ?_
  refine w_ic (v := 1) d139_34 rfl ?_
  refine w_iload_n d139_35 rfl ?_
  refine w_ishl d139_36 ?_
  exact w_inv0 (a := 0) (c := 10) d139_37 c139_139 rfl rfl rfl v175 (Nat.le_of_ble_eq_true rfl) (cq.cl (k))
theorem B_X_best_40 {X : vX} {d : Nat} {M : vM} {Q : Option vV → vM → Prop} {l1 l2 l3 l5 l7 s0 : Int} {w8 w10 : vV}  (k1 : s0 = 0 → vw X d 139 89 [vR 0, vI l1, vI l2, vL l3, vN, vL l5, vN, vI l7, w8, vN, w10, vN] [] M Q) (k2 : ¬ s0 = 0 → vw X d 139 43 [vR 0, vI l1, vI l2, vL l3, vN, vL l5, vN, vI l7, w8, vN, w10, vN] [] M Q) : vw X d 139 40 [vR 0, vI l1, vI l2, vL l3, vN, vL l5, vN, vI l7, w8, vN, w10, vN] [vI s0] M Q := by
  exact w_if_eq d139_40 rfl (fun h => k1 h) (fun h => k2 h)
theorem B_X_best_43 {X : vX} {d : Nat} {M : vM} {Q : Option vV → vM → Prop} {l1 l2 l3 l5 l7 : Int} {w8 w10 : vV}  (k : cq X d 176 [vR 0, vI l7, vI l1] M (fun r M1 => wp X d 139 50 [vR 0, vI l1, vI l2, vL l3, vN, vL l5, vN, vI l7, w8, vN, w10, vN] (r.toList ++ []) (vS0, M1) (vP Q))) : vw X d 139 43 [vR 0, vI l1, vI l2, vL l3, vN, vL l5, vN, vI l7, w8, vN, w10, vN] [] M Q := by
  refine w_aload_n d139_43 rfl ?_
  refine w_iload d139_44 rfl ?_
  refine w_iload_n d139_46 rfl ?_
  exact w_inv0 (a := 0) (c := 10) d139_47 c139_174 rfl rfl rfl v176 (Nat.le_of_ble_eq_true rfl) (cq.cl (k))
theorem B_X_best_50 {X : vX} {d : Nat} {M : vM} {Q : Option vV → vM → Prop} {l1 l2 l3 l5 l7 s0 : Int} {w8 w10 : vV} (hR : vRefs M)  (k : cq X d 97 [vR 13] M (fun r M1 => wp X d 139 59 [vR 0, vI l1, vI l2, vL l3, vN, vL l5, vN, vI l7, vL s0, vN, w10, vN] (r.toList ++ []) (vS0, M1) (vP Q))) : vw X d 139 50 [vR 0, vI l1, vI l2, vL l3, vN, vL l5, vN, vI l7, w8, vN, w10, vN] [vL s0] M Q := by
  refine w_lstoreE (ls' := [vR 0, vI l1, vI l2, vL l3, vN, vL l5, vN, vI l7, vL s0, vN, w10, vN]) d139_50 (Nat.le_of_ble_eq_true rfl) rfl ?_
  refine w_aload_n d139_52 rfl ?_
  refine w_getf (a := 0) (v := vR 13) d139_53 f139_29 rfl rfl (congrArg vR (rf_0_1 hR)) ?_
  exact w_inv0 (a := 13) (c := 6) d139_56 c139_149 rfl rfl rfl v97 (Nat.le_of_ble_eq_true rfl) (cq.cl (k))
theorem B_X_best_59 {X : vX} {d : Nat} {M : vM} {Q : Option vV → vM → Prop} {l1 l2 l3 l5 l7 l8 s0 : Int} {w10 : vV}  (k1 : l2 = ((-1)) → vw X d 139 79 [vR 0, vI l1, vI l2, vL l3, vN, vL l5, vN, vI l7, vL l8, vN, vL s0, vN] [] M Q) (k2 : ¬ l2 = ((-1)) → vw X d 139 66 [vR 0, vI l1, vI l2, vL l3, vN, vL l5, vN, vI l7, vL l8, vN, vL s0, vN] [] M Q) : vw X d 139 59 [vR 0, vI l1, vI l2, vL l3, vN, vL l5, vN, vI l7, vL l8, vN, w10, vN] [vL s0] M Q := by
  refine w_lstoreE (ls' := [vR 0, vI l1, vI l2, vL l3, vN, vL l5, vN, vI l7, vL l8, vN, vL s0, vN]) d139_59 (Nat.le_of_ble_eq_true rfl) rfl ?_
  refine w_iload_n d139_61 rfl ?_
  refine w_ic (v := (-1)) d139_62 rfl ?_
  exact w_icmp_eq d139_63 rfl (fun h => k1 h) (fun h => k2 h)
theorem B_X_best_66 {X : vX} {d : Nat} {M : vM} {Q : Option vV → vM → Prop} {l1 l2 l3 l5 l7 l8 l10 : Int}  (k1 : (w64 (l8 * l5)) ≤ (w64 (l3 * l10)) → vw X d 139 89 [vR 0, vI l1, vI l2, vL l3, vN, vL l5, vN, vI l7, vL l8, vN, vL l10, vN] [] M Q) (k2 : (w64 (l3 * l10)) < (w64 (l8 * l5)) → vw X d 139 79 [vR 0, vI l1, vI l2, vL l3, vN, vL l5, vN, vI l7, vL l8, vN, vL l10, vN] [] M Q) : vw X d 139 66 [vR 0, vI l1, vI l2, vL l3, vN, vL l5, vN, vI l7, vL l8, vN, vL l10, vN] [] M Q := by
  refine w_lload d139_66 rfl ?_
  refine w_lload d139_68 rfl ?_
  refine w_lmul d139_70 ?_
  refine w_lload_n d139_71 rfl ?_
  refine w_lload d139_72 rfl ?_
  refine w_lmul d139_74 ?_
  exact w_lc_le d139_75 d139_76 rfl (fun h => k1 h) (fun h => k2 h)
theorem B_X_best_79 {X : vX} {d : Nat} {M : vM} {Q : Option vV → vM → Prop} {l1 l2 l3 l5 l7 l8 l10 : Int}  (k : vw X d 139 19 [vR 0, vI l1, vI l7, vL l8, vN, vL l10, vN, vI (w32 (l7 + 1)), vL l8, vN, vL l10, vN] [] M Q) : vw X d 139 79 [vR 0, vI l1, vI l2, vL l3, vN, vL l5, vN, vI l7, vL l8, vN, vL l10, vN] [] M Q := by
  refine w_iload d139_79 rfl ?_
  refine w_istore_nE (ls' := [vR 0, vI l1, vI l7, vL l3, vN, vL l5, vN, vI l7, vL l8, vN, vL l10, vN]) d139_81 (Nat.le_of_ble_eq_true rfl) rfl ?_
  refine w_lload d139_82 rfl ?_
  refine w_lstore_nE (ls' := [vR 0, vI l1, vI l7, vL l8, vN, vL l5, vN, vI l7, vL l8, vN, vL l10, vN]) d139_84 (Nat.le_of_ble_eq_true rfl) rfl ?_
  refine w_lload d139_85 rfl ?_
  refine w_lstoreE (ls' := [vR 0, vI l1, vI l7, vL l8, vN, vL l10, vN, vI l7, vL l8, vN, vL l10, vN]) d139_87 (Nat.le_of_ble_eq_true rfl) rfl ?_
  refine w_iincE (ls' := [vR 0, vI l1, vI l7, vL l8, vN, vL l10, vN, vI (w32 (l7 + 1)), vL l8, vN, vL l10, vN]) d139_89 rfl rfl ?_
  refine w_goto (tgt := 19) d139_92 rfl ?_
  exact k
theorem B_X_best_89 {X : vX} {d : Nat} {M : vM} {Q : Option vV → vM → Prop} {l1 l2 l3 l5 l7 : Int} {w8 w10 : vV}  (k : vw X d 139 19 [vR 0, vI l1, vI l2, vL l3, vN, vL l5, vN, vI (w32 (l7 + 1)), w8, vN, w10, vN] [] M Q) : vw X d 139 89 [vR 0, vI l1, vI l2, vL l3, vN, vL l5, vN, vI l7, w8, vN, w10, vN] [] M Q := by
  refine w_iincE (ls' := [vR 0, vI l1, vI l2, vL l3, vN, vL l5, vN, vI (w32 (l7 + 1)), w8, vN, w10, vN]) d139_89 rfl rfl ?_
  refine w_goto (tgt := 19) d139_92 rfl ?_
  exact k
theorem B_X_best_95 {X : vX} {d : Nat} {M : vM} {Q : Option vV → vM → Prop} {l1 l2 l3 l5 l7 : Int} {w8 w10 : vV}  (k : Q (some (vI l2)) M) : vw X d 139 95 [vR 0, vI l1, vI l2, vL l3, vN, vL l5, vN, vI l7, w8, vN, w10, vN] [] M Q := by
  refine w_iload_n d139_95 rfl ?_
  exact w_iret d139_96 r139 ⟨_, rfl, k⟩
theorem E_X_best {X : vX} {d : Nat} {M : vM} {Q : Option vV → vM → Prop} {l1 : Int} (k : vw X d 139 0 [vR 0, vI l1, vN, vN, vN, vN, vN, vN, vN, vN, vN, vN] [] M Q) : cq X (d + 1) 139 [vR 0, vI l1] M Q := wc_in (Nat.le_of_ble_eq_true rfl) (Nat.le_of_ble_eq_true rfl) k
theorem cd140 : vm_cd 140 = cX11_bestGain := rfl
theorem d140_0 : decode (vm_cd 140) 0 = .ok (.aload_n 0, 1) := (congrArg (fun b => decode b 0) cd140).trans (by decide +kernel)
theorem d140_1 : decode (vm_cd 140) 1 = .ok (.iload_n 1, 1) := (congrArg (fun b => decode b 1) cd140).trans (by decide +kernel)
theorem d140_2 : decode (vm_cd 140) 2 = .ok (.invokevirtual 178, 3) := (congrArg (fun b => decode b 2) cd140).trans (by decide +kernel)
theorem d140_5 : decode (vm_cd 140) 5 = .ok (.istore_n 3, 1) := (congrArg (fun b => decode b 5) cd140).trans (by decide +kernel)
theorem d140_6 : decode (vm_cd 140) 6 = .ok (.iload_n 3, 1) := (congrArg (fun b => decode b 6) cd140).trans (by decide +kernel)
theorem d140_7 : decode (vm_cd 140) 7 = .ok (.iconst (-1), 1) := (congrArg (fun b => decode b 7) cd140).trans (by decide +kernel)
theorem d140_8 : decode (vm_cd 140) 8 = .ok (.if_icmp .eq 14, 3) := (congrArg (fun b => decode b 8) cd140).trans (by decide +kernel)
theorem d140_11 : decode (vm_cd 140) 11 = .ok (.aload_n 0, 1) := (congrArg (fun b => decode b 11) cd140).trans (by decide +kernel)
theorem d140_12 : decode (vm_cd 140) 12 = .ok (.iload_n 3, 1) := (congrArg (fun b => decode b 12) cd140).trans (by decide +kernel)
theorem d140_13 : decode (vm_cd 140) 13 = .ok (.iconst 1, 1) := (congrArg (fun b => decode b 13) cd140).trans (by decide +kernel)
theorem d140_14 : decode (vm_cd 140) 14 = .ok (.iload_n 1, 1) := (congrArg (fun b => decode b 14) cd140).trans (by decide +kernel)
theorem d140_15 : decode (vm_cd 140) 15 = .ok (.ishl, 1) := (congrArg (fun b => decode b 15) cd140).trans (by decide +kernel)
theorem d140_16 : decode (vm_cd 140) 16 = .ok (.invokevirtual 139, 3) := (congrArg (fun b => decode b 16) cd140).trans (by decide +kernel)
theorem d140_19 : decode (vm_cd 140) 19 = .ok (.ifCond .ne 7, 3) := (congrArg (fun b => decode b 19) cd140).trans (by decide +kernel)
theorem d140_22 : decode (vm_cd 140) 22 = .ok (.ldc2_w 130, 3) := (congrArg (fun b => decode b 22) cd140).trans (by decide +kernel)
theorem d140_25 : decode (vm_cd 140) 25 = .ok (.lreturn, 1) := (congrArg (fun b => decode b 25) cd140).trans (by decide +kernel)
theorem d140_26 : decode (vm_cd 140) 26 = .ok (.aload_n 0, 1) := (congrArg (fun b => decode b 26) cd140).trans (by decide +kernel)
theorem d140_27 : decode (vm_cd 140) 27 = .ok (.iload_n 3, 1) := (congrArg (fun b => decode b 27) cd140).trans (by decide +kernel)
theorem d140_28 : decode (vm_cd 140) 28 = .ok (.iload_n 1, 1) := (congrArg (fun b => decode b 28) cd140).trans (by decide +kernel)
theorem d140_29 : decode (vm_cd 140) 29 = .ok (.invokevirtual 174, 3) := (congrArg (fun b => decode b 29) cd140).trans (by decide +kernel)
theorem d140_32 : decode (vm_cd 140) 32 = .ok (.ldc2_w 147, 3) := (congrArg (fun b => decode b 32) cd140).trans (by decide +kernel)
theorem d140_35 : decode (vm_cd 140) 35 = .ok (.aload_n 0, 1) := (congrArg (fun b => decode b 35) cd140).trans (by decide +kernel)
theorem d140_36 : decode (vm_cd 140) 36 = .ok (.getfield 29, 3) := (congrArg (fun b => decode b 36) cd140).trans (by decide +kernel)
theorem d140_39 : decode (vm_cd 140) 39 = .ok (.invokevirtual 149, 3) := (congrArg (fun b => decode b 39) cd140).trans (by decide +kernel)
theorem d140_42 : decode (vm_cd 140) 42 = .ok (.lmul, 1) := (congrArg (fun b => decode b 42) cd140).trans (by decide +kernel)
theorem d140_43 : decode (vm_cd 140) 43 = .ok (.iload_n 2, 1) := (congrArg (fun b => decode b 43) cd140).trans (by decide +kernel)
theorem d140_44 : decode (vm_cd 140) 44 = .ok (.invokestatic 152, 3) := (congrArg (fun b => decode b 44) cd140).trans (by decide +kernel)
theorem d140_47 : decode (vm_cd 140) 47 = .ok (.lreturn, 1) := (congrArg (fun b => decode b 47) cd140).trans (by decide +kernel)
theorem f140_29 : vm_fl.lookup (vm_own 140, 29) = some (10, 1, 251) := by decide +kernel
theorem c140_139 : vm_ml.lookup (vm_own 140, 139) = some (0, 175, 2, 394, 396, 1, 1) := vm_lk (by decide +kernel)
theorem c140_149 : vm_ml.lookup (vm_own 140, 149) = some (0, 97, 0, 463, 464, 538, 4) := vm_lk (by decide +kernel)
theorem c140_152 : vm_ml.lookup (vm_own 140, 152) = some (1, 182, 3, 467, 468, 0, 1) := vm_lk (by decide +kernel)
theorem c140_174 : vm_ml.lookup (vm_own 140, 174) = some (0, 176, 2, 504, 506, 9, 1) := vm_lk (by decide +kernel)
theorem c140_178 : vm_ml.lookup (vm_own 140, 178) = some (0, 139, 1, 513, 497, 571, 1) := vm_lk (by decide +kernel)
theorem g140_130 : vm_cn.lookup (vm_own 140, 130) = some ((1), (-9223372036854775808), (365)) := by decide +kernel
theorem g140_147 : vm_cn.lookup (vm_own 140, 147) = some ((1), (12), (462)) := by decide +kernel
theorem r140 : vm_rt 140 = (some .long) := by decide +kernel
theorem B_X_bestGain_0 {X : vX} {d : Nat} {M : vM} {Q : Option vV → vM → Prop} {l1 l2 : Int}  (k : cq X d 139 [vR 0, vI l1] M (fun r M1 => wp X d 140 5 [vR 0, vI l1, vI l2, vN] (r.toList ++ []) (vS0, M1) (vP Q))) : vw X d 140 0 [vR 0, vI l1, vI l2, vN] [] M Q := by
  refine w_aload_n d140_0 rfl ?_
  refine w_iload_n d140_1 rfl ?_
  exact w_inv0 (a := 0) (c := 10) d140_2 c140_178 rfl rfl rfl v139 (Nat.le_of_ble_eq_true rfl) (cq.cl (k))
theorem B_X_bestGain_5 {X : vX} {d : Nat} {M : vM} {Q : Option vV → vM → Prop} {l1 l2 s0 : Int}  (k1 : s0 = ((-1)) → vw X d 140 22 [vR 0, vI l1, vI l2, vI s0] [] M Q) (k2 : ¬ s0 = ((-1)) → vw X d 140 11 [vR 0, vI l1, vI l2, vI s0] [] M Q) : vw X d 140 5 [vR 0, vI l1, vI l2, vN] [vI s0] M Q := by
  refine w_istore_nE (ls' := [vR 0, vI l1, vI l2, vI s0]) d140_5 (Nat.le_of_ble_eq_true rfl) rfl ?_
  refine w_iload_n d140_6 rfl ?_
  refine w_ic (v := (-1)) d140_7 rfl ?_
  exact w_icmp_eq d140_8 rfl (fun h => k1 h) (fun h => k2 h)
theorem B_X_bestGain_11 {X : vX} {d : Nat} {M : vM} {Q : Option vV → vM → Prop} {l1 l2 l3 : Int}  (k : cq X d 175 [vR 0, vI l3, vI (j_ishl 1 l1)] M (fun r M1 => wp X d 140 19 [vR 0, vI l1, vI l2, vI l3] (r.toList ++ []) (vS0, M1) (vP Q))) : vw X d 140 11 [vR 0, vI l1, vI l2, vI l3] [] M Q := by
  refine w_aload_n d140_11 rfl ?_
  refine w_iload_n d140_12 rfl ?_
  refine w_ic (v := 1) d140_13 rfl ?_
  refine w_iload_n d140_14 rfl ?_
  refine w_ishl d140_15 ?_
  exact w_inv0 (a := 0) (c := 10) d140_16 c140_139 rfl rfl rfl v175 (Nat.le_of_ble_eq_true rfl) (cq.cl (k))
theorem B_X_bestGain_19 {X : vX} {d : Nat} {M : vM} {Q : Option vV → vM → Prop} {l1 l2 l3 s0 : Int}  (k1 : ¬ s0 = 0 → vw X d 140 26 [vR 0, vI l1, vI l2, vI l3] [] M Q) (k2 : s0 = 0 → vw X d 140 22 [vR 0, vI l1, vI l2, vI l3] [] M Q) : vw X d 140 19 [vR 0, vI l1, vI l2, vI l3] [vI s0] M Q := by
  exact w_if_ne d140_19 rfl (fun h => k1 h) (fun h => k2 h)
theorem B_X_bestGain_22 {X : vX} {d : Nat} {M : vM} {Q : Option vV → vM → Prop} {l1 l2 l3 : Int}  (k : Q (some (vL ((-9223372036854775808)))) M) : vw X d 140 22 [vR 0, vI l1, vI l2, vI l3] [] M Q := by
  refine w_ldc2_w (v := (-9223372036854775808)) d140_22 g140_130 rfl ?_
  exact w_lret d140_25 r140 ⟨_, rfl, k⟩
theorem B_X_bestGain_26 {X : vX} {d : Nat} {M : vM} {Q : Option vV → vM → Prop} {l1 l2 l3 : Int}  (k : cq X d 176 [vR 0, vI l3, vI l1] M (fun r M1 => wp X d 140 32 [vR 0, vI l1, vI l2, vI l3] (r.toList ++ []) (vS0, M1) (vP Q))) : vw X d 140 26 [vR 0, vI l1, vI l2, vI l3] [] M Q := by
  refine w_aload_n d140_26 rfl ?_
  refine w_iload_n d140_27 rfl ?_
  refine w_iload_n d140_28 rfl ?_
  exact w_inv0 (a := 0) (c := 10) d140_29 c140_174 rfl rfl rfl v176 (Nat.le_of_ble_eq_true rfl) (cq.cl (k))
theorem B_X_bestGain_32 {X : vX} {d : Nat} {M : vM} {Q : Option vV → vM → Prop} {l1 l2 l3 s0 : Int} (hR : vRefs M)  (k : cq X d 97 [vR 13] M (fun r M1 => wp X d 140 42 [vR 0, vI l1, vI l2, vI l3] (r.toList ++ [vL 12, vL s0]) (vS0, M1) (vP Q))) : vw X d 140 32 [vR 0, vI l1, vI l2, vI l3] [vL s0] M Q := by
  refine w_ldc2_w (v := 12) d140_32 g140_147 rfl ?_
  refine w_aload_n d140_35 rfl ?_
  refine w_getf (a := 0) (v := vR 13) d140_36 f140_29 rfl rfl (congrArg vR (rf_0_1 hR)) ?_
  exact w_inv0 (a := 13) (c := 6) d140_39 c140_149 rfl rfl rfl v97 (Nat.le_of_ble_eq_true rfl) (cq.cl (k))
theorem B_X_bestGain_42 {X : vX} {d : Nat} {M : vM} {Q : Option vV → vM → Prop} {l1 l2 l3 s0 s1 s2 : Int}  (k : cq X d 182 [vL s0, vL (w64 (s1 * s2)), vI l2] M (fun r M1 => wp X d 140 47 [vR 0, vI l1, vI l2, vI l3] (r.toList ++ []) (vS0, M1) (vP Q))) : vw X d 140 42 [vR 0, vI l1, vI l2, vI l3] [vL s2, vL s1, vL s0] M Q := by
  refine w_lmul d140_42 ?_
  refine w_iload_n d140_43 rfl ?_
  exact w_inv1 d140_44 c140_152 (by decide) rfl (Nat.le_of_ble_eq_true rfl) (cq.cl (k))
theorem B_X_bestGain_47 {X : vX} {d : Nat} {M : vM} {Q : Option vV → vM → Prop} {l1 l2 l3 s0 : Int}  (k : Q (some (vL s0)) M) : vw X d 140 47 [vR 0, vI l1, vI l2, vI l3] [vL s0] M Q := by
  exact w_lret d140_47 r140 ⟨_, rfl, k⟩
theorem E_X_bestGain {X : vX} {d : Nat} {M : vM} {Q : Option vV → vM → Prop} {l1 l2 : Int} (k : vw X d 140 0 [vR 0, vI l1, vI l2, vN] [] M Q) : cq X (d + 1) 140 [vR 0, vI l1, vI l2] M Q := wc_in (Nat.le_of_ble_eq_true rfl) (Nat.le_of_ble_eq_true rfl) k
theorem cd141 : vm_cd 141 = cX11_coarser := rfl
theorem d141_0 : decode (vm_cd 141) 0 = .ok (.aload_n 0, 1) := (congrArg (fun b => decode b 0) cd141).trans (by decide +kernel)
theorem d141_1 : decode (vm_cd 141) 1 = .ok (.getfield 22, 3) := (congrArg (fun b => decode b 1) cd141).trans (by decide +kernel)
theorem d141_4 : decode (vm_cd 141) 4 = .ok (.iload_n 1, 1) := (congrArg (fun b => decode b 4) cd141).trans (by decide +kernel)
theorem d141_5 : decode (vm_cd 141) 5 = .ok (.invokevirtual 104, 3) := (congrArg (fun b => decode b 5) cd141).trans (by decide +kernel)
theorem d141_8 : decode (vm_cd 141) 8 = .ok (.ifCond .eq 18, 3) := (congrArg (fun b => decode b 8) cd141).trans (by decide +kernel)
theorem d141_11 : decode (vm_cd 141) 11 = .ok (.iload_n 2, 1) := (congrArg (fun b => decode b 11) cd141).trans (by decide +kernel)
theorem d141_12 : decode (vm_cd 141) 12 = .ok (.invokestatic 111, 3) := (congrArg (fun b => decode b 12) cd141).trans (by decide +kernel)
theorem d141_15 : decode (vm_cd 141) 15 = .ok (.ifCond .eq 11, 3) := (congrArg (fun b => decode b 15) cd141).trans (by decide +kernel)
theorem d141_18 : decode (vm_cd 141) 18 = .ok (.aload_n 0, 1) := (congrArg (fun b => decode b 18) cd141).trans (by decide +kernel)
theorem d141_19 : decode (vm_cd 141) 19 = .ok (.iload_n 3, 1) := (congrArg (fun b => decode b 19) cd141).trans (by decide +kernel)
theorem d141_20 : decode (vm_cd 141) 20 = .ok (.invokevirtual 181, 3) := (congrArg (fun b => decode b 20) cd141).trans (by decide +kernel)
theorem d141_23 : decode (vm_cd 141) 23 = .ok (.ifCond .ne 7, 3) := (congrArg (fun b => decode b 23) cd141).trans (by decide +kernel)
theorem d141_26 : decode (vm_cd 141) 26 = .ok (.ldc2_w 130, 3) := (congrArg (fun b => decode b 26) cd141).trans (by decide +kernel)
theorem d141_29 : decode (vm_cd 141) 29 = .ok (.lreturn, 1) := (congrArg (fun b => decode b 29) cd141).trans (by decide +kernel)
theorem d141_30 : decode (vm_cd 141) 30 = .ok (.aload_n 0, 1) := (congrArg (fun b => decode b 30) cd141).trans (by decide +kernel)
theorem d141_31 : decode (vm_cd 141) 31 = .ok (.getfield 22, 3) := (congrArg (fun b => decode b 31) cd141).trans (by decide +kernel)
theorem d141_34 : decode (vm_cd 141) 34 = .ok (.aload_n 0, 1) := (congrArg (fun b => decode b 34) cd141).trans (by decide +kernel)
theorem d141_35 : decode (vm_cd 141) 35 = .ok (.getfield 29, 3) := (congrArg (fun b => decode b 35) cd141).trans (by decide +kernel)
theorem d141_38 : decode (vm_cd 141) 38 = .ok (.iload_n 1, 1) := (congrArg (fun b => decode b 38) cd141).trans (by decide +kernel)
theorem d141_39 : decode (vm_cd 141) 39 = .ok (.iconst 1, 1) := (congrArg (fun b => decode b 39) cd141).trans (by decide +kernel)
theorem d141_40 : decode (vm_cd 141) 40 = .ok (.iload_n 2, 1) := (congrArg (fun b => decode b 40) cd141).trans (by decide +kernel)
theorem d141_41 : decode (vm_cd 141) 41 = .ok (.ishl, 1) := (congrArg (fun b => decode b 41) cd141).trans (by decide +kernel)
theorem d141_42 : decode (vm_cd 141) 42 = .ok (.aload_n 0, 1) := (congrArg (fun b => decode b 42) cd141).trans (by decide +kernel)
theorem d141_43 : decode (vm_cd 141) 43 = .ok (.getfield 89, 3) := (congrArg (fun b => decode b 43) cd141).trans (by decide +kernel)
theorem d141_46 : decode (vm_cd 141) 46 = .ok (.invokevirtual 184, 3) := (congrArg (fun b => decode b 46) cd141).trans (by decide +kernel)
theorem d141_49 : decode (vm_cd 141) 49 = .ok (.aload_n 0, 1) := (congrArg (fun b => decode b 49) cd141).trans (by decide +kernel)
theorem d141_50 : decode (vm_cd 141) 50 = .ok (.getfield 29, 3) := (congrArg (fun b => decode b 50) cd141).trans (by decide +kernel)
theorem d141_53 : decode (vm_cd 141) 53 = .ok (.invokevirtual 164, 3) := (congrArg (fun b => decode b 53) cd141).trans (by decide +kernel)
theorem d141_56 : decode (vm_cd 141) 56 = .ok (.ifCond .eq 29, 3) := (congrArg (fun b => decode b 56) cd141).trans (by decide +kernel)
theorem d141_59 : decode (vm_cd 141) 59 = .ok (.aload_n 0, 1) := (congrArg (fun b => decode b 59) cd141).trans (by decide +kernel)
theorem d141_60 : decode (vm_cd 141) 60 = .ok (.getfield 29, 3) := (congrArg (fun b => decode b 60) cd141).trans (by decide +kernel)
theorem d141_63 : decode (vm_cd 141) 63 = .ok (.invokevirtual 143, 3) := (congrArg (fun b => decode b 63) cd141).trans (by decide +kernel)
theorem d141_66 : decode (vm_cd 141) 66 = .ok (.ldc2_w 147, 3) := (congrArg (fun b => decode b 66) cd141).trans (by decide +kernel)
theorem d141_69 : decode (vm_cd 141) 69 = .ok (.aload_n 0, 1) := (congrArg (fun b => decode b 69) cd141).trans (by decide +kernel)
theorem d141_70 : decode (vm_cd 141) 70 = .ok (.getfield 29, 3) := (congrArg (fun b => decode b 70) cd141).trans (by decide +kernel)
theorem d141_73 : decode (vm_cd 141) 73 = .ok (.invokevirtual 149, 3) := (congrArg (fun b => decode b 73) cd141).trans (by decide +kernel)
theorem d141_76 : decode (vm_cd 141) 76 = .ok (.lmul, 1) := (congrArg (fun b => decode b 76) cd141).trans (by decide +kernel)
theorem d141_77 : decode (vm_cd 141) 77 = .ok (.iload 4, 2) := (congrArg (fun b => decode b 77) cd141).trans (by decide +kernel)
theorem d141_79 : decode (vm_cd 141) 79 = .ok (.invokestatic 152, 3) := (congrArg (fun b => decode b 79) cd141).trans (by decide +kernel)
theorem d141_82 : decode (vm_cd 141) 82 = .ok (.goto 6, 3) := (congrArg (fun b => decode b 82) cd141).trans (by decide +kernel)
theorem d141_85 : decode (vm_cd 141) 85 = .ok (.ldc2_w 130, 3) := (congrArg (fun b => decode b 85) cd141).trans (by decide +kernel)
theorem d141_88 : decode (vm_cd 141) 88 = .ok (.lreturn, 1) := (congrArg (fun b => decode b 88) cd141).trans (by decide +kernel)
theorem f141_22 : vm_fl.lookup (vm_own 141, 22) = some (10, 0, 250) := by decide +kernel
theorem f141_29 : vm_fl.lookup (vm_own 141, 29) = some (10, 1, 251) := by decide +kernel
theorem f141_89 : vm_fl.lookup (vm_own 141, 89) = some (10, 11, 261) := by decide +kernel
theorem c141_104 : vm_ml.lookup (vm_own 141, 104) = some (0, 5, 1, 306, 307, 381, 2) := vm_lk (by decide +kernel)
theorem c141_111 : vm_ml.lookup (vm_own 141, 111) = some (1, 180, 1, 318, 319, 0, 1) := vm_lk (by decide +kernel)
theorem c141_143 : vm_ml.lookup (vm_own 141, 143) = some (0, 95, 0, 458, 459, 533, 4) := vm_lk (by decide +kernel)
theorem c141_149 : vm_ml.lookup (vm_own 141, 149) = some (0, 97, 0, 463, 464, 538, 4) := vm_lk (by decide +kernel)
theorem c141_152 : vm_ml.lookup (vm_own 141, 152) = some (1, 182, 3, 467, 468, 0, 1) := vm_lk (by decide +kernel)
theorem c141_164 : vm_ml.lookup (vm_own 141, 164) = some (0, 90, 0, 433, 434, 508, 4) := vm_lk (by decide +kernel)
theorem c141_181 : vm_ml.lookup (vm_own 141, 181) = some (0, 177, 1, 518, 520, 10, 1) := vm_lk (by decide +kernel)
theorem c141_184 : vm_ml.lookup (vm_own 141, 184) = some (0, 22, 4, 398, 399, 473, 2) := vm_lk (by decide +kernel)
theorem g141_130 : vm_cn.lookup (vm_own 141, 130) = some ((1), (-9223372036854775808), (365)) := by decide +kernel
theorem g141_147 : vm_cn.lookup (vm_own 141, 147) = some ((1), (12), (462)) := by decide +kernel
theorem r141 : vm_rt 141 = (some .long) := by decide +kernel
theorem B_X_coarser_0 {X : vX} {d : Nat} {M : vM} {Q : Option vV → vM → Prop} {l1 l2 l3 l4 : Int} (hR : vRefs M)  (k : cq X d 5 [vR 1, vI l1] M (fun r M1 => wp X d 141 8 [vR 0, vI l1, vI l2, vI l3, vI l4] (r.toList ++ []) (vS0, M1) (vP Q))) : vw X d 141 0 [vR 0, vI l1, vI l2, vI l3, vI l4] [] M Q := by
  refine w_aload_n d141_0 rfl ?_
  refine w_getf (a := 0) (v := vR 1) d141_1 f141_22 rfl rfl (congrArg vR (rf_0_0 hR)) ?_
  refine w_iload_n d141_4 rfl ?_
  exact w_inv0 (a := 1) (c := 0) d141_5 c141_104 rfl rfl rfl v5 (Nat.le_of_ble_eq_true rfl) (cq.cl (k))
theorem B_X_coarser_8 {X : vX} {d : Nat} {M : vM} {Q : Option vV → vM → Prop} {l1 l2 l3 l4 s0 : Int}  (k1 : s0 = 0 → vw X d 141 26 [vR 0, vI l1, vI l2, vI l3, vI l4] [] M Q) (k2 : ¬ s0 = 0 → vw X d 141 11 [vR 0, vI l1, vI l2, vI l3, vI l4] [] M Q) : vw X d 141 8 [vR 0, vI l1, vI l2, vI l3, vI l4] [vI s0] M Q := by
  exact w_if_eq d141_8 rfl (fun h => k1 h) (fun h => k2 h)
theorem B_X_coarser_11 {X : vX} {d : Nat} {M : vM} {Q : Option vV → vM → Prop} {l1 l2 l3 l4 : Int}  (k : cq X d 180 [vI l2] M (fun r M1 => wp X d 141 15 [vR 0, vI l1, vI l2, vI l3, vI l4] (r.toList ++ []) (vS0, M1) (vP Q))) : vw X d 141 11 [vR 0, vI l1, vI l2, vI l3, vI l4] [] M Q := by
  refine w_iload_n d141_11 rfl ?_
  exact w_inv1 d141_12 c141_111 (by decide) rfl (Nat.le_of_ble_eq_true rfl) (cq.cl (k))
theorem B_X_coarser_15 {X : vX} {d : Nat} {M : vM} {Q : Option vV → vM → Prop} {l1 l2 l3 l4 s0 : Int}  (k1 : s0 = 0 → vw X d 141 26 [vR 0, vI l1, vI l2, vI l3, vI l4] [] M Q) (k2 : ¬ s0 = 0 → vw X d 141 18 [vR 0, vI l1, vI l2, vI l3, vI l4] [] M Q) : vw X d 141 15 [vR 0, vI l1, vI l2, vI l3, vI l4] [vI s0] M Q := by
  exact w_if_eq d141_15 rfl (fun h => k1 h) (fun h => k2 h)
theorem B_X_coarser_18 {X : vX} {d : Nat} {M : vM} {Q : Option vV → vM → Prop} {l1 l2 l3 l4 : Int}  (k : cq X d 177 [vR 0, vI l3] M (fun r M1 => wp X d 141 23 [vR 0, vI l1, vI l2, vI l3, vI l4] (r.toList ++ []) (vS0, M1) (vP Q))) : vw X d 141 18 [vR 0, vI l1, vI l2, vI l3, vI l4] [] M Q := by
  refine w_aload_n d141_18 rfl ?_
  refine w_iload_n d141_19 rfl ?_
  exact w_inv0 (a := 0) (c := 10) d141_20 c141_181 rfl rfl rfl v177 (Nat.le_of_ble_eq_true rfl) (cq.cl (k))
theorem B_X_coarser_23 {X : vX} {d : Nat} {M : vM} {Q : Option vV → vM → Prop} {l1 l2 l3 l4 s0 : Int}  (k1 : ¬ s0 = 0 → vw X d 141 30 [vR 0, vI l1, vI l2, vI l3, vI l4] [] M Q) (k2 : s0 = 0 → vw X d 141 26 [vR 0, vI l1, vI l2, vI l3, vI l4] [] M Q) : vw X d 141 23 [vR 0, vI l1, vI l2, vI l3, vI l4] [vI s0] M Q := by
  exact w_if_ne d141_23 rfl (fun h => k1 h) (fun h => k2 h)
theorem B_X_coarser_26 {X : vX} {d : Nat} {M : vM} {Q : Option vV → vM → Prop} {l1 l2 l3 l4 : Int}  (k : Q (some (vL ((-9223372036854775808)))) M) : vw X d 141 26 [vR 0, vI l1, vI l2, vI l3, vI l4] [] M Q := by
  refine w_ldc2_w (v := (-9223372036854775808)) d141_26 g141_130 rfl ?_
  exact w_lret d141_29 r141 ⟨_, rfl, k⟩
theorem B_X_coarser_30 {X : vX} {d : Nat} {M : vM} {Q : Option vV → vM → Prop} {l1 l2 l3 l4 : Int} (hR : vRefs M)  (k : cq X d 22 [vR 1, vR 13, vI l1, vI (j_ishl 1 l2), vR 80] M (fun r M1 => wp X d 141 49 [vR 0, vI l1, vI l2, vI l3, vI l4] (r.toList ++ []) (vS0, M1) (vP Q))) : vw X d 141 30 [vR 0, vI l1, vI l2, vI l3, vI l4] [] M Q := by
  refine w_aload_n d141_30 rfl ?_
  refine w_getf (a := 0) (v := vR 1) d141_31 f141_22 rfl rfl (congrArg vR (rf_0_0 hR)) ?_
  refine w_aload_n d141_34 rfl ?_
  refine w_getf (a := 0) (v := vR 13) d141_35 f141_29 rfl rfl (congrArg vR (rf_0_1 hR)) ?_
  refine w_iload_n d141_38 rfl ?_
  refine w_ic (v := 1) d141_39 rfl ?_
  refine w_iload_n d141_40 rfl ?_
  refine w_ishl d141_41 ?_
  refine w_aload_n d141_42 rfl ?_
  refine w_getf (a := 0) (v := vR 80) d141_43 f141_89 rfl rfl (congrArg vR (rf_0_11 hR)) ?_
  exact w_inv0 (a := 1) (c := 0) d141_46 c141_184 rfl rfl rfl v22 (Nat.le_of_ble_eq_true rfl) (cq.cl (k))
theorem B_X_coarser_49 {X : vX} {d : Nat} {M : vM} {Q : Option vV → vM → Prop} {l1 l2 l3 l4 : Int} (hR : vRefs M)  (k : cq X d 90 [vR 13] M (fun r M1 => wp X d 141 56 [vR 0, vI l1, vI l2, vI l3, vI l4] (r.toList ++ []) (vS0, M1) (vP Q))) : vw X d 141 49 [vR 0, vI l1, vI l2, vI l3, vI l4] [] M Q := by
  refine w_aload_n d141_49 rfl ?_
  refine w_getf (a := 0) (v := vR 13) d141_50 f141_29 rfl rfl (congrArg vR (rf_0_1 hR)) ?_
  exact w_inv0 (a := 13) (c := 6) d141_53 c141_164 rfl rfl rfl v90 (Nat.le_of_ble_eq_true rfl) (cq.cl (k))
theorem B_X_coarser_56 {X : vX} {d : Nat} {M : vM} {Q : Option vV → vM → Prop} {l1 l2 l3 l4 s0 : Int}  (k1 : s0 = 0 → vw X d 141 85 [vR 0, vI l1, vI l2, vI l3, vI l4] [] M Q) (k2 : ¬ s0 = 0 → vw X d 141 59 [vR 0, vI l1, vI l2, vI l3, vI l4] [] M Q) : vw X d 141 56 [vR 0, vI l1, vI l2, vI l3, vI l4] [vI s0] M Q := by
  exact w_if_eq d141_56 rfl (fun h => k1 h) (fun h => k2 h)
theorem B_X_coarser_59 {X : vX} {d : Nat} {M : vM} {Q : Option vV → vM → Prop} {l1 l2 l3 l4 : Int} (hR : vRefs M)  (k : cq X d 95 [vR 13] M (fun r M1 => wp X d 141 66 [vR 0, vI l1, vI l2, vI l3, vI l4] (r.toList ++ []) (vS0, M1) (vP Q))) : vw X d 141 59 [vR 0, vI l1, vI l2, vI l3, vI l4] [] M Q := by
  refine w_aload_n d141_59 rfl ?_
  refine w_getf (a := 0) (v := vR 13) d141_60 f141_29 rfl rfl (congrArg vR (rf_0_1 hR)) ?_
  exact w_inv0 (a := 13) (c := 6) d141_63 c141_143 rfl rfl rfl v95 (Nat.le_of_ble_eq_true rfl) (cq.cl (k))
theorem B_X_coarser_66 {X : vX} {d : Nat} {M : vM} {Q : Option vV → vM → Prop} {l1 l2 l3 l4 s0 : Int} (hR : vRefs M)  (k : cq X d 97 [vR 13] M (fun r M1 => wp X d 141 76 [vR 0, vI l1, vI l2, vI l3, vI l4] (r.toList ++ [vL 12, vL s0]) (vS0, M1) (vP Q))) : vw X d 141 66 [vR 0, vI l1, vI l2, vI l3, vI l4] [vL s0] M Q := by
  refine w_ldc2_w (v := 12) d141_66 g141_147 rfl ?_
  refine w_aload_n d141_69 rfl ?_
  refine w_getf (a := 0) (v := vR 13) d141_70 f141_29 rfl rfl (congrArg vR (rf_0_1 hR)) ?_
  exact w_inv0 (a := 13) (c := 6) d141_73 c141_149 rfl rfl rfl v97 (Nat.le_of_ble_eq_true rfl) (cq.cl (k))
theorem B_X_coarser_76 {X : vX} {d : Nat} {M : vM} {Q : Option vV → vM → Prop} {l1 l2 l3 l4 s0 s1 s2 : Int}  (k : cq X d 182 [vL s0, vL (w64 (s1 * s2)), vI l4] M (fun r M1 => wp X d 141 82 [vR 0, vI l1, vI l2, vI l3, vI l4] (r.toList ++ []) (vS0, M1) (vP Q))) : vw X d 141 76 [vR 0, vI l1, vI l2, vI l3, vI l4] [vL s2, vL s1, vL s0] M Q := by
  refine w_lmul d141_76 ?_
  refine w_iload d141_77 rfl ?_
  exact w_inv1 d141_79 c141_152 (by decide) rfl (Nat.le_of_ble_eq_true rfl) (cq.cl (k))
theorem B_X_coarser_82 {X : vX} {d : Nat} {M : vM} {Q : Option vV → vM → Prop} {l1 l2 l3 l4 s0 : Int}  (k : Q (some (vL s0)) M) : vw X d 141 82 [vR 0, vI l1, vI l2, vI l3, vI l4] [vL s0] M Q := by
  refine w_goto (tgt := 88) d141_82 rfl ?_
  exact w_lret d141_88 r141 ⟨_, rfl, k⟩
theorem B_X_coarser_85 {X : vX} {d : Nat} {M : vM} {Q : Option vV → vM → Prop} {l1 l2 l3 l4 : Int}  (k : Q (some (vL ((-9223372036854775808)))) M) : vw X d 141 85 [vR 0, vI l1, vI l2, vI l3, vI l4] [] M Q := by
  refine w_ldc2_w (v := (-9223372036854775808)) d141_85 g141_130 rfl ?_
  exact w_lret d141_88 r141 ⟨_, rfl, k⟩
theorem E_X_coarser {X : vX} {d : Nat} {M : vM} {Q : Option vV → vM → Prop} {l1 l2 l3 l4 : Int} (k : vw X d 141 0 [vR 0, vI l1, vI l2, vI l3, vI l4] [] M Q) : cq X (d + 1) 141 [vR 0, vI l1, vI l2, vI l3, vI l4] M Q := wc_in (Nat.le_of_ble_eq_true rfl) (Nat.le_of_ble_eq_true rfl) k
theorem cd142 : vm_cd 142 = cX11_work := rfl
theorem d142_0 : decode (vm_cd 142) 0 = .ok (.iload_n 1, 1) := (congrArg (fun b => decode b 0) cd142).trans (by decide +kernel)
theorem d142_1 : decode (vm_cd 142) 1 = .ok (.iconst 1, 1) := (congrArg (fun b => decode b 1) cd142).trans (by decide +kernel)
theorem d142_2 : decode (vm_cd 142) 2 = .ok (.bipush 9, 2) := (congrArg (fun b => decode b 2) cd142).trans (by decide +kernel)
theorem d142_4 : decode (vm_cd 142) 4 = .ok (.invokestatic 92, 3) := (congrArg (fun b => decode b 4) cd142).trans (by decide +kernel)
theorem d142_7 : decode (vm_cd 142) 7 = .ok (.ifCond .ne 5, 3) := (congrArg (fun b => decode b 7) cd142).trans (by decide +kernel)
theorem d142_10 : decode (vm_cd 142) 10 = .ok (.iconst (-1), 1) := (congrArg (fun b => decode b 10) cd142).trans (by decide +kernel)
theorem d142_11 : decode (vm_cd 142) 11 = .ok (.ireturn, 1) := (congrArg (fun b => decode b 11) cd142).trans (by decide +kernel)
theorem d142_12 : decode (vm_cd 142) 12 = .ok (.iload_n 2, 1) := (congrArg (fun b => decode b 12) cd142).trans (by decide +kernel)
theorem d142_13 : decode (vm_cd 142) 13 = .ok (.iconst 0, 1) := (congrArg (fun b => decode b 13) cd142).trans (by decide +kernel)
theorem d142_14 : decode (vm_cd 142) 14 = .ok (.sipush 9999, 3) := (congrArg (fun b => decode b 14) cd142).trans (by decide +kernel)
theorem d142_17 : decode (vm_cd 142) 17 = .ok (.invokestatic 92, 3) := (congrArg (fun b => decode b 17) cd142).trans (by decide +kernel)
theorem d142_20 : decode (vm_cd 142) 20 = .ok (.ifCond .eq 15, 3) := (congrArg (fun b => decode b 20) cd142).trans (by decide +kernel)
theorem d142_23 : decode (vm_cd 142) 23 = .ok (.aload_n 0, 1) := (congrArg (fun b => decode b 23) cd142).trans (by decide +kernel)
theorem d142_24 : decode (vm_cd 142) 24 = .ok (.getfield 36, 3) := (congrArg (fun b => decode b 24) cd142).trans (by decide +kernel)
theorem d142_27 : decode (vm_cd 142) 27 = .ok (.iload_n 1, 1) := (congrArg (fun b => decode b 27) cd142).trans (by decide +kernel)
theorem d142_28 : decode (vm_cd 142) 28 = .ok (.iload_n 2, 1) := (congrArg (fun b => decode b 28) cd142).trans (by decide +kernel)
theorem d142_29 : decode (vm_cd 142) 29 = .ok (.invokevirtual 188, 3) := (congrArg (fun b => decode b 29) cd142).trans (by decide +kernel)
theorem d142_32 : decode (vm_cd 142) 32 = .ok (.goto 5, 3) := (congrArg (fun b => decode b 32) cd142).trans (by decide +kernel)
theorem d142_35 : decode (vm_cd 142) 35 = .ok (.bipush (-2), 2) := (congrArg (fun b => decode b 35) cd142).trans (by decide +kernel)
theorem d142_37 : decode (vm_cd 142) 37 = .ok (.ireturn, 1) := (congrArg (fun b => decode b 37) cd142).trans (by decide +kernel)
theorem f142_36 : vm_fl.lookup (vm_own 142, 36) = some (10, 2, 252) := by decide +kernel
theorem c142_92 : vm_ml.lookup (vm_own 142, 92) = some (1, 179, 3, 291, 292, 0, 1) := vm_lk (by decide +kernel)
theorem c142_188 : vm_ml.lookup (vm_own 142, 188) = some (0, 49, 2, 530, 531, 605, 5) := vm_lk (by decide +kernel)
theorem r142 : vm_rt 142 = (some .int) := by decide +kernel
theorem B_X_work_0 {X : vX} {d : Nat} {M : vM} {Q : Option vV → vM → Prop} {l1 l2 : Int}  (k : cq X d 179 [vI l1, vI 1, vI 9] M (fun r M1 => wp X d 142 7 [vR 0, vI l1, vI l2] (r.toList ++ []) (vS0, M1) (vP Q))) : vw X d 142 0 [vR 0, vI l1, vI l2] [] M Q := by
  refine w_iload_n d142_0 rfl ?_
  refine w_ic (v := 1) d142_1 rfl ?_
  refine w_bi (v := 9) d142_2 rfl ?_
  exact w_inv1 d142_4 c142_92 (by decide) rfl (Nat.le_of_ble_eq_true rfl) (cq.cl (k))
theorem B_X_work_7 {X : vX} {d : Nat} {M : vM} {Q : Option vV → vM → Prop} {l1 l2 s0 : Int}  (k1 : ¬ s0 = 0 → vw X d 142 12 [vR 0, vI l1, vI l2] [] M Q) (k2 : s0 = 0 → vw X d 142 10 [vR 0, vI l1, vI l2] [] M Q) : vw X d 142 7 [vR 0, vI l1, vI l2] [vI s0] M Q := by
  exact w_if_ne d142_7 rfl (fun h => k1 h) (fun h => k2 h)
theorem B_X_work_10 {X : vX} {d : Nat} {M : vM} {Q : Option vV → vM → Prop} {l1 l2 : Int}  (k : Q (some (vI ((-1)))) M) : vw X d 142 10 [vR 0, vI l1, vI l2] [] M Q := by
  refine w_ic (v := (-1)) d142_10 rfl ?_
  exact w_iret d142_11 r142 ⟨_, rfl, k⟩
theorem B_X_work_12 {X : vX} {d : Nat} {M : vM} {Q : Option vV → vM → Prop} {l1 l2 : Int}  (k : cq X d 179 [vI l2, vI 0, vI 9999] M (fun r M1 => wp X d 142 20 [vR 0, vI l1, vI l2] (r.toList ++ []) (vS0, M1) (vP Q))) : vw X d 142 12 [vR 0, vI l1, vI l2] [] M Q := by
  refine w_iload_n d142_12 rfl ?_
  refine w_ic (v := 0) d142_13 rfl ?_
  refine w_si (v := 9999) d142_14 rfl ?_
  exact w_inv1 d142_17 c142_92 (by decide) rfl (Nat.le_of_ble_eq_true rfl) (cq.cl (k))
theorem B_X_work_20 {X : vX} {d : Nat} {M : vM} {Q : Option vV → vM → Prop} {l1 l2 s0 : Int}  (k1 : s0 = 0 → vw X d 142 35 [vR 0, vI l1, vI l2] [] M Q) (k2 : ¬ s0 = 0 → vw X d 142 23 [vR 0, vI l1, vI l2] [] M Q) : vw X d 142 20 [vR 0, vI l1, vI l2] [vI s0] M Q := by
  exact w_if_eq d142_20 rfl (fun h => k1 h) (fun h => k2 h)
theorem B_X_work_23 {X : vX} {d : Nat} {M : vM} {Q : Option vV → vM → Prop} {l1 l2 : Int} (hR : vRefs M)  (k : cq X d 49 [vR 28, vI l1, vI l2] M (fun r M1 => wp X d 142 32 [vR 0, vI l1, vI l2] (r.toList ++ []) (vS0, M1) (vP Q))) : vw X d 142 23 [vR 0, vI l1, vI l2] [] M Q := by
  refine w_aload_n d142_23 rfl ?_
  refine w_getf (a := 0) (v := vR 28) d142_24 f142_36 rfl rfl (congrArg vR (rf_0_2 hR)) ?_
  refine w_iload_n d142_27 rfl ?_
  refine w_iload_n d142_28 rfl ?_
  exact w_inv0 (a := 28) (c := 3) d142_29 c142_188 rfl rfl rfl v49 (Nat.le_of_ble_eq_true rfl) (cq.cl (k))
theorem B_X_work_32 {X : vX} {d : Nat} {M : vM} {Q : Option vV → vM → Prop} {l1 l2 s0 : Int}  (k : Q (some (vI s0)) M) : vw X d 142 32 [vR 0, vI l1, vI l2] [vI s0] M Q := by
  refine w_goto (tgt := 37) d142_32 rfl ?_
  exact w_iret d142_37 r142 ⟨_, rfl, k⟩
theorem B_X_work_35 {X : vX} {d : Nat} {M : vM} {Q : Option vV → vM → Prop} {l1 l2 : Int}  (k : Q (some (vI ((-2)))) M) : vw X d 142 35 [vR 0, vI l1, vI l2] [] M Q := by
  refine w_bi (v := (-2)) d142_35 rfl ?_
  exact w_iret d142_37 r142 ⟨_, rfl, k⟩
theorem E_X_work {X : vX} {d : Nat} {M : vM} {Q : Option vV → vM → Prop} {l1 l2 : Int} (k : vw X d 142 0 [vR 0, vI l1, vI l2] [] M Q) : cq X (d + 1) 142 [vR 0, vI l1, vI l2] M Q := wc_in (Nat.le_of_ble_eq_true rfl) (Nat.le_of_ble_eq_true rfl) k
theorem cd143 : vm_cd 143 = cX11_menu := rfl
theorem d143_0 : decode (vm_cd 143) 0 = .ok (.iload 5, 2) := (congrArg (fun b => decode b 0) cd143).trans (by decide +kernel)
theorem d143_2 : decode (vm_cd 143) 2 = .ok (.iconst 0, 1) := (congrArg (fun b => decode b 2) cd143).trans (by decide +kernel)
theorem d143_3 : decode (vm_cd 143) 3 = .ok (.iconst 5, 1) := (congrArg (fun b => decode b 3) cd143).trans (by decide +kernel)
theorem d143_4 : decode (vm_cd 143) 4 = .ok (.invokestatic 92, 3) := (congrArg (fun b => decode b 4) cd143).trans (by decide +kernel)
theorem d143_7 : decode (vm_cd 143) 7 = .ok (.ifCond .ne 5, 3) := (congrArg (fun b => decode b 7) cd143).trans (by decide +kernel)
theorem d143_10 : decode (vm_cd 143) 10 = .ok (.iconst (-1), 1) := (congrArg (fun b => decode b 10) cd143).trans (by decide +kernel)
theorem d143_11 : decode (vm_cd 143) 11 = .ok (.ireturn, 1) := (congrArg (fun b => decode b 11) cd143).trans (by decide +kernel)
theorem d143_12 : decode (vm_cd 143) 12 = .ok (.iload_n 1, 1) := (congrArg (fun b => decode b 12) cd143).trans (by decide +kernel)
theorem d143_13 : decode (vm_cd 143) 13 = .ok (.iload_n 2, 1) := (congrArg (fun b => decode b 13) cd143).trans (by decide +kernel)
theorem d143_14 : decode (vm_cd 143) 14 = .ok (.invokestatic 189, 3) := (congrArg (fun b => decode b 14) cd143).trans (by decide +kernel)
theorem d143_17 : decode (vm_cd 143) 17 = .ok (.ifCond .eq 12, 3) := (congrArg (fun b => decode b 17) cd143).trans (by decide +kernel)
theorem d143_20 : decode (vm_cd 143) 20 = .ok (.iload_n 3, 1) := (congrArg (fun b => decode b 20) cd143).trans (by decide +kernel)
theorem d143_21 : decode (vm_cd 143) 21 = .ok (.iload 4, 2) := (congrArg (fun b => decode b 21) cd143).trans (by decide +kernel)
theorem d143_23 : decode (vm_cd 143) 23 = .ok (.invokestatic 192, 3) := (congrArg (fun b => decode b 23) cd143).trans (by decide +kernel)
theorem d143_26 : decode (vm_cd 143) 26 = .ok (.ifCond .ne 6, 3) := (congrArg (fun b => decode b 26) cd143).trans (by decide +kernel)
theorem d143_29 : decode (vm_cd 143) 29 = .ok (.bipush (-2), 2) := (congrArg (fun b => decode b 29) cd143).trans (by decide +kernel)
theorem d143_31 : decode (vm_cd 143) 31 = .ok (.ireturn, 1) := (congrArg (fun b => decode b 31) cd143).trans (by decide +kernel)
theorem d143_32 : decode (vm_cd 143) 32 = .ok (.aload_n 0, 1) := (congrArg (fun b => decode b 32) cd143).trans (by decide +kernel)
theorem d143_33 : decode (vm_cd 143) 33 = .ok (.getfield 36, 3) := (congrArg (fun b => decode b 33) cd143).trans (by decide +kernel)
theorem d143_36 : decode (vm_cd 143) 36 = .ok (.iload_n 1, 1) := (congrArg (fun b => decode b 36) cd143).trans (by decide +kernel)
theorem d143_37 : decode (vm_cd 143) 37 = .ok (.iload_n 2, 1) := (congrArg (fun b => decode b 37) cd143).trans (by decide +kernel)
theorem d143_38 : decode (vm_cd 143) 38 = .ok (.iload_n 3, 1) := (congrArg (fun b => decode b 38) cd143).trans (by decide +kernel)
theorem d143_39 : decode (vm_cd 143) 39 = .ok (.iload 4, 2) := (congrArg (fun b => decode b 39) cd143).trans (by decide +kernel)
theorem d143_41 : decode (vm_cd 143) 41 = .ok (.iload 5, 2) := (congrArg (fun b => decode b 41) cd143).trans (by decide +kernel)
theorem d143_43 : decode (vm_cd 143) 43 = .ok (.invokevirtual 195, 3) := (congrArg (fun b => decode b 43) cd143).trans (by decide +kernel)
theorem d143_46 : decode (vm_cd 143) 46 = .ok (.ireturn, 1) := (congrArg (fun b => decode b 46) cd143).trans (by decide +kernel)
theorem f143_36 : vm_fl.lookup (vm_own 143, 36) = some (10, 2, 252) := by decide +kernel
theorem c143_92 : vm_ml.lookup (vm_own 143, 92) = some (1, 179, 3, 291, 292, 0, 1) := vm_lk (by decide +kernel)
theorem c143_189 : vm_ml.lookup (vm_own 143, 189) = some (1, 45, 2, 538, 539, 0, 5) := vm_lk (by decide +kernel)
theorem c143_192 : vm_ml.lookup (vm_own 143, 192) = some (1, 46, 2, 541, 542, 0, 5) := vm_lk (by decide +kernel)
theorem c143_195 : vm_ml.lookup (vm_own 143, 195) = some (0, 50, 5, 544, 545, 619, 5) := vm_lk (by decide +kernel)
theorem r143 : vm_rt 143 = (some .int) := by decide +kernel
theorem B_X_menu_0 {X : vX} {d : Nat} {M : vM} {Q : Option vV → vM → Prop} {l1 l2 l3 l4 l5 : Int}  (k : cq X d 179 [vI l5, vI 0, vI 5] M (fun r M1 => wp X d 143 7 [vR 0, vI l1, vI l2, vI l3, vI l4, vI l5] (r.toList ++ []) (vS0, M1) (vP Q))) : vw X d 143 0 [vR 0, vI l1, vI l2, vI l3, vI l4, vI l5] [] M Q := by
  refine w_iload d143_0 rfl ?_
  refine w_ic (v := 0) d143_2 rfl ?_
  refine w_ic (v := 5) d143_3 rfl ?_
  exact w_inv1 d143_4 c143_92 (by decide) rfl (Nat.le_of_ble_eq_true rfl) (cq.cl (k))
theorem B_X_menu_7 {X : vX} {d : Nat} {M : vM} {Q : Option vV → vM → Prop} {l1 l2 l3 l4 l5 s0 : Int}  (k1 : ¬ s0 = 0 → vw X d 143 12 [vR 0, vI l1, vI l2, vI l3, vI l4, vI l5] [] M Q) (k2 : s0 = 0 → vw X d 143 10 [vR 0, vI l1, vI l2, vI l3, vI l4, vI l5] [] M Q) : vw X d 143 7 [vR 0, vI l1, vI l2, vI l3, vI l4, vI l5] [vI s0] M Q := by
  exact w_if_ne d143_7 rfl (fun h => k1 h) (fun h => k2 h)
theorem B_X_menu_10 {X : vX} {d : Nat} {M : vM} {Q : Option vV → vM → Prop} {l1 l2 l3 l4 l5 : Int}  (k : Q (some (vI ((-1)))) M) : vw X d 143 10 [vR 0, vI l1, vI l2, vI l3, vI l4, vI l5] [] M Q := by
  refine w_ic (v := (-1)) d143_10 rfl ?_
  exact w_iret d143_11 r143 ⟨_, rfl, k⟩
theorem B_X_menu_12 {X : vX} {d : Nat} {M : vM} {Q : Option vV → vM → Prop} {l1 l2 l3 l4 l5 : Int}  (k : cq X d 45 [vI l1, vI l2] M (fun r M1 => wp X d 143 17 [vR 0, vI l1, vI l2, vI l3, vI l4, vI l5] (r.toList ++ []) (vS0, M1) (vP Q))) : vw X d 143 12 [vR 0, vI l1, vI l2, vI l3, vI l4, vI l5] [] M Q := by
  refine w_iload_n d143_12 rfl ?_
  refine w_iload_n d143_13 rfl ?_
  exact w_inv1 d143_14 c143_189 (by decide) rfl (Nat.le_of_ble_eq_true rfl) (cq.cl (k))
theorem B_X_menu_17 {X : vX} {d : Nat} {M : vM} {Q : Option vV → vM → Prop} {l1 l2 l3 l4 l5 s0 : Int}  (k1 : s0 = 0 → vw X d 143 29 [vR 0, vI l1, vI l2, vI l3, vI l4, vI l5] [] M Q) (k2 : ¬ s0 = 0 → vw X d 143 20 [vR 0, vI l1, vI l2, vI l3, vI l4, vI l5] [] M Q) : vw X d 143 17 [vR 0, vI l1, vI l2, vI l3, vI l4, vI l5] [vI s0] M Q := by
  exact w_if_eq d143_17 rfl (fun h => k1 h) (fun h => k2 h)
theorem B_X_menu_20 {X : vX} {d : Nat} {M : vM} {Q : Option vV → vM → Prop} {l1 l2 l3 l4 l5 : Int}  (k : cq X d 46 [vI l3, vI l4] M (fun r M1 => wp X d 143 26 [vR 0, vI l1, vI l2, vI l3, vI l4, vI l5] (r.toList ++ []) (vS0, M1) (vP Q))) : vw X d 143 20 [vR 0, vI l1, vI l2, vI l3, vI l4, vI l5] [] M Q := by
  refine w_iload_n d143_20 rfl ?_
  refine w_iload d143_21 rfl ?_
  exact w_inv1 d143_23 c143_192 (by decide) rfl (Nat.le_of_ble_eq_true rfl) (cq.cl (k))
theorem B_X_menu_26 {X : vX} {d : Nat} {M : vM} {Q : Option vV → vM → Prop} {l1 l2 l3 l4 l5 s0 : Int}  (k1 : ¬ s0 = 0 → vw X d 143 32 [vR 0, vI l1, vI l2, vI l3, vI l4, vI l5] [] M Q) (k2 : s0 = 0 → vw X d 143 29 [vR 0, vI l1, vI l2, vI l3, vI l4, vI l5] [] M Q) : vw X d 143 26 [vR 0, vI l1, vI l2, vI l3, vI l4, vI l5] [vI s0] M Q := by
  exact w_if_ne d143_26 rfl (fun h => k1 h) (fun h => k2 h)
theorem B_X_menu_29 {X : vX} {d : Nat} {M : vM} {Q : Option vV → vM → Prop} {l1 l2 l3 l4 l5 : Int}  (k : Q (some (vI ((-2)))) M) : vw X d 143 29 [vR 0, vI l1, vI l2, vI l3, vI l4, vI l5] [] M Q := by
  refine w_bi (v := (-2)) d143_29 rfl ?_
  exact w_iret d143_31 r143 ⟨_, rfl, k⟩
theorem B_X_menu_32 {X : vX} {d : Nat} {M : vM} {Q : Option vV → vM → Prop} {l1 l2 l3 l4 l5 : Int} (hR : vRefs M)  (k : cq X d 50 [vR 28, vI l1, vI l2, vI l3, vI l4, vI l5] M (fun r M1 => wp X d 143 46 [vR 0, vI l1, vI l2, vI l3, vI l4, vI l5] (r.toList ++ []) (vS0, M1) (vP Q))) : vw X d 143 32 [vR 0, vI l1, vI l2, vI l3, vI l4, vI l5] [] M Q := by
  refine w_aload_n d143_32 rfl ?_
  refine w_getf (a := 0) (v := vR 28) d143_33 f143_36 rfl rfl (congrArg vR (rf_0_2 hR)) ?_
  refine w_iload_n d143_36 rfl ?_
  refine w_iload_n d143_37 rfl ?_
  refine w_iload_n d143_38 rfl ?_
  refine w_iload d143_39 rfl ?_
  refine w_iload d143_41 rfl ?_
  exact w_inv0 (a := 28) (c := 3) d143_43 c143_195 rfl rfl rfl v50 (Nat.le_of_ble_eq_true rfl) (cq.cl (k))
theorem B_X_menu_46 {X : vX} {d : Nat} {M : vM} {Q : Option vV → vM → Prop} {l1 l2 l3 l4 l5 s0 : Int}  (k : Q (some (vI s0)) M) : vw X d 143 46 [vR 0, vI l1, vI l2, vI l3, vI l4, vI l5] [vI s0] M Q := by
  exact w_iret d143_46 r143 ⟨_, rfl, k⟩
theorem E_X_menu {X : vX} {d : Nat} {M : vM} {Q : Option vV → vM → Prop} {l1 l2 l3 l4 l5 : Int} (k : vw X d 143 0 [vR 0, vI l1, vI l2, vI l3, vI l4, vI l5] [] M Q) : cq X (d + 1) 143 [vR 0, vI l1, vI l2, vI l3, vI l4, vI l5] M Q := wc_in (Nat.le_of_ble_eq_true rfl) (Nat.le_of_ble_eq_true rfl) k
theorem cd144 : vm_cd 144 = cX11_may := rfl
theorem d144_0 : decode (vm_cd 144) 0 = .ok (.iload_n 1, 1) := (congrArg (fun b => decode b 0) cd144).trans (by decide +kernel)
theorem d144_1 : decode (vm_cd 144) 1 = .ok (.iload_n 2, 1) := (congrArg (fun b => decode b 1) cd144).trans (by decide +kernel)
theorem d144_2 : decode (vm_cd 144) 2 = .ok (.invokestatic 189, 3) := (congrArg (fun b => decode b 2) cd144).trans (by decide +kernel)
theorem d144_5 : decode (vm_cd 144) 5 = .ok (.ifCond .eq 22, 3) := (congrArg (fun b => decode b 5) cd144).trans (by decide +kernel)
theorem d144_8 : decode (vm_cd 144) 8 = .ok (.iload_n 3, 1) := (congrArg (fun b => decode b 8) cd144).trans (by decide +kernel)
theorem d144_9 : decode (vm_cd 144) 9 = .ok (.iload 4, 2) := (congrArg (fun b => decode b 9) cd144).trans (by decide +kernel)
theorem d144_11 : decode (vm_cd 144) 11 = .ok (.invokestatic 198, 3) := (congrArg (fun b => decode b 11) cd144).trans (by decide +kernel)
theorem d144_14 : decode (vm_cd 144) 14 = .ok (.ifCond .eq 13, 3) := (congrArg (fun b => decode b 14) cd144).trans (by decide +kernel)
theorem d144_17 : decode (vm_cd 144) 17 = .ok (.iload 5, 2) := (congrArg (fun b => decode b 17) cd144).trans (by decide +kernel)
theorem d144_19 : decode (vm_cd 144) 19 = .ok (.iload 6, 2) := (congrArg (fun b => decode b 19) cd144).trans (by decide +kernel)
theorem d144_21 : decode (vm_cd 144) 21 = .ok (.invokestatic 198, 3) := (congrArg (fun b => decode b 21) cd144).trans (by decide +kernel)
theorem d144_24 : decode (vm_cd 144) 24 = .ok (.ifCond .ne 6, 3) := (congrArg (fun b => decode b 24) cd144).trans (by decide +kernel)
theorem d144_27 : decode (vm_cd 144) 27 = .ok (.bipush (-2), 2) := (congrArg (fun b => decode b 27) cd144).trans (by decide +kernel)
theorem d144_29 : decode (vm_cd 144) 29 = .ok (.ireturn, 1) := (congrArg (fun b => decode b 29) cd144).trans (by decide +kernel)
theorem d144_30 : decode (vm_cd 144) 30 = .ok (.iload_n 1, 1) := (congrArg (fun b => decode b 30) cd144).trans (by decide +kernel)
theorem d144_31 : decode (vm_cd 144) 31 = .ok (.iload_n 3, 1) := (congrArg (fun b => decode b 31) cd144).trans (by decide +kernel)
theorem d144_32 : decode (vm_cd 144) 32 = .ok (.iload 4, 2) := (congrArg (fun b => decode b 32) cd144).trans (by decide +kernel)
theorem d144_34 : decode (vm_cd 144) 34 = .ok (.iload 5, 2) := (congrArg (fun b => decode b 34) cd144).trans (by decide +kernel)
theorem d144_36 : decode (vm_cd 144) 36 = .ok (.iload 6, 2) := (congrArg (fun b => decode b 36) cd144).trans (by decide +kernel)
theorem d144_38 : decode (vm_cd 144) 38 = .ok (.invokestatic 201, 3) := (congrArg (fun b => decode b 38) cd144).trans (by decide +kernel)
theorem d144_41 : decode (vm_cd 144) 41 = .ok (.ifCond .eq 21, 3) := (congrArg (fun b => decode b 41) cd144).trans (by decide +kernel)
theorem d144_44 : decode (vm_cd 144) 44 = .ok (.iload_n 2, 1) := (congrArg (fun b => decode b 44) cd144).trans (by decide +kernel)
theorem d144_45 : decode (vm_cd 144) 45 = .ok (.iload 5, 2) := (congrArg (fun b => decode b 45) cd144).trans (by decide +kernel)
theorem d144_47 : decode (vm_cd 144) 47 = .ok (.iload 6, 2) := (congrArg (fun b => decode b 47) cd144).trans (by decide +kernel)
theorem d144_49 : decode (vm_cd 144) 49 = .ok (.iload_n 3, 1) := (congrArg (fun b => decode b 49) cd144).trans (by decide +kernel)
theorem d144_50 : decode (vm_cd 144) 50 = .ok (.iload 4, 2) := (congrArg (fun b => decode b 50) cd144).trans (by decide +kernel)
theorem d144_52 : decode (vm_cd 144) 52 = .ok (.invokestatic 201, 3) := (congrArg (fun b => decode b 52) cd144).trans (by decide +kernel)
theorem d144_55 : decode (vm_cd 144) 55 = .ok (.ifCond .eq 7, 3) := (congrArg (fun b => decode b 55) cd144).trans (by decide +kernel)
theorem d144_58 : decode (vm_cd 144) 58 = .ok (.iconst 1, 1) := (congrArg (fun b => decode b 58) cd144).trans (by decide +kernel)
theorem d144_59 : decode (vm_cd 144) 59 = .ok (.goto 4, 3) := (congrArg (fun b => decode b 59) cd144).trans (by decide +kernel)
theorem d144_62 : decode (vm_cd 144) 62 = .ok (.iconst 0, 1) := (congrArg (fun b => decode b 62) cd144).trans (by decide +kernel)
theorem d144_63 : decode (vm_cd 144) 63 = .ok (.ireturn, 1) := (congrArg (fun b => decode b 63) cd144).trans (by decide +kernel)
theorem c144_189 : vm_ml.lookup (vm_own 144, 189) = some (1, 45, 2, 538, 539, 0, 5) := vm_lk (by decide +kernel)
theorem c144_198 : vm_ml.lookup (vm_own 144, 198) = some (1, 47, 2, 558, 559, 0, 5) := vm_lk (by decide +kernel)
theorem c144_201 : vm_ml.lookup (vm_own 144, 201) = some (1, 48, 5, 562, 563, 0, 5) := vm_lk (by decide +kernel)
theorem r144 : vm_rt 144 = (some .int) := by decide +kernel
theorem B_X_may_0 {X : vX} {d : Nat} {M : vM} {Q : Option vV → vM → Prop} {l1 l2 l3 l4 l5 l6 : Int}  (k : cq X d 45 [vI l1, vI l2] M (fun r M1 => wp X d 144 5 [vR 0, vI l1, vI l2, vI l3, vI l4, vI l5, vI l6] (r.toList ++ []) (vS0, M1) (vP Q))) : vw X d 144 0 [vR 0, vI l1, vI l2, vI l3, vI l4, vI l5, vI l6] [] M Q := by
  refine w_iload_n d144_0 rfl ?_
  refine w_iload_n d144_1 rfl ?_
  exact w_inv1 d144_2 c144_189 (by decide) rfl (Nat.le_of_ble_eq_true rfl) (cq.cl (k))
theorem B_X_may_5 {X : vX} {d : Nat} {M : vM} {Q : Option vV → vM → Prop} {l1 l2 l3 l4 l5 l6 s0 : Int}  (k1 : s0 = 0 → vw X d 144 27 [vR 0, vI l1, vI l2, vI l3, vI l4, vI l5, vI l6] [] M Q) (k2 : ¬ s0 = 0 → vw X d 144 8 [vR 0, vI l1, vI l2, vI l3, vI l4, vI l5, vI l6] [] M Q) : vw X d 144 5 [vR 0, vI l1, vI l2, vI l3, vI l4, vI l5, vI l6] [vI s0] M Q := by
  exact w_if_eq d144_5 rfl (fun h => k1 h) (fun h => k2 h)
theorem B_X_may_8 {X : vX} {d : Nat} {M : vM} {Q : Option vV → vM → Prop} {l1 l2 l3 l4 l5 l6 : Int}  (k : cq X d 47 [vI l3, vI l4] M (fun r M1 => wp X d 144 14 [vR 0, vI l1, vI l2, vI l3, vI l4, vI l5, vI l6] (r.toList ++ []) (vS0, M1) (vP Q))) : vw X d 144 8 [vR 0, vI l1, vI l2, vI l3, vI l4, vI l5, vI l6] [] M Q := by
  refine w_iload_n d144_8 rfl ?_
  refine w_iload d144_9 rfl ?_
  exact w_inv1 d144_11 c144_198 (by decide) rfl (Nat.le_of_ble_eq_true rfl) (cq.cl (k))
theorem B_X_may_14 {X : vX} {d : Nat} {M : vM} {Q : Option vV → vM → Prop} {l1 l2 l3 l4 l5 l6 s0 : Int}  (k1 : s0 = 0 → vw X d 144 27 [vR 0, vI l1, vI l2, vI l3, vI l4, vI l5, vI l6] [] M Q) (k2 : ¬ s0 = 0 → vw X d 144 17 [vR 0, vI l1, vI l2, vI l3, vI l4, vI l5, vI l6] [] M Q) : vw X d 144 14 [vR 0, vI l1, vI l2, vI l3, vI l4, vI l5, vI l6] [vI s0] M Q := by
  exact w_if_eq d144_14 rfl (fun h => k1 h) (fun h => k2 h)
theorem B_X_may_17 {X : vX} {d : Nat} {M : vM} {Q : Option vV → vM → Prop} {l1 l2 l3 l4 l5 l6 : Int}  (k : cq X d 47 [vI l5, vI l6] M (fun r M1 => wp X d 144 24 [vR 0, vI l1, vI l2, vI l3, vI l4, vI l5, vI l6] (r.toList ++ []) (vS0, M1) (vP Q))) : vw X d 144 17 [vR 0, vI l1, vI l2, vI l3, vI l4, vI l5, vI l6] [] M Q := by
  refine w_iload d144_17 rfl ?_
  refine w_iload d144_19 rfl ?_
  exact w_inv1 d144_21 c144_198 (by decide) rfl (Nat.le_of_ble_eq_true rfl) (cq.cl (k))
theorem B_X_may_24 {X : vX} {d : Nat} {M : vM} {Q : Option vV → vM → Prop} {l1 l2 l3 l4 l5 l6 s0 : Int}  (k1 : ¬ s0 = 0 → vw X d 144 30 [vR 0, vI l1, vI l2, vI l3, vI l4, vI l5, vI l6] [] M Q) (k2 : s0 = 0 → vw X d 144 27 [vR 0, vI l1, vI l2, vI l3, vI l4, vI l5, vI l6] [] M Q) : vw X d 144 24 [vR 0, vI l1, vI l2, vI l3, vI l4, vI l5, vI l6] [vI s0] M Q := by
  exact w_if_ne d144_24 rfl (fun h => k1 h) (fun h => k2 h)
theorem B_X_may_27 {X : vX} {d : Nat} {M : vM} {Q : Option vV → vM → Prop} {l1 l2 l3 l4 l5 l6 : Int}  (k : Q (some (vI ((-2)))) M) : vw X d 144 27 [vR 0, vI l1, vI l2, vI l3, vI l4, vI l5, vI l6] [] M Q := by
  refine w_bi (v := (-2)) d144_27 rfl ?_
  exact w_iret d144_29 r144 ⟨_, rfl, k⟩
theorem B_X_may_30 {X : vX} {d : Nat} {M : vM} {Q : Option vV → vM → Prop} {l1 l2 l3 l4 l5 l6 : Int}  (k : cq X d 48 [vI l1, vI l3, vI l4, vI l5, vI l6] M (fun r M1 => wp X d 144 41 [vR 0, vI l1, vI l2, vI l3, vI l4, vI l5, vI l6] (r.toList ++ []) (vS0, M1) (vP Q))) : vw X d 144 30 [vR 0, vI l1, vI l2, vI l3, vI l4, vI l5, vI l6] [] M Q := by
  refine w_iload_n d144_30 rfl ?_
  refine w_iload_n d144_31 rfl ?_
  refine w_iload d144_32 rfl ?_
  refine w_iload d144_34 rfl ?_
  refine w_iload d144_36 rfl ?_
  exact w_inv1 d144_38 c144_201 (by decide) rfl (Nat.le_of_ble_eq_true rfl) (cq.cl (k))
theorem B_X_may_41 {X : vX} {d : Nat} {M : vM} {Q : Option vV → vM → Prop} {l1 l2 l3 l4 l5 l6 s0 : Int}  (k1 : s0 = 0 → vw X d 144 62 [vR 0, vI l1, vI l2, vI l3, vI l4, vI l5, vI l6] [] M Q) (k2 : ¬ s0 = 0 → vw X d 144 44 [vR 0, vI l1, vI l2, vI l3, vI l4, vI l5, vI l6] [] M Q) : vw X d 144 41 [vR 0, vI l1, vI l2, vI l3, vI l4, vI l5, vI l6] [vI s0] M Q := by
  exact w_if_eq d144_41 rfl (fun h => k1 h) (fun h => k2 h)
theorem B_X_may_44 {X : vX} {d : Nat} {M : vM} {Q : Option vV → vM → Prop} {l1 l2 l3 l4 l5 l6 : Int}  (k : cq X d 48 [vI l2, vI l5, vI l6, vI l3, vI l4] M (fun r M1 => wp X d 144 55 [vR 0, vI l1, vI l2, vI l3, vI l4, vI l5, vI l6] (r.toList ++ []) (vS0, M1) (vP Q))) : vw X d 144 44 [vR 0, vI l1, vI l2, vI l3, vI l4, vI l5, vI l6] [] M Q := by
  refine w_iload_n d144_44 rfl ?_
  refine w_iload d144_45 rfl ?_
  refine w_iload d144_47 rfl ?_
  refine w_iload_n d144_49 rfl ?_
  refine w_iload d144_50 rfl ?_
  exact w_inv1 d144_52 c144_201 (by decide) rfl (Nat.le_of_ble_eq_true rfl) (cq.cl (k))
theorem B_X_may_55 {X : vX} {d : Nat} {M : vM} {Q : Option vV → vM → Prop} {l1 l2 l3 l4 l5 l6 s0 : Int}  (k1 : s0 = 0 → vw X d 144 62 [vR 0, vI l1, vI l2, vI l3, vI l4, vI l5, vI l6] [] M Q) (k2 : ¬ s0 = 0 → vw X d 144 58 [vR 0, vI l1, vI l2, vI l3, vI l4, vI l5, vI l6] [] M Q) : vw X d 144 55 [vR 0, vI l1, vI l2, vI l3, vI l4, vI l5, vI l6] [vI s0] M Q := by
  exact w_if_eq d144_55 rfl (fun h => k1 h) (fun h => k2 h)
theorem B_X_may_58 {X : vX} {d : Nat} {M : vM} {Q : Option vV → vM → Prop} {l1 l2 l3 l4 l5 l6 : Int}  (k : Q (some (vI 1)) M) : vw X d 144 58 [vR 0, vI l1, vI l2, vI l3, vI l4, vI l5, vI l6] [] M Q := by
  refine w_ic (v := 1) d144_58 rfl ?_
  refine w_goto (tgt := 63) d144_59 rfl ?_
  exact w_iret d144_63 r144 ⟨_, rfl, k⟩
theorem B_X_may_62 {X : vX} {d : Nat} {M : vM} {Q : Option vV → vM → Prop} {l1 l2 l3 l4 l5 l6 : Int}  (k : Q (some (vI 0)) M) : vw X d 144 62 [vR 0, vI l1, vI l2, vI l3, vI l4, vI l5, vI l6] [] M Q := by
  refine w_ic (v := 0) d144_62 rfl ?_
  exact w_iret d144_63 r144 ⟨_, rfl, k⟩
theorem E_X_may {X : vX} {d : Nat} {M : vM} {Q : Option vV → vM → Prop} {l1 l2 l3 l4 l5 l6 : Int} (k : vw X d 144 0 [vR 0, vI l1, vI l2, vI l3, vI l4, vI l5, vI l6] [] M Q) : cq X (d + 1) 144 [vR 0, vI l1, vI l2, vI l3, vI l4, vI l5, vI l6] M Q := wc_in (Nat.le_of_ble_eq_true rfl) (Nat.le_of_ble_eq_true rfl) k
theorem cd145 : vm_cd 145 = cX11_terms := rfl
theorem d145_0 : decode (vm_cd 145) 0 = .ok (.iload_n 1, 1) := (congrArg (fun b => decode b 0) cd145).trans (by decide +kernel)
theorem d145_1 : decode (vm_cd 145) 1 = .ok (.invokestatic 205, 3) := (congrArg (fun b => decode b 1) cd145).trans (by decide +kernel)
theorem d145_4 : decode (vm_cd 145) 4 = .ok (.ifCond .eq 40, 3) := (congrArg (fun b => decode b 4) cd145).trans (by decide +kernel)
theorem d145_7 : decode (vm_cd 145) 7 = .ok (.iload_n 2, 1) := (congrArg (fun b => decode b 7) cd145).trans (by decide +kernel)
theorem d145_8 : decode (vm_cd 145) 8 = .ok (.invokestatic 205, 3) := (congrArg (fun b => decode b 8) cd145).trans (by decide +kernel)
theorem d145_11 : decode (vm_cd 145) 11 = .ok (.ifCond .eq 33, 3) := (congrArg (fun b => decode b 11) cd145).trans (by decide +kernel)
theorem d145_14 : decode (vm_cd 145) 14 = .ok (.iload_n 3, 1) := (congrArg (fun b => decode b 14) cd145).trans (by decide +kernel)
theorem d145_15 : decode (vm_cd 145) 15 = .ok (.invokestatic 205, 3) := (congrArg (fun b => decode b 15) cd145).trans (by decide +kernel)
theorem d145_18 : decode (vm_cd 145) 18 = .ok (.ifCond .eq 26, 3) := (congrArg (fun b => decode b 18) cd145).trans (by decide +kernel)
theorem d145_21 : decode (vm_cd 145) 21 = .ok (.iload 4, 2) := (congrArg (fun b => decode b 21) cd145).trans (by decide +kernel)
theorem d145_23 : decode (vm_cd 145) 23 = .ok (.invokestatic 205, 3) := (congrArg (fun b => decode b 23) cd145).trans (by decide +kernel)
theorem d145_26 : decode (vm_cd 145) 26 = .ok (.ifCond .eq 18, 3) := (congrArg (fun b => decode b 26) cd145).trans (by decide +kernel)
theorem d145_29 : decode (vm_cd 145) 29 = .ok (.iload 5, 2) := (congrArg (fun b => decode b 29) cd145).trans (by decide +kernel)
theorem d145_31 : decode (vm_cd 145) 31 = .ok (.iconst 0, 1) := (congrArg (fun b => decode b 31) cd145).trans (by decide +kernel)
theorem d145_32 : decode (vm_cd 145) 32 = .ok (.bipush 99, 2) := (congrArg (fun b => decode b 32) cd145).trans (by decide +kernel)
theorem d145_34 : decode (vm_cd 145) 34 = .ok (.invokestatic 92, 3) := (congrArg (fun b => decode b 34) cd145).trans (by decide +kernel)
theorem d145_37 : decode (vm_cd 145) 37 = .ok (.ifCond .eq 7, 3) := (congrArg (fun b => decode b 37) cd145).trans (by decide +kernel)
theorem d145_40 : decode (vm_cd 145) 40 = .ok (.iconst 1, 1) := (congrArg (fun b => decode b 40) cd145).trans (by decide +kernel)
theorem d145_41 : decode (vm_cd 145) 41 = .ok (.goto 4, 3) := (congrArg (fun b => decode b 41) cd145).trans (by decide +kernel)
theorem d145_44 : decode (vm_cd 145) 44 = .ok (.iconst 0, 1) := (congrArg (fun b => decode b 44) cd145).trans (by decide +kernel)
theorem d145_45 : decode (vm_cd 145) 45 = .ok (.istore 6, 2) := (congrArg (fun b => decode b 45) cd145).trans (by decide +kernel)
theorem d145_47 : decode (vm_cd 145) 47 = .ok (.iload 6, 2) := (congrArg (fun b => decode b 47) cd145).trans (by decide +kernel)
theorem d145_49 : decode (vm_cd 145) 49 = .ok (.ifCond .ne 6, 3) := (congrArg (fun b => decode b 49) cd145).trans (by decide +kernel)
theorem d145_52 : decode (vm_cd 145) 52 = .ok (.bipush (-2), 2) := (congrArg (fun b => decode b 52) cd145).trans (by decide +kernel)
theorem d145_54 : decode (vm_cd 145) 54 = .ok (.ireturn, 1) := (congrArg (fun b => decode b 54) cd145).trans (by decide +kernel)
theorem d145_55 : decode (vm_cd 145) 55 = .ok (.aload_n 0, 1) := (congrArg (fun b => decode b 55) cd145).trans (by decide +kernel)
theorem d145_56 : decode (vm_cd 145) 56 = .ok (.getfield 43, 3) := (congrArg (fun b => decode b 56) cd145).trans (by decide +kernel)
theorem d145_59 : decode (vm_cd 145) 59 = .ok (.iload_n 1, 1) := (congrArg (fun b => decode b 59) cd145).trans (by decide +kernel)
theorem d145_60 : decode (vm_cd 145) 60 = .ok (.iload_n 2, 1) := (congrArg (fun b => decode b 60) cd145).trans (by decide +kernel)
theorem d145_61 : decode (vm_cd 145) 61 = .ok (.iload_n 3, 1) := (congrArg (fun b => decode b 61) cd145).trans (by decide +kernel)
theorem d145_62 : decode (vm_cd 145) 62 = .ok (.iload 4, 2) := (congrArg (fun b => decode b 62) cd145).trans (by decide +kernel)
theorem d145_64 : decode (vm_cd 145) 64 = .ok (.iload 5, 2) := (congrArg (fun b => decode b 64) cd145).trans (by decide +kernel)
theorem d145_66 : decode (vm_cd 145) 66 = .ok (.invokevirtual 208, 3) := (congrArg (fun b => decode b 66) cd145).trans (by decide +kernel)
theorem d145_69 : decode (vm_cd 145) 69 = .ok (.iconst 0, 1) := (congrArg (fun b => decode b 69) cd145).trans (by decide +kernel)
theorem d145_70 : decode (vm_cd 145) 70 = .ok (.ireturn, 1) := (congrArg (fun b => decode b 70) cd145).trans (by decide +kernel)
theorem f145_43 : vm_fl.lookup (vm_own 145, 43) = some (10, 3, 253) := by decide +kernel
theorem c145_92 : vm_ml.lookup (vm_own 145, 92) = some (1, 179, 3, 291, 292, 0, 1) := vm_lk (by decide +kernel)
theorem c145_205 : vm_ml.lookup (vm_own 145, 205) = some (1, 54, 1, 569, 570, 0, 6) := vm_lk (by decide +kernel)
theorem c145_208 : vm_ml.lookup (vm_own 145, 208) = some (0, 57, 5, 573, 574, 648, 6) := vm_lk (by decide +kernel)
theorem r145 : vm_rt 145 = (some .int) := by decide +kernel
theorem B_X_terms_0 {X : vX} {d : Nat} {M : vM} {Q : Option vV → vM → Prop} {l1 l2 l3 l4 l5 : Int}  (k : cq X d 54 [vI l1] M (fun r M1 => wp X d 145 4 [vR 0, vI l1, vI l2, vI l3, vI l4, vI l5, vN] (r.toList ++ []) (vS0, M1) (vP Q))) : vw X d 145 0 [vR 0, vI l1, vI l2, vI l3, vI l4, vI l5, vN] [] M Q := by
  refine w_iload_n d145_0 rfl ?_
  exact w_inv1 d145_1 c145_205 (by decide) rfl (Nat.le_of_ble_eq_true rfl) (cq.cl (k))
theorem B_X_terms_4 {X : vX} {d : Nat} {M : vM} {Q : Option vV → vM → Prop} {l1 l2 l3 l4 l5 s0 : Int}  (k1 : s0 = 0 → vw X d 145 44 [vR 0, vI l1, vI l2, vI l3, vI l4, vI l5, vN] [] M Q) (k2 : ¬ s0 = 0 → vw X d 145 7 [vR 0, vI l1, vI l2, vI l3, vI l4, vI l5, vN] [] M Q) : vw X d 145 4 [vR 0, vI l1, vI l2, vI l3, vI l4, vI l5, vN] [vI s0] M Q := by
  exact w_if_eq d145_4 rfl (fun h => k1 h) (fun h => k2 h)
theorem B_X_terms_7 {X : vX} {d : Nat} {M : vM} {Q : Option vV → vM → Prop} {l1 l2 l3 l4 l5 : Int}  (k : cq X d 54 [vI l2] M (fun r M1 => wp X d 145 11 [vR 0, vI l1, vI l2, vI l3, vI l4, vI l5, vN] (r.toList ++ []) (vS0, M1) (vP Q))) : vw X d 145 7 [vR 0, vI l1, vI l2, vI l3, vI l4, vI l5, vN] [] M Q := by
  refine w_iload_n d145_7 rfl ?_
  exact w_inv1 d145_8 c145_205 (by decide) rfl (Nat.le_of_ble_eq_true rfl) (cq.cl (k))
theorem B_X_terms_11 {X : vX} {d : Nat} {M : vM} {Q : Option vV → vM → Prop} {l1 l2 l3 l4 l5 s0 : Int}  (k1 : s0 = 0 → vw X d 145 44 [vR 0, vI l1, vI l2, vI l3, vI l4, vI l5, vN] [] M Q) (k2 : ¬ s0 = 0 → vw X d 145 14 [vR 0, vI l1, vI l2, vI l3, vI l4, vI l5, vN] [] M Q) : vw X d 145 11 [vR 0, vI l1, vI l2, vI l3, vI l4, vI l5, vN] [vI s0] M Q := by
  exact w_if_eq d145_11 rfl (fun h => k1 h) (fun h => k2 h)
theorem B_X_terms_14 {X : vX} {d : Nat} {M : vM} {Q : Option vV → vM → Prop} {l1 l2 l3 l4 l5 : Int}  (k : cq X d 54 [vI l3] M (fun r M1 => wp X d 145 18 [vR 0, vI l1, vI l2, vI l3, vI l4, vI l5, vN] (r.toList ++ []) (vS0, M1) (vP Q))) : vw X d 145 14 [vR 0, vI l1, vI l2, vI l3, vI l4, vI l5, vN] [] M Q := by
  refine w_iload_n d145_14 rfl ?_
  exact w_inv1 d145_15 c145_205 (by decide) rfl (Nat.le_of_ble_eq_true rfl) (cq.cl (k))
theorem B_X_terms_18 {X : vX} {d : Nat} {M : vM} {Q : Option vV → vM → Prop} {l1 l2 l3 l4 l5 s0 : Int}  (k1 : s0 = 0 → vw X d 145 44 [vR 0, vI l1, vI l2, vI l3, vI l4, vI l5, vN] [] M Q) (k2 : ¬ s0 = 0 → vw X d 145 21 [vR 0, vI l1, vI l2, vI l3, vI l4, vI l5, vN] [] M Q) : vw X d 145 18 [vR 0, vI l1, vI l2, vI l3, vI l4, vI l5, vN] [vI s0] M Q := by
  exact w_if_eq d145_18 rfl (fun h => k1 h) (fun h => k2 h)
theorem B_X_terms_21 {X : vX} {d : Nat} {M : vM} {Q : Option vV → vM → Prop} {l1 l2 l3 l4 l5 : Int}  (k : cq X d 54 [vI l4] M (fun r M1 => wp X d 145 26 [vR 0, vI l1, vI l2, vI l3, vI l4, vI l5, vN] (r.toList ++ []) (vS0, M1) (vP Q))) : vw X d 145 21 [vR 0, vI l1, vI l2, vI l3, vI l4, vI l5, vN] [] M Q := by
  refine w_iload d145_21 rfl ?_
  exact w_inv1 d145_23 c145_205 (by decide) rfl (Nat.le_of_ble_eq_true rfl) (cq.cl (k))
theorem B_X_terms_26 {X : vX} {d : Nat} {M : vM} {Q : Option vV → vM → Prop} {l1 l2 l3 l4 l5 s0 : Int}  (k1 : s0 = 0 → vw X d 145 44 [vR 0, vI l1, vI l2, vI l3, vI l4, vI l5, vN] [] M Q) (k2 : ¬ s0 = 0 → vw X d 145 29 [vR 0, vI l1, vI l2, vI l3, vI l4, vI l5, vN] [] M Q) : vw X d 145 26 [vR 0, vI l1, vI l2, vI l3, vI l4, vI l5, vN] [vI s0] M Q := by
  exact w_if_eq d145_26 rfl (fun h => k1 h) (fun h => k2 h)
theorem B_X_terms_29 {X : vX} {d : Nat} {M : vM} {Q : Option vV → vM → Prop} {l1 l2 l3 l4 l5 : Int}  (k : cq X d 179 [vI l5, vI 0, vI 99] M (fun r M1 => wp X d 145 37 [vR 0, vI l1, vI l2, vI l3, vI l4, vI l5, vN] (r.toList ++ []) (vS0, M1) (vP Q))) : vw X d 145 29 [vR 0, vI l1, vI l2, vI l3, vI l4, vI l5, vN] [] M Q := by
  refine w_iload d145_29 rfl ?_
  refine w_ic (v := 0) d145_31 rfl ?_
  refine w_bi (v := 99) d145_32 rfl ?_
  exact w_inv1 d145_34 c145_92 (by decide) rfl (Nat.le_of_ble_eq_true rfl) (cq.cl (k))
theorem B_X_terms_37 {X : vX} {d : Nat} {M : vM} {Q : Option vV → vM → Prop} {l1 l2 l3 l4 l5 s0 : Int}  (k1 : s0 = 0 → vw X d 145 44 [vR 0, vI l1, vI l2, vI l3, vI l4, vI l5, vN] [] M Q) (k2 : ¬ s0 = 0 → vw X d 145 40 [vR 0, vI l1, vI l2, vI l3, vI l4, vI l5, vN] [] M Q) : vw X d 145 37 [vR 0, vI l1, vI l2, vI l3, vI l4, vI l5, vN] [vI s0] M Q := by
  exact w_if_eq d145_37 rfl (fun h => k1 h) (fun h => k2 h)
theorem B_X_terms_40 {X : vX} {d : Nat} {M : vM} {Q : Option vV → vM → Prop} {l1 l2 l3 l4 l5 : Int}  (k1 : ¬ (1 : Int) = (0 : Int) → vw X d 145 55 [vR 0, vI l1, vI l2, vI l3, vI l4, vI l5, vI 1] [] M Q) (k2 : (1 : Int) = (0 : Int) → vw X d 145 52 [vR 0, vI l1, vI l2, vI l3, vI l4, vI l5, vI 1] [] M Q) : vw X d 145 40 [vR 0, vI l1, vI l2, vI l3, vI l4, vI l5, vN] [] M Q := by
  refine w_ic (v := 1) d145_40 rfl ?_
  refine w_goto (tgt := 45) d145_41 rfl ?_
  refine w_istoreE (ls' := [vR 0, vI l1, vI l2, vI l3, vI l4, vI l5, vI 1]) d145_45 (Nat.le_of_ble_eq_true rfl) rfl ?_
  refine w_iload d145_47 rfl ?_
  exact w_if_ne d145_49 rfl (fun h => k1 h) (fun h => k2 h)
theorem B_X_terms_44 {X : vX} {d : Nat} {M : vM} {Q : Option vV → vM → Prop} {l1 l2 l3 l4 l5 : Int}  (k1 : ¬ (0 : Int) = (0 : Int) → vw X d 145 55 [vR 0, vI l1, vI l2, vI l3, vI l4, vI l5, vI 0] [] M Q) (k2 : (0 : Int) = (0 : Int) → vw X d 145 52 [vR 0, vI l1, vI l2, vI l3, vI l4, vI l5, vI 0] [] M Q) : vw X d 145 44 [vR 0, vI l1, vI l2, vI l3, vI l4, vI l5, vN] [] M Q := by
  refine w_ic (v := 0) d145_44 rfl ?_
  refine w_istoreE (ls' := [vR 0, vI l1, vI l2, vI l3, vI l4, vI l5, vI 0]) d145_45 (Nat.le_of_ble_eq_true rfl) rfl ?_
  refine w_iload d145_47 rfl ?_
  exact w_if_ne d145_49 rfl (fun h => k1 h) (fun h => k2 h)
theorem B_X_terms_52 {X : vX} {d : Nat} {M : vM} {Q : Option vV → vM → Prop} {l1 l2 l3 l4 l5 l6 : Int}  (k : Q (some (vI ((-2)))) M) : vw X d 145 52 [vR 0, vI l1, vI l2, vI l3, vI l4, vI l5, vI l6] [] M Q := by
  refine w_bi (v := (-2)) d145_52 rfl ?_
  exact w_iret d145_54 r145 ⟨_, rfl, k⟩
theorem B_X_terms_55 {X : vX} {d : Nat} {M : vM} {Q : Option vV → vM → Prop} {l1 l2 l3 l4 l5 l6 : Int} (hR : vRefs M)  (k : cq X d 57 [vR 30, vI l1, vI l2, vI l3, vI l4, vI l5] M (fun r M1 => wp X d 145 69 [vR 0, vI l1, vI l2, vI l3, vI l4, vI l5, vI l6] (r.toList ++ []) (vS0, M1) (vP Q))) : vw X d 145 55 [vR 0, vI l1, vI l2, vI l3, vI l4, vI l5, vI l6] [] M Q := by
  refine w_aload_n d145_55 rfl ?_
  refine w_getf (a := 0) (v := vR 30) d145_56 f145_43 rfl rfl (congrArg vR (rf_0_3 hR)) ?_
  refine w_iload_n d145_59 rfl ?_
  refine w_iload_n d145_60 rfl ?_
  refine w_iload_n d145_61 rfl ?_
  refine w_iload d145_62 rfl ?_
  refine w_iload d145_64 rfl ?_
  exact w_inv0 (a := 30) (c := 4) d145_66 c145_208 rfl rfl rfl v57 (Nat.le_of_ble_eq_true rfl) (cq.cl (k))
theorem B_X_terms_69 {X : vX} {d : Nat} {M : vM} {Q : Option vV → vM → Prop} {l1 l2 l3 l4 l5 l6 : Int}  (k : Q (some (vI 0)) M) : vw X d 145 69 [vR 0, vI l1, vI l2, vI l3, vI l4, vI l5, vI l6] [] M Q := by
  refine w_ic (v := 0) d145_69 rfl ?_
  exact w_iret d145_70 r145 ⟨_, rfl, k⟩
theorem E_X_terms {X : vX} {d : Nat} {M : vM} {Q : Option vV → vM → Prop} {l1 l2 l3 l4 l5 : Int} (k : vw X d 145 0 [vR 0, vI l1, vI l2, vI l3, vI l4, vI l5, vN] [] M Q) : cq X (d + 1) 145 [vR 0, vI l1, vI l2, vI l3, vI l4, vI l5] M Q := wc_in (Nat.le_of_ble_eq_true rfl) (Nat.le_of_ble_eq_true rfl) k
theorem cd146 : vm_cd 146 = cX11_promise := rfl
theorem d146_0 : decode (vm_cd 146) 0 = .ok (.iload_n 1, 1) := (congrArg (fun b => decode b 0) cd146).trans (by decide +kernel)
theorem d146_1 : decode (vm_cd 146) 1 = .ok (.invokestatic 212, 3) := (congrArg (fun b => decode b 1) cd146).trans (by decide +kernel)
theorem d146_4 : decode (vm_cd 146) 4 = .ok (.ifCond .eq 22, 3) := (congrArg (fun b => decode b 4) cd146).trans (by decide +kernel)
theorem d146_7 : decode (vm_cd 146) 7 = .ok (.iload_n 2, 1) := (congrArg (fun b => decode b 7) cd146).trans (by decide +kernel)
theorem d146_8 : decode (vm_cd 146) 8 = .ok (.invokestatic 215, 3) := (congrArg (fun b => decode b 8) cd146).trans (by decide +kernel)
theorem d146_11 : decode (vm_cd 146) 11 = .ok (.ifCond .eq 15, 3) := (congrArg (fun b => decode b 11) cd146).trans (by decide +kernel)
theorem d146_14 : decode (vm_cd 146) 14 = .ok (.aload_n 0, 1) := (congrArg (fun b => decode b 14) cd146).trans (by decide +kernel)
theorem d146_15 : decode (vm_cd 146) 15 = .ok (.getfield 43, 3) := (congrArg (fun b => decode b 15) cd146).trans (by decide +kernel)
theorem d146_18 : decode (vm_cd 146) 18 = .ok (.iload_n 1, 1) := (congrArg (fun b => decode b 18) cd146).trans (by decide +kernel)
theorem d146_19 : decode (vm_cd 146) 19 = .ok (.iload_n 2, 1) := (congrArg (fun b => decode b 19) cd146).trans (by decide +kernel)
theorem d146_20 : decode (vm_cd 146) 20 = .ok (.invokevirtual 218, 3) := (congrArg (fun b => decode b 20) cd146).trans (by decide +kernel)
theorem d146_23 : decode (vm_cd 146) 23 = .ok (.goto 6, 3) := (congrArg (fun b => decode b 23) cd146).trans (by decide +kernel)
theorem d146_26 : decode (vm_cd 146) 26 = .ok (.ldc2_w 130, 3) := (congrArg (fun b => decode b 26) cd146).trans (by decide +kernel)
theorem d146_29 : decode (vm_cd 146) 29 = .ok (.lreturn, 1) := (congrArg (fun b => decode b 29) cd146).trans (by decide +kernel)
theorem f146_43 : vm_fl.lookup (vm_own 146, 43) = some (10, 3, 253) := by decide +kernel
theorem c146_212 : vm_ml.lookup (vm_own 146, 212) = some (1, 55, 1, 581, 582, 0, 6) := vm_lk (by decide +kernel)
theorem c146_215 : vm_ml.lookup (vm_own 146, 215) = some (1, 56, 1, 584, 585, 0, 6) := vm_lk (by decide +kernel)
theorem c146_218 : vm_ml.lookup (vm_own 146, 218) = some (0, 58, 2, 587, 588, 662, 6) := vm_lk (by decide +kernel)
theorem g146_130 : vm_cn.lookup (vm_own 146, 130) = some ((1), (-9223372036854775808), (365)) := by decide +kernel
theorem r146 : vm_rt 146 = (some .long) := by decide +kernel
theorem B_X_promise_0 {X : vX} {d : Nat} {M : vM} {Q : Option vV → vM → Prop} {l1 l2 : Int}  (k : cq X d 55 [vI l1] M (fun r M1 => wp X d 146 4 [vR 0, vI l1, vI l2] (r.toList ++ []) (vS0, M1) (vP Q))) : vw X d 146 0 [vR 0, vI l1, vI l2] [] M Q := by
  refine w_iload_n d146_0 rfl ?_
  exact w_inv1 d146_1 c146_212 (by decide) rfl (Nat.le_of_ble_eq_true rfl) (cq.cl (k))
theorem B_X_promise_4 {X : vX} {d : Nat} {M : vM} {Q : Option vV → vM → Prop} {l1 l2 s0 : Int}  (k1 : s0 = 0 → vw X d 146 26 [vR 0, vI l1, vI l2] [] M Q) (k2 : ¬ s0 = 0 → vw X d 146 7 [vR 0, vI l1, vI l2] [] M Q) : vw X d 146 4 [vR 0, vI l1, vI l2] [vI s0] M Q := by
  exact w_if_eq d146_4 rfl (fun h => k1 h) (fun h => k2 h)
theorem B_X_promise_7 {X : vX} {d : Nat} {M : vM} {Q : Option vV → vM → Prop} {l1 l2 : Int}  (k : cq X d 56 [vI l2] M (fun r M1 => wp X d 146 11 [vR 0, vI l1, vI l2] (r.toList ++ []) (vS0, M1) (vP Q))) : vw X d 146 7 [vR 0, vI l1, vI l2] [] M Q := by
  refine w_iload_n d146_7 rfl ?_
  exact w_inv1 d146_8 c146_215 (by decide) rfl (Nat.le_of_ble_eq_true rfl) (cq.cl (k))
theorem B_X_promise_11 {X : vX} {d : Nat} {M : vM} {Q : Option vV → vM → Prop} {l1 l2 s0 : Int}  (k1 : s0 = 0 → vw X d 146 26 [vR 0, vI l1, vI l2] [] M Q) (k2 : ¬ s0 = 0 → vw X d 146 14 [vR 0, vI l1, vI l2] [] M Q) : vw X d 146 11 [vR 0, vI l1, vI l2] [vI s0] M Q := by
  exact w_if_eq d146_11 rfl (fun h => k1 h) (fun h => k2 h)
theorem B_X_promise_14 {X : vX} {d : Nat} {M : vM} {Q : Option vV → vM → Prop} {l1 l2 : Int} (hR : vRefs M)  (k : cq X d 58 [vR 30, vI l1, vI l2] M (fun r M1 => wp X d 146 23 [vR 0, vI l1, vI l2] (r.toList ++ []) (vS0, M1) (vP Q))) : vw X d 146 14 [vR 0, vI l1, vI l2] [] M Q := by
  refine w_aload_n d146_14 rfl ?_
  refine w_getf (a := 0) (v := vR 30) d146_15 f146_43 rfl rfl (congrArg vR (rf_0_3 hR)) ?_
  refine w_iload_n d146_18 rfl ?_
  refine w_iload_n d146_19 rfl ?_
  exact w_inv0 (a := 30) (c := 4) d146_20 c146_218 rfl rfl rfl v58 (Nat.le_of_ble_eq_true rfl) (cq.cl (k))
theorem B_X_promise_23 {X : vX} {d : Nat} {M : vM} {Q : Option vV → vM → Prop} {l1 l2 s0 : Int}  (k : Q (some (vL s0)) M) : vw X d 146 23 [vR 0, vI l1, vI l2] [vL s0] M Q := by
  refine w_goto (tgt := 29) d146_23 rfl ?_
  exact w_lret d146_29 r146 ⟨_, rfl, k⟩
theorem B_X_promise_26 {X : vX} {d : Nat} {M : vM} {Q : Option vV → vM → Prop} {l1 l2 : Int}  (k : Q (some (vL ((-9223372036854775808)))) M) : vw X d 146 26 [vR 0, vI l1, vI l2] [] M Q := by
  refine w_ldc2_w (v := (-9223372036854775808)) d146_26 g146_130 rfl ?_
  exact w_lret d146_29 r146 ⟨_, rfl, k⟩
theorem E_X_promise {X : vX} {d : Nat} {M : vM} {Q : Option vV → vM → Prop} {l1 l2 : Int} (k : vw X d 146 0 [vR 0, vI l1, vI l2] [] M Q) : cq X (d + 1) 146 [vR 0, vI l1, vI l2] M Q := wc_in (Nat.le_of_ble_eq_true rfl) (Nat.le_of_ble_eq_true rfl) k
theorem cd147 : vm_cd 147 = cX11_first := rfl
theorem d147_0 : decode (vm_cd 147) 0 = .ok (.aload_n 0, 1) := (congrArg (fun b => decode b 0) cd147).trans (by decide +kernel)
theorem d147_1 : decode (vm_cd 147) 1 = .ok (.iload_n 1, 1) := (congrArg (fun b => decode b 1) cd147).trans (by decide +kernel)
theorem d147_2 : decode (vm_cd 147) 2 = .ok (.iload_n 2, 1) := (congrArg (fun b => decode b 2) cd147).trans (by decide +kernel)
theorem d147_3 : decode (vm_cd 147) 3 = .ok (.invokevirtual 221, 3) := (congrArg (fun b => decode b 3) cd147).trans (by decide +kernel)
theorem d147_6 : decode (vm_cd 147) 6 = .ok (.ldc2_w 130, 3) := (congrArg (fun b => decode b 6) cd147).trans (by decide +kernel)
theorem d147_9 : decode (vm_cd 147) 9 = .ok (.lcmp, 1) := (congrArg (fun b => decode b 9) cd147).trans (by decide +kernel)
theorem d147_10 : decode (vm_cd 147) 10 = .ok (.ifCond .eq 12, 3) := (congrArg (fun b => decode b 10) cd147).trans (by decide +kernel)
theorem d147_13 : decode (vm_cd 147) 13 = .ok (.iload_n 3, 1) := (congrArg (fun b => decode b 13) cd147).trans (by decide +kernel)
theorem d147_14 : decode (vm_cd 147) 14 = .ok (.iconst 0, 1) := (congrArg (fun b => decode b 14) cd147).trans (by decide +kernel)
theorem d147_15 : decode (vm_cd 147) 15 = .ok (.iconst 3, 1) := (congrArg (fun b => decode b 15) cd147).trans (by decide +kernel)
theorem d147_16 : decode (vm_cd 147) 16 = .ok (.invokestatic 92, 3) := (congrArg (fun b => decode b 16) cd147).trans (by decide +kernel)
theorem d147_19 : decode (vm_cd 147) 19 = .ok (.ifCond .ne 5, 3) := (congrArg (fun b => decode b 19) cd147).trans (by decide +kernel)
theorem d147_22 : decode (vm_cd 147) 22 = .ok (.iconst (-1), 1) := (congrArg (fun b => decode b 22) cd147).trans (by decide +kernel)
theorem d147_23 : decode (vm_cd 147) 23 = .ok (.ireturn, 1) := (congrArg (fun b => decode b 23) cd147).trans (by decide +kernel)
theorem d147_24 : decode (vm_cd 147) 24 = .ok (.aload_n 0, 1) := (congrArg (fun b => decode b 24) cd147).trans (by decide +kernel)
theorem d147_25 : decode (vm_cd 147) 25 = .ok (.getfield 43, 3) := (congrArg (fun b => decode b 25) cd147).trans (by decide +kernel)
theorem d147_28 : decode (vm_cd 147) 28 = .ok (.iload_n 1, 1) := (congrArg (fun b => decode b 28) cd147).trans (by decide +kernel)
theorem d147_29 : decode (vm_cd 147) 29 = .ok (.iload_n 2, 1) := (congrArg (fun b => decode b 29) cd147).trans (by decide +kernel)
theorem d147_30 : decode (vm_cd 147) 30 = .ok (.iload_n 3, 1) := (congrArg (fun b => decode b 30) cd147).trans (by decide +kernel)
theorem d147_31 : decode (vm_cd 147) 31 = .ok (.invokevirtual 224, 3) := (congrArg (fun b => decode b 31) cd147).trans (by decide +kernel)
theorem d147_34 : decode (vm_cd 147) 34 = .ok (.ireturn, 1) := (congrArg (fun b => decode b 34) cd147).trans (by decide +kernel)
theorem f147_43 : vm_fl.lookup (vm_own 147, 43) = some (10, 3, 253) := by decide +kernel
theorem c147_92 : vm_ml.lookup (vm_own 147, 92) = some (1, 179, 3, 291, 292, 0, 1) := vm_lk (by decide +kernel)
theorem c147_221 : vm_ml.lookup (vm_own 147, 221) = some (0, 146, 2, 618, 578, 652, 1) := vm_lk (by decide +kernel)
theorem c147_224 : vm_ml.lookup (vm_own 147, 224) = some (0, 59, 3, 619, 620, 694, 6) := vm_lk (by decide +kernel)
theorem g147_130 : vm_cn.lookup (vm_own 147, 130) = some ((1), (-9223372036854775808), (365)) := by decide +kernel
theorem r147 : vm_rt 147 = (some .int) := by decide +kernel
theorem B_X_first_0 {X : vX} {d : Nat} {M : vM} {Q : Option vV → vM → Prop} {l1 l2 l3 : Int}  (k : cq X d 146 [vR 0, vI l1, vI l2] M (fun r M1 => wp X d 147 6 [vR 0, vI l1, vI l2, vI l3] (r.toList ++ []) (vS0, M1) (vP Q))) : vw X d 147 0 [vR 0, vI l1, vI l2, vI l3] [] M Q := by
  refine w_aload_n d147_0 rfl ?_
  refine w_iload_n d147_1 rfl ?_
  refine w_iload_n d147_2 rfl ?_
  exact w_inv0 (a := 0) (c := 10) d147_3 c147_221 rfl rfl rfl v146 (Nat.le_of_ble_eq_true rfl) (cq.cl (k))
theorem B_X_first_6 {X : vX} {d : Nat} {M : vM} {Q : Option vV → vM → Prop} {l1 l2 l3 s0 : Int}  (k1 : s0 = ((-9223372036854775808)) → vw X d 147 22 [vR 0, vI l1, vI l2, vI l3] [] M Q) (k2 : ¬ s0 = ((-9223372036854775808)) → vw X d 147 13 [vR 0, vI l1, vI l2, vI l3] [] M Q) : vw X d 147 6 [vR 0, vI l1, vI l2, vI l3] [vL s0] M Q := by
  refine w_ldc2_w (v := (-9223372036854775808)) d147_6 g147_130 rfl ?_
  exact w_lc_eq d147_9 d147_10 rfl (fun h => k1 h) (fun h => k2 h)
theorem B_X_first_13 {X : vX} {d : Nat} {M : vM} {Q : Option vV → vM → Prop} {l1 l2 l3 : Int}  (k : cq X d 179 [vI l3, vI 0, vI 3] M (fun r M1 => wp X d 147 19 [vR 0, vI l1, vI l2, vI l3] (r.toList ++ []) (vS0, M1) (vP Q))) : vw X d 147 13 [vR 0, vI l1, vI l2, vI l3] [] M Q := by
  refine w_iload_n d147_13 rfl ?_
  refine w_ic (v := 0) d147_14 rfl ?_
  refine w_ic (v := 3) d147_15 rfl ?_
  exact w_inv1 d147_16 c147_92 (by decide) rfl (Nat.le_of_ble_eq_true rfl) (cq.cl (k))
theorem B_X_first_19 {X : vX} {d : Nat} {M : vM} {Q : Option vV → vM → Prop} {l1 l2 l3 s0 : Int}  (k1 : ¬ s0 = 0 → vw X d 147 24 [vR 0, vI l1, vI l2, vI l3] [] M Q) (k2 : s0 = 0 → vw X d 147 22 [vR 0, vI l1, vI l2, vI l3] [] M Q) : vw X d 147 19 [vR 0, vI l1, vI l2, vI l3] [vI s0] M Q := by
  exact w_if_ne d147_19 rfl (fun h => k1 h) (fun h => k2 h)
theorem B_X_first_22 {X : vX} {d : Nat} {M : vM} {Q : Option vV → vM → Prop} {l1 l2 l3 : Int}  (k : Q (some (vI ((-1)))) M) : vw X d 147 22 [vR 0, vI l1, vI l2, vI l3] [] M Q := by
  refine w_ic (v := (-1)) d147_22 rfl ?_
  exact w_iret d147_23 r147 ⟨_, rfl, k⟩
theorem B_X_first_24 {X : vX} {d : Nat} {M : vM} {Q : Option vV → vM → Prop} {l1 l2 l3 : Int} (hR : vRefs M)  (k : cq X d 59 [vR 30, vI l1, vI l2, vI l3] M (fun r M1 => wp X d 147 34 [vR 0, vI l1, vI l2, vI l3] (r.toList ++ []) (vS0, M1) (vP Q))) : vw X d 147 24 [vR 0, vI l1, vI l2, vI l3] [] M Q := by
  refine w_aload_n d147_24 rfl ?_
  refine w_getf (a := 0) (v := vR 30) d147_25 f147_43 rfl rfl (congrArg vR (rf_0_3 hR)) ?_
  refine w_iload_n d147_28 rfl ?_
  refine w_iload_n d147_29 rfl ?_
  refine w_iload_n d147_30 rfl ?_
  exact w_inv0 (a := 30) (c := 4) d147_31 c147_224 rfl rfl rfl v59 (Nat.le_of_ble_eq_true rfl) (cq.cl (k))
theorem B_X_first_34 {X : vX} {d : Nat} {M : vM} {Q : Option vV → vM → Prop} {l1 l2 l3 s0 : Int}  (k : Q (some (vI s0)) M) : vw X d 147 34 [vR 0, vI l1, vI l2, vI l3] [vI s0] M Q := by
  exact w_iret d147_34 r147 ⟨_, rfl, k⟩
theorem E_X_first {X : vX} {d : Nat} {M : vM} {Q : Option vV → vM → Prop} {l1 l2 l3 : Int} (k : vw X d 147 0 [vR 0, vI l1, vI l2, vI l3] [] M Q) : cq X (d + 1) 147 [vR 0, vI l1, vI l2, vI l3] M Q := wc_in (Nat.le_of_ble_eq_true rfl) (Nat.le_of_ble_eq_true rfl) k
theorem cd148 : vm_cd 148 = cX11_start := rfl
theorem d148_0 : decode (vm_cd 148) 0 = .ok (.iload_n 1, 1) := (congrArg (fun b => decode b 0) cd148).trans (by decide +kernel)
theorem d148_1 : decode (vm_cd 148) 1 = .ok (.invokestatic 212, 3) := (congrArg (fun b => decode b 1) cd148).trans (by decide +kernel)
theorem d148_4 : decode (vm_cd 148) 4 = .ok (.ifCond .eq 14, 3) := (congrArg (fun b => decode b 4) cd148).trans (by decide +kernel)
theorem d148_7 : decode (vm_cd 148) 7 = .ok (.aload_n 0, 1) := (congrArg (fun b => decode b 7) cd148).trans (by decide +kernel)
theorem d148_8 : decode (vm_cd 148) 8 = .ok (.getfield 43, 3) := (congrArg (fun b => decode b 8) cd148).trans (by decide +kernel)
theorem d148_11 : decode (vm_cd 148) 11 = .ok (.iload_n 1, 1) := (congrArg (fun b => decode b 11) cd148).trans (by decide +kernel)
theorem d148_12 : decode (vm_cd 148) 12 = .ok (.invokevirtual 228, 3) := (congrArg (fun b => decode b 12) cd148).trans (by decide +kernel)
theorem d148_15 : decode (vm_cd 148) 15 = .ok (.goto 4, 3) := (congrArg (fun b => decode b 15) cd148).trans (by decide +kernel)
theorem d148_18 : decode (vm_cd 148) 18 = .ok (.iconst (-1), 1) := (congrArg (fun b => decode b 18) cd148).trans (by decide +kernel)
theorem d148_19 : decode (vm_cd 148) 19 = .ok (.ireturn, 1) := (congrArg (fun b => decode b 19) cd148).trans (by decide +kernel)
theorem f148_43 : vm_fl.lookup (vm_own 148, 43) = some (10, 3, 253) := by decide +kernel
theorem c148_212 : vm_ml.lookup (vm_own 148, 212) = some (1, 55, 1, 581, 582, 0, 6) := vm_lk (by decide +kernel)
theorem c148_228 : vm_ml.lookup (vm_own 148, 228) = some (0, 60, 1, 627, 628, 702, 6) := vm_lk (by decide +kernel)
theorem r148 : vm_rt 148 = (some .int) := by decide +kernel
theorem B_X_start_0 {X : vX} {d : Nat} {M : vM} {Q : Option vV → vM → Prop} {l1 : Int}  (k : cq X d 55 [vI l1] M (fun r M1 => wp X d 148 4 [vR 0, vI l1] (r.toList ++ []) (vS0, M1) (vP Q))) : vw X d 148 0 [vR 0, vI l1] [] M Q := by
  refine w_iload_n d148_0 rfl ?_
  exact w_inv1 d148_1 c148_212 (by decide) rfl (Nat.le_of_ble_eq_true rfl) (cq.cl (k))
theorem B_X_start_4 {X : vX} {d : Nat} {M : vM} {Q : Option vV → vM → Prop} {l1 s0 : Int}  (k1 : s0 = 0 → vw X d 148 18 [vR 0, vI l1] [] M Q) (k2 : ¬ s0 = 0 → vw X d 148 7 [vR 0, vI l1] [] M Q) : vw X d 148 4 [vR 0, vI l1] [vI s0] M Q := by
  exact w_if_eq d148_4 rfl (fun h => k1 h) (fun h => k2 h)
theorem B_X_start_7 {X : vX} {d : Nat} {M : vM} {Q : Option vV → vM → Prop} {l1 : Int} (hR : vRefs M)  (k : cq X d 60 [vR 30, vI l1] M (fun r M1 => wp X d 148 15 [vR 0, vI l1] (r.toList ++ []) (vS0, M1) (vP Q))) : vw X d 148 7 [vR 0, vI l1] [] M Q := by
  refine w_aload_n d148_7 rfl ?_
  refine w_getf (a := 0) (v := vR 30) d148_8 f148_43 rfl rfl (congrArg vR (rf_0_3 hR)) ?_
  refine w_iload_n d148_11 rfl ?_
  exact w_inv0 (a := 30) (c := 4) d148_12 c148_228 rfl rfl rfl v60 (Nat.le_of_ble_eq_true rfl) (cq.cl (k))
theorem B_X_start_15 {X : vX} {d : Nat} {M : vM} {Q : Option vV → vM → Prop} {l1 s0 : Int}  (k : Q (some (vI s0)) M) : vw X d 148 15 [vR 0, vI l1] [vI s0] M Q := by
  refine w_goto (tgt := 19) d148_15 rfl ?_
  exact w_iret d148_19 r148 ⟨_, rfl, k⟩
theorem B_X_start_18 {X : vX} {d : Nat} {M : vM} {Q : Option vV → vM → Prop} {l1 : Int}  (k : Q (some (vI ((-1)))) M) : vw X d 148 18 [vR 0, vI l1] [] M Q := by
  refine w_ic (v := (-1)) d148_18 rfl ?_
  exact w_iret d148_19 r148 ⟨_, rfl, k⟩
theorem E_X_start {X : vX} {d : Nat} {M : vM} {Q : Option vV → vM → Prop} {l1 : Int} (k : vw X d 148 0 [vR 0, vI l1] [] M Q) : cq X (d + 1) 148 [vR 0, vI l1] M Q := wc_in (Nat.le_of_ble_eq_true rfl) (Nat.le_of_ble_eq_true rfl) k
theorem cd149 : vm_cd 149 = cX11_team := rfl
theorem d149_0 : decode (vm_cd 149) 0 = .ok (.iload_n 1, 1) := (congrArg (fun b => decode b 0) cd149).trans (by decide +kernel)
theorem d149_1 : decode (vm_cd 149) 1 = .ok (.iconst 2, 1) := (congrArg (fun b => decode b 1) cd149).trans (by decide +kernel)
theorem d149_2 : decode (vm_cd 149) 2 = .ok (.iconst 4, 1) := (congrArg (fun b => decode b 2) cd149).trans (by decide +kernel)
theorem d149_3 : decode (vm_cd 149) 3 = .ok (.invokestatic 92, 3) := (congrArg (fun b => decode b 3) cd149).trans (by decide +kernel)
theorem d149_6 : decode (vm_cd 149) 6 = .ok (.ifCond .eq 19, 3) := (congrArg (fun b => decode b 6) cd149).trans (by decide +kernel)
theorem d149_9 : decode (vm_cd 149) 9 = .ok (.iload_n 1, 1) := (congrArg (fun b => decode b 9) cd149).trans (by decide +kernel)
theorem d149_10 : decode (vm_cd 149) 10 = .ok (.iload_n 2, 1) := (congrArg (fun b => decode b 10) cd149).trans (by decide +kernel)
theorem d149_11 : decode (vm_cd 149) 11 = .ok (.invokestatic 231, 3) := (congrArg (fun b => decode b 11) cd149).trans (by decide +kernel)
theorem d149_14 : decode (vm_cd 149) 14 = .ok (.ifCond .eq 11, 3) := (congrArg (fun b => decode b 14) cd149).trans (by decide +kernel)
theorem d149_17 : decode (vm_cd 149) 17 = .ok (.iload_n 1, 1) := (congrArg (fun b => decode b 17) cd149).trans (by decide +kernel)
theorem d149_18 : decode (vm_cd 149) 18 = .ok (.iload_n 3, 1) := (congrArg (fun b => decode b 18) cd149).trans (by decide +kernel)
theorem d149_19 : decode (vm_cd 149) 19 = .ok (.invokestatic 234, 3) := (congrArg (fun b => decode b 19) cd149).trans (by decide +kernel)
theorem d149_22 : decode (vm_cd 149) 22 = .ok (.ifCond .ne 6, 3) := (congrArg (fun b => decode b 22) cd149).trans (by decide +kernel)
theorem d149_25 : decode (vm_cd 149) 25 = .ok (.bipush (-2), 2) := (congrArg (fun b => decode b 25) cd149).trans (by decide +kernel)
theorem d149_27 : decode (vm_cd 149) 27 = .ok (.ireturn, 1) := (congrArg (fun b => decode b 27) cd149).trans (by decide +kernel)
theorem d149_28 : decode (vm_cd 149) 28 = .ok (.aload_n 0, 1) := (congrArg (fun b => decode b 28) cd149).trans (by decide +kernel)
theorem d149_29 : decode (vm_cd 149) 29 = .ok (.getfield 50, 3) := (congrArg (fun b => decode b 29) cd149).trans (by decide +kernel)
theorem d149_32 : decode (vm_cd 149) 32 = .ok (.iload_n 1, 1) := (congrArg (fun b => decode b 32) cd149).trans (by decide +kernel)
theorem d149_33 : decode (vm_cd 149) 33 = .ok (.iload_n 2, 1) := (congrArg (fun b => decode b 33) cd149).trans (by decide +kernel)
theorem d149_34 : decode (vm_cd 149) 34 = .ok (.iload_n 3, 1) := (congrArg (fun b => decode b 34) cd149).trans (by decide +kernel)
theorem d149_35 : decode (vm_cd 149) 35 = .ok (.invokevirtual 237, 3) := (congrArg (fun b => decode b 35) cd149).trans (by decide +kernel)
theorem d149_38 : decode (vm_cd 149) 38 = .ok (.iconst 0, 1) := (congrArg (fun b => decode b 38) cd149).trans (by decide +kernel)
theorem d149_39 : decode (vm_cd 149) 39 = .ok (.ireturn, 1) := (congrArg (fun b => decode b 39) cd149).trans (by decide +kernel)
theorem f149_50 : vm_fl.lookup (vm_own 149, 50) = some (10, 4, 254) := by decide +kernel
theorem c149_92 : vm_ml.lookup (vm_own 149, 92) = some (1, 179, 3, 291, 292, 0, 1) := vm_lk (by decide +kernel)
theorem c149_231 : vm_ml.lookup (vm_own 149, 231) = some (1, 101, 2, 635, 636, 0, 7) := vm_lk (by decide +kernel)
theorem c149_234 : vm_ml.lookup (vm_own 149, 234) = some (1, 102, 2, 644, 645, 0, 7) := vm_lk (by decide +kernel)
theorem c149_237 : vm_ml.lookup (vm_own 149, 237) = some (0, 103, 3, 647, 648, 722, 7) := vm_lk (by decide +kernel)
theorem r149 : vm_rt 149 = (some .int) := by decide +kernel
theorem B_X_team_0 {X : vX} {d : Nat} {M : vM} {Q : Option vV → vM → Prop} {l1 l2 l3 : Int}  (k : cq X d 179 [vI l1, vI 2, vI 4] M (fun r M1 => wp X d 149 6 [vR 0, vI l1, vI l2, vI l3] (r.toList ++ []) (vS0, M1) (vP Q))) : vw X d 149 0 [vR 0, vI l1, vI l2, vI l3] [] M Q := by
  refine w_iload_n d149_0 rfl ?_
  refine w_ic (v := 2) d149_1 rfl ?_
  refine w_ic (v := 4) d149_2 rfl ?_
  exact w_inv1 d149_3 c149_92 (by decide) rfl (Nat.le_of_ble_eq_true rfl) (cq.cl (k))
theorem B_X_team_6 {X : vX} {d : Nat} {M : vM} {Q : Option vV → vM → Prop} {l1 l2 l3 s0 : Int}  (k1 : s0 = 0 → vw X d 149 25 [vR 0, vI l1, vI l2, vI l3] [] M Q) (k2 : ¬ s0 = 0 → vw X d 149 9 [vR 0, vI l1, vI l2, vI l3] [] M Q) : vw X d 149 6 [vR 0, vI l1, vI l2, vI l3] [vI s0] M Q := by
  exact w_if_eq d149_6 rfl (fun h => k1 h) (fun h => k2 h)
theorem B_X_team_9 {X : vX} {d : Nat} {M : vM} {Q : Option vV → vM → Prop} {l1 l2 l3 : Int}  (k : cq X d 101 [vI l1, vI l2] M (fun r M1 => wp X d 149 14 [vR 0, vI l1, vI l2, vI l3] (r.toList ++ []) (vS0, M1) (vP Q))) : vw X d 149 9 [vR 0, vI l1, vI l2, vI l3] [] M Q := by
  refine w_iload_n d149_9 rfl ?_
  refine w_iload_n d149_10 rfl ?_
  exact w_inv1 d149_11 c149_231 (by decide) rfl (Nat.le_of_ble_eq_true rfl) (cq.cl (k))
theorem B_X_team_14 {X : vX} {d : Nat} {M : vM} {Q : Option vV → vM → Prop} {l1 l2 l3 s0 : Int}  (k1 : s0 = 0 → vw X d 149 25 [vR 0, vI l1, vI l2, vI l3] [] M Q) (k2 : ¬ s0 = 0 → vw X d 149 17 [vR 0, vI l1, vI l2, vI l3] [] M Q) : vw X d 149 14 [vR 0, vI l1, vI l2, vI l3] [vI s0] M Q := by
  exact w_if_eq d149_14 rfl (fun h => k1 h) (fun h => k2 h)
theorem B_X_team_17 {X : vX} {d : Nat} {M : vM} {Q : Option vV → vM → Prop} {l1 l2 l3 : Int}  (k : cq X d 102 [vI l1, vI l3] M (fun r M1 => wp X d 149 22 [vR 0, vI l1, vI l2, vI l3] (r.toList ++ []) (vS0, M1) (vP Q))) : vw X d 149 17 [vR 0, vI l1, vI l2, vI l3] [] M Q := by
  refine w_iload_n d149_17 rfl ?_
  refine w_iload_n d149_18 rfl ?_
  exact w_inv1 d149_19 c149_234 (by decide) rfl (Nat.le_of_ble_eq_true rfl) (cq.cl (k))
theorem B_X_team_22 {X : vX} {d : Nat} {M : vM} {Q : Option vV → vM → Prop} {l1 l2 l3 s0 : Int}  (k1 : ¬ s0 = 0 → vw X d 149 28 [vR 0, vI l1, vI l2, vI l3] [] M Q) (k2 : s0 = 0 → vw X d 149 25 [vR 0, vI l1, vI l2, vI l3] [] M Q) : vw X d 149 22 [vR 0, vI l1, vI l2, vI l3] [vI s0] M Q := by
  exact w_if_ne d149_22 rfl (fun h => k1 h) (fun h => k2 h)
theorem B_X_team_25 {X : vX} {d : Nat} {M : vM} {Q : Option vV → vM → Prop} {l1 l2 l3 : Int}  (k : Q (some (vI ((-2)))) M) : vw X d 149 25 [vR 0, vI l1, vI l2, vI l3] [] M Q := by
  refine w_bi (v := (-2)) d149_25 rfl ?_
  exact w_iret d149_27 r149 ⟨_, rfl, k⟩
theorem B_X_team_28 {X : vX} {d : Nat} {M : vM} {Q : Option vV → vM → Prop} {l1 l2 l3 : Int} (hR : vRefs M)  (k : cq X d 103 [vR 49, vI l1, vI l2, vI l3] M (fun r M1 => wp X d 149 38 [vR 0, vI l1, vI l2, vI l3] (r.toList ++ []) (vS0, M1) (vP Q))) : vw X d 149 28 [vR 0, vI l1, vI l2, vI l3] [] M Q := by
  refine w_aload_n d149_28 rfl ?_
  refine w_getf (a := 0) (v := vR 49) d149_29 f149_50 rfl rfl (congrArg vR (rf_0_4 hR)) ?_
  refine w_iload_n d149_32 rfl ?_
  refine w_iload_n d149_33 rfl ?_
  refine w_iload_n d149_34 rfl ?_
  exact w_inv0 (a := 49) (c := 7) d149_35 c149_237 rfl rfl rfl v103 (Nat.le_of_ble_eq_true rfl) (cq.cl (k))
theorem B_X_team_38 {X : vX} {d : Nat} {M : vM} {Q : Option vV → vM → Prop} {l1 l2 l3 : Int}  (k : Q (some (vI 0)) M) : vw X d 149 38 [vR 0, vI l1, vI l2, vI l3] [] M Q := by
  refine w_ic (v := 0) d149_38 rfl ?_
  exact w_iret d149_39 r149 ⟨_, rfl, k⟩
theorem E_X_team {X : vX} {d : Nat} {M : vM} {Q : Option vV → vM → Prop} {l1 l2 l3 : Int} (k : vw X d 149 0 [vR 0, vI l1, vI l2, vI l3] [] M Q) : cq X (d + 1) 149 [vR 0, vI l1, vI l2, vI l3] M Q := wc_in (Nat.le_of_ble_eq_true rfl) (Nat.le_of_ble_eq_true rfl) k
theorem cd150 : vm_cd 150 = cX11_all := rfl
theorem d150_0 : decode (vm_cd 150) 0 = .ok (.iload_n 1, 1) := (congrArg (fun b => decode b 0) cd150).trans (by decide +kernel)
theorem d150_1 : decode (vm_cd 150) 1 = .ok (.iconst 0, 1) := (congrArg (fun b => decode b 1) cd150).trans (by decide +kernel)
theorem d150_2 : decode (vm_cd 150) 2 = .ok (.iconst 4, 1) := (congrArg (fun b => decode b 2) cd150).trans (by decide +kernel)
theorem d150_3 : decode (vm_cd 150) 3 = .ok (.invokestatic 92, 3) := (congrArg (fun b => decode b 3) cd150).trans (by decide +kernel)
theorem d150_6 : decode (vm_cd 150) 6 = .ok (.ifCond .ne 5, 3) := (congrArg (fun b => decode b 6) cd150).trans (by decide +kernel)
theorem d150_9 : decode (vm_cd 150) 9 = .ok (.iconst (-1), 1) := (congrArg (fun b => decode b 9) cd150).trans (by decide +kernel)
theorem d150_10 : decode (vm_cd 150) 10 = .ok (.ireturn, 1) := (congrArg (fun b => decode b 10) cd150).trans (by decide +kernel)
theorem d150_11 : decode (vm_cd 150) 11 = .ok (.iload_n 2, 1) := (congrArg (fun b => decode b 11) cd150).trans (by decide +kernel)
theorem d150_12 : decode (vm_cd 150) 12 = .ok (.iconst 0, 1) := (congrArg (fun b => decode b 12) cd150).trans (by decide +kernel)
theorem d150_13 : decode (vm_cd 150) 13 = .ok (.sipush 999, 3) := (congrArg (fun b => decode b 13) cd150).trans (by decide +kernel)
theorem d150_16 : decode (vm_cd 150) 16 = .ok (.invokestatic 92, 3) := (congrArg (fun b => decode b 16) cd150).trans (by decide +kernel)
theorem d150_19 : decode (vm_cd 150) 19 = .ok (.ifCond .eq 15, 3) := (congrArg (fun b => decode b 19) cd150).trans (by decide +kernel)
theorem d150_22 : decode (vm_cd 150) 22 = .ok (.aload_n 0, 1) := (congrArg (fun b => decode b 22) cd150).trans (by decide +kernel)
theorem d150_23 : decode (vm_cd 150) 23 = .ok (.getfield 50, 3) := (congrArg (fun b => decode b 23) cd150).trans (by decide +kernel)
theorem d150_26 : decode (vm_cd 150) 26 = .ok (.iload_n 1, 1) := (congrArg (fun b => decode b 26) cd150).trans (by decide +kernel)
theorem d150_27 : decode (vm_cd 150) 27 = .ok (.iload_n 2, 1) := (congrArg (fun b => decode b 27) cd150).trans (by decide +kernel)
theorem d150_28 : decode (vm_cd 150) 28 = .ok (.invokevirtual 240, 3) := (congrArg (fun b => decode b 28) cd150).trans (by decide +kernel)
theorem d150_31 : decode (vm_cd 150) 31 = .ok (.goto 5, 3) := (congrArg (fun b => decode b 31) cd150).trans (by decide +kernel)
theorem d150_34 : decode (vm_cd 150) 34 = .ok (.bipush (-2), 2) := (congrArg (fun b => decode b 34) cd150).trans (by decide +kernel)
theorem d150_36 : decode (vm_cd 150) 36 = .ok (.ireturn, 1) := (congrArg (fun b => decode b 36) cd150).trans (by decide +kernel)
theorem f150_50 : vm_fl.lookup (vm_own 150, 50) = some (10, 4, 254) := by decide +kernel
theorem c150_92 : vm_ml.lookup (vm_own 150, 92) = some (1, 179, 3, 291, 292, 0, 1) := vm_lk (by decide +kernel)
theorem c150_240 : vm_ml.lookup (vm_own 150, 240) = some (0, 104, 2, 655, 656, 730, 7) := vm_lk (by decide +kernel)
theorem r150 : vm_rt 150 = (some .int) := by decide +kernel
theorem B_X_all_0 {X : vX} {d : Nat} {M : vM} {Q : Option vV → vM → Prop} {l1 l2 : Int}  (k : cq X d 179 [vI l1, vI 0, vI 4] M (fun r M1 => wp X d 150 6 [vR 0, vI l1, vI l2] (r.toList ++ []) (vS0, M1) (vP Q))) : vw X d 150 0 [vR 0, vI l1, vI l2] [] M Q := by
  refine w_iload_n d150_0 rfl ?_
  refine w_ic (v := 0) d150_1 rfl ?_
  refine w_ic (v := 4) d150_2 rfl ?_
  exact w_inv1 d150_3 c150_92 (by decide) rfl (Nat.le_of_ble_eq_true rfl) (cq.cl (k))
theorem B_X_all_6 {X : vX} {d : Nat} {M : vM} {Q : Option vV → vM → Prop} {l1 l2 s0 : Int}  (k1 : ¬ s0 = 0 → vw X d 150 11 [vR 0, vI l1, vI l2] [] M Q) (k2 : s0 = 0 → vw X d 150 9 [vR 0, vI l1, vI l2] [] M Q) : vw X d 150 6 [vR 0, vI l1, vI l2] [vI s0] M Q := by
  exact w_if_ne d150_6 rfl (fun h => k1 h) (fun h => k2 h)
theorem B_X_all_9 {X : vX} {d : Nat} {M : vM} {Q : Option vV → vM → Prop} {l1 l2 : Int}  (k : Q (some (vI ((-1)))) M) : vw X d 150 9 [vR 0, vI l1, vI l2] [] M Q := by
  refine w_ic (v := (-1)) d150_9 rfl ?_
  exact w_iret d150_10 r150 ⟨_, rfl, k⟩
theorem B_X_all_11 {X : vX} {d : Nat} {M : vM} {Q : Option vV → vM → Prop} {l1 l2 : Int}  (k : cq X d 179 [vI l2, vI 0, vI 999] M (fun r M1 => wp X d 150 19 [vR 0, vI l1, vI l2] (r.toList ++ []) (vS0, M1) (vP Q))) : vw X d 150 11 [vR 0, vI l1, vI l2] [] M Q := by
  refine w_iload_n d150_11 rfl ?_
  refine w_ic (v := 0) d150_12 rfl ?_
  refine w_si (v := 999) d150_13 rfl ?_
  exact w_inv1 d150_16 c150_92 (by decide) rfl (Nat.le_of_ble_eq_true rfl) (cq.cl (k))
theorem B_X_all_19 {X : vX} {d : Nat} {M : vM} {Q : Option vV → vM → Prop} {l1 l2 s0 : Int}  (k1 : s0 = 0 → vw X d 150 34 [vR 0, vI l1, vI l2] [] M Q) (k2 : ¬ s0 = 0 → vw X d 150 22 [vR 0, vI l1, vI l2] [] M Q) : vw X d 150 19 [vR 0, vI l1, vI l2] [vI s0] M Q := by
  exact w_if_eq d150_19 rfl (fun h => k1 h) (fun h => k2 h)
theorem B_X_all_22 {X : vX} {d : Nat} {M : vM} {Q : Option vV → vM → Prop} {l1 l2 : Int} (hR : vRefs M)  (k : cq X d 104 [vR 49, vI l1, vI l2] M (fun r M1 => wp X d 150 31 [vR 0, vI l1, vI l2] (r.toList ++ []) (vS0, M1) (vP Q))) : vw X d 150 22 [vR 0, vI l1, vI l2] [] M Q := by
  refine w_aload_n d150_22 rfl ?_
  refine w_getf (a := 0) (v := vR 49) d150_23 f150_50 rfl rfl (congrArg vR (rf_0_4 hR)) ?_
  refine w_iload_n d150_26 rfl ?_
  refine w_iload_n d150_27 rfl ?_
  exact w_inv0 (a := 49) (c := 7) d150_28 c150_240 rfl rfl rfl v104 (Nat.le_of_ble_eq_true rfl) (cq.cl (k))
theorem B_X_all_31 {X : vX} {d : Nat} {M : vM} {Q : Option vV → vM → Prop} {l1 l2 s0 : Int}  (k : Q (some (vI s0)) M) : vw X d 150 31 [vR 0, vI l1, vI l2] [vI s0] M Q := by
  refine w_goto (tgt := 36) d150_31 rfl ?_
  exact w_iret d150_36 r150 ⟨_, rfl, k⟩
theorem B_X_all_34 {X : vX} {d : Nat} {M : vM} {Q : Option vV → vM → Prop} {l1 l2 : Int}  (k : Q (some (vI ((-2)))) M) : vw X d 150 34 [vR 0, vI l1, vI l2] [] M Q := by
  refine w_bi (v := (-2)) d150_34 rfl ?_
  exact w_iret d150_36 r150 ⟨_, rfl, k⟩
theorem E_X_all {X : vX} {d : Nat} {M : vM} {Q : Option vV → vM → Prop} {l1 l2 : Int} (k : vw X d 150 0 [vR 0, vI l1, vI l2] [] M Q) : cq X (d + 1) 150 [vR 0, vI l1, vI l2] M Q := wc_in (Nat.le_of_ble_eq_true rfl) (Nat.le_of_ble_eq_true rfl) k
theorem cd151 : vm_cd 151 = cX11_has := rfl
theorem d151_0 : decode (vm_cd 151) 0 = .ok (.aload_n 0, 1) := (congrArg (fun b => decode b 0) cd151).trans (by decide +kernel)
theorem d151_1 : decode (vm_cd 151) 1 = .ok (.getfield 50, 3) := (congrArg (fun b => decode b 1) cd151).trans (by decide +kernel)
theorem d151_4 : decode (vm_cd 151) 4 = .ok (.iload_n 2, 1) := (congrArg (fun b => decode b 4) cd151).trans (by decide +kernel)
theorem d151_5 : decode (vm_cd 151) 5 = .ok (.invokevirtual 243, 3) := (congrArg (fun b => decode b 5) cd151).trans (by decide +kernel)
theorem d151_8 : decode (vm_cd 151) 8 = .ok (.ifCond .ne 5, 3) := (congrArg (fun b => decode b 8) cd151).trans (by decide +kernel)
theorem d151_11 : decode (vm_cd 151) 11 = .ok (.iconst (-1), 1) := (congrArg (fun b => decode b 11) cd151).trans (by decide +kernel)
theorem d151_12 : decode (vm_cd 151) 12 = .ok (.ireturn, 1) := (congrArg (fun b => decode b 12) cd151).trans (by decide +kernel)
theorem d151_13 : decode (vm_cd 151) 13 = .ok (.aload_n 0, 1) := (congrArg (fun b => decode b 13) cd151).trans (by decide +kernel)
theorem d151_14 : decode (vm_cd 151) 14 = .ok (.getfield 50, 3) := (congrArg (fun b => decode b 14) cd151).trans (by decide +kernel)
theorem d151_17 : decode (vm_cd 151) 17 = .ok (.iload_n 1, 1) := (congrArg (fun b => decode b 17) cd151).trans (by decide +kernel)
theorem d151_18 : decode (vm_cd 151) 18 = .ok (.invokevirtual 246, 3) := (congrArg (fun b => decode b 18) cd151).trans (by decide +kernel)
theorem d151_21 : decode (vm_cd 151) 21 = .ok (.ifCond .eq 15, 3) := (congrArg (fun b => decode b 21) cd151).trans (by decide +kernel)
theorem d151_24 : decode (vm_cd 151) 24 = .ok (.aload_n 0, 1) := (congrArg (fun b => decode b 24) cd151).trans (by decide +kernel)
theorem d151_25 : decode (vm_cd 151) 25 = .ok (.getfield 50, 3) := (congrArg (fun b => decode b 25) cd151).trans (by decide +kernel)
theorem d151_28 : decode (vm_cd 151) 28 = .ok (.iload_n 1, 1) := (congrArg (fun b => decode b 28) cd151).trans (by decide +kernel)
theorem d151_29 : decode (vm_cd 151) 29 = .ok (.iload_n 2, 1) := (congrArg (fun b => decode b 29) cd151).trans (by decide +kernel)
theorem d151_30 : decode (vm_cd 151) 30 = .ok (.invokevirtual 249, 3) := (congrArg (fun b => decode b 30) cd151).trans (by decide +kernel)
theorem d151_33 : decode (vm_cd 151) 33 = .ok (.goto 5, 3) := (congrArg (fun b => decode b 33) cd151).trans (by decide +kernel)
theorem d151_36 : decode (vm_cd 151) 36 = .ok (.bipush (-2), 2) := (congrArg (fun b => decode b 36) cd151).trans (by decide +kernel)
theorem d151_38 : decode (vm_cd 151) 38 = .ok (.ireturn, 1) := (congrArg (fun b => decode b 38) cd151).trans (by decide +kernel)
theorem f151_50 : vm_fl.lookup (vm_own 151, 50) = some (10, 4, 254) := by decide +kernel
theorem c151_243 : vm_ml.lookup (vm_own 151, 243) = some (0, 105, 1, 663, 664, 738, 7) := vm_lk (by decide +kernel)
theorem c151_246 : vm_ml.lookup (vm_own 151, 246) = some (0, 106, 1, 667, 668, 742, 7) := vm_lk (by decide +kernel)
theorem c151_249 : vm_ml.lookup (vm_own 151, 249) = some (0, 107, 2, 671, 672, 746, 7) := vm_lk (by decide +kernel)
theorem r151 : vm_rt 151 = (some .int) := by decide +kernel
theorem B_X_has_0 {X : vX} {d : Nat} {M : vM} {Q : Option vV → vM → Prop} {l1 l2 : Int} (hR : vRefs M)  (k : cq X d 105 [vR 49, vI l2] M (fun r M1 => wp X d 151 8 [vR 0, vI l1, vI l2] (r.toList ++ []) (vS0, M1) (vP Q))) : vw X d 151 0 [vR 0, vI l1, vI l2] [] M Q := by
  refine w_aload_n d151_0 rfl ?_
  refine w_getf (a := 0) (v := vR 49) d151_1 f151_50 rfl rfl (congrArg vR (rf_0_4 hR)) ?_
  refine w_iload_n d151_4 rfl ?_
  exact w_inv0 (a := 49) (c := 7) d151_5 c151_243 rfl rfl rfl v105 (Nat.le_of_ble_eq_true rfl) (cq.cl (k))
theorem B_X_has_8 {X : vX} {d : Nat} {M : vM} {Q : Option vV → vM → Prop} {l1 l2 s0 : Int}  (k1 : ¬ s0 = 0 → vw X d 151 13 [vR 0, vI l1, vI l2] [] M Q) (k2 : s0 = 0 → vw X d 151 11 [vR 0, vI l1, vI l2] [] M Q) : vw X d 151 8 [vR 0, vI l1, vI l2] [vI s0] M Q := by
  exact w_if_ne d151_8 rfl (fun h => k1 h) (fun h => k2 h)
theorem B_X_has_11 {X : vX} {d : Nat} {M : vM} {Q : Option vV → vM → Prop} {l1 l2 : Int}  (k : Q (some (vI ((-1)))) M) : vw X d 151 11 [vR 0, vI l1, vI l2] [] M Q := by
  refine w_ic (v := (-1)) d151_11 rfl ?_
  exact w_iret d151_12 r151 ⟨_, rfl, k⟩
theorem B_X_has_13 {X : vX} {d : Nat} {M : vM} {Q : Option vV → vM → Prop} {l1 l2 : Int} (hR : vRefs M)  (k : cq X d 106 [vR 49, vI l1] M (fun r M1 => wp X d 151 21 [vR 0, vI l1, vI l2] (r.toList ++ []) (vS0, M1) (vP Q))) : vw X d 151 13 [vR 0, vI l1, vI l2] [] M Q := by
  refine w_aload_n d151_13 rfl ?_
  refine w_getf (a := 0) (v := vR 49) d151_14 f151_50 rfl rfl (congrArg vR (rf_0_4 hR)) ?_
  refine w_iload_n d151_17 rfl ?_
  exact w_inv0 (a := 49) (c := 7) d151_18 c151_246 rfl rfl rfl v106 (Nat.le_of_ble_eq_true rfl) (cq.cl (k))
theorem B_X_has_21 {X : vX} {d : Nat} {M : vM} {Q : Option vV → vM → Prop} {l1 l2 s0 : Int}  (k1 : s0 = 0 → vw X d 151 36 [vR 0, vI l1, vI l2] [] M Q) (k2 : ¬ s0 = 0 → vw X d 151 24 [vR 0, vI l1, vI l2] [] M Q) : vw X d 151 21 [vR 0, vI l1, vI l2] [vI s0] M Q := by
  exact w_if_eq d151_21 rfl (fun h => k1 h) (fun h => k2 h)
theorem B_X_has_24 {X : vX} {d : Nat} {M : vM} {Q : Option vV → vM → Prop} {l1 l2 : Int} (hR : vRefs M)  (k : cq X d 107 [vR 49, vI l1, vI l2] M (fun r M1 => wp X d 151 33 [vR 0, vI l1, vI l2] (r.toList ++ []) (vS0, M1) (vP Q))) : vw X d 151 24 [vR 0, vI l1, vI l2] [] M Q := by
  refine w_aload_n d151_24 rfl ?_
  refine w_getf (a := 0) (v := vR 49) d151_25 f151_50 rfl rfl (congrArg vR (rf_0_4 hR)) ?_
  refine w_iload_n d151_28 rfl ?_
  refine w_iload_n d151_29 rfl ?_
  exact w_inv0 (a := 49) (c := 7) d151_30 c151_249 rfl rfl rfl v107 (Nat.le_of_ble_eq_true rfl) (cq.cl (k))
theorem B_X_has_33 {X : vX} {d : Nat} {M : vM} {Q : Option vV → vM → Prop} {l1 l2 s0 : Int}  (k : Q (some (vI s0)) M) : vw X d 151 33 [vR 0, vI l1, vI l2] [vI s0] M Q := by
  refine w_goto (tgt := 38) d151_33 rfl ?_
  exact w_iret d151_38 r151 ⟨_, rfl, k⟩
theorem B_X_has_36 {X : vX} {d : Nat} {M : vM} {Q : Option vV → vM → Prop} {l1 l2 : Int}  (k : Q (some (vI ((-2)))) M) : vw X d 151 36 [vR 0, vI l1, vI l2] [] M Q := by
  refine w_bi (v := (-2)) d151_36 rfl ?_
  exact w_iret d151_38 r151 ⟨_, rfl, k⟩
theorem E_X_has {X : vX} {d : Nat} {M : vM} {Q : Option vV → vM → Prop} {l1 l2 : Int} (k : vw X d 151 0 [vR 0, vI l1, vI l2] [] M Q) : cq X (d + 1) 151 [vR 0, vI l1, vI l2] M Q := wc_in (Nat.le_of_ble_eq_true rfl) (Nat.le_of_ble_eq_true rfl) k
theorem cd152 : vm_cd 152 = cX11_holds := rfl
theorem d152_0 : decode (vm_cd 152) 0 = .ok (.iload_n 2, 1) := (congrArg (fun b => decode b 0) cd152).trans (by decide +kernel)
theorem d152_1 : decode (vm_cd 152) 1 = .ok (.iconst 0, 1) := (congrArg (fun b => decode b 1) cd152).trans (by decide +kernel)
theorem d152_2 : decode (vm_cd 152) 2 = .ok (.iconst 1, 1) := (congrArg (fun b => decode b 2) cd152).trans (by decide +kernel)
theorem d152_3 : decode (vm_cd 152) 3 = .ok (.invokestatic 92, 3) := (congrArg (fun b => decode b 3) cd152).trans (by decide +kernel)
theorem d152_6 : decode (vm_cd 152) 6 = .ok (.ifCond .ne 5, 3) := (congrArg (fun b => decode b 6) cd152).trans (by decide +kernel)
theorem d152_9 : decode (vm_cd 152) 9 = .ok (.iconst (-1), 1) := (congrArg (fun b => decode b 9) cd152).trans (by decide +kernel)
theorem d152_10 : decode (vm_cd 152) 10 = .ok (.ireturn, 1) := (congrArg (fun b => decode b 10) cd152).trans (by decide +kernel)
theorem d152_11 : decode (vm_cd 152) 11 = .ok (.aload_n 0, 1) := (congrArg (fun b => decode b 11) cd152).trans (by decide +kernel)
theorem d152_12 : decode (vm_cd 152) 12 = .ok (.getfield 50, 3) := (congrArg (fun b => decode b 12) cd152).trans (by decide +kernel)
theorem d152_15 : decode (vm_cd 152) 15 = .ok (.iload_n 1, 1) := (congrArg (fun b => decode b 15) cd152).trans (by decide +kernel)
theorem d152_16 : decode (vm_cd 152) 16 = .ok (.invokevirtual 246, 3) := (congrArg (fun b => decode b 16) cd152).trans (by decide +kernel)
theorem d152_19 : decode (vm_cd 152) 19 = .ok (.ifCond .ne 6, 3) := (congrArg (fun b => decode b 19) cd152).trans (by decide +kernel)
theorem d152_22 : decode (vm_cd 152) 22 = .ok (.bipush (-2), 2) := (congrArg (fun b => decode b 22) cd152).trans (by decide +kernel)
theorem d152_24 : decode (vm_cd 152) 24 = .ok (.ireturn, 1) := (congrArg (fun b => decode b 24) cd152).trans (by decide +kernel)
theorem d152_25 : decode (vm_cd 152) 25 = .ok (.aload_n 0, 1) := (congrArg (fun b => decode b 25) cd152).trans (by decide +kernel)
theorem d152_26 : decode (vm_cd 152) 26 = .ok (.getfield 50, 3) := (congrArg (fun b => decode b 26) cd152).trans (by decide +kernel)
theorem d152_29 : decode (vm_cd 152) 29 = .ok (.iload_n 1, 1) := (congrArg (fun b => decode b 29) cd152).trans (by decide +kernel)
theorem d152_30 : decode (vm_cd 152) 30 = .ok (.iload_n 2, 1) := (congrArg (fun b => decode b 30) cd152).trans (by decide +kernel)
theorem d152_31 : decode (vm_cd 152) 31 = .ok (.iconst 1, 1) := (congrArg (fun b => decode b 31) cd152).trans (by decide +kernel)
theorem d152_32 : decode (vm_cd 152) 32 = .ok (.if_icmp .ne 7, 3) := (congrArg (fun b => decode b 32) cd152).trans (by decide +kernel)
theorem d152_35 : decode (vm_cd 152) 35 = .ok (.iconst 1, 1) := (congrArg (fun b => decode b 35) cd152).trans (by decide +kernel)
theorem d152_36 : decode (vm_cd 152) 36 = .ok (.goto 4, 3) := (congrArg (fun b => decode b 36) cd152).trans (by decide +kernel)
theorem d152_39 : decode (vm_cd 152) 39 = .ok (.iconst 0, 1) := (congrArg (fun b => decode b 39) cd152).trans (by decide +kernel)
theorem d152_40 : decode (vm_cd 152) 40 = .ok (.invokevirtual 251, 3) := (congrArg (fun b => decode b 40) cd152).trans (by decide +kernel)
theorem d152_43 : decode (vm_cd 152) 43 = .ok (.iconst (-1), 1) := (congrArg (fun b => decode b 43) cd152).trans (by decide +kernel)
theorem d152_44 : decode (vm_cd 152) 44 = .ok (.if_icmp .ne 7, 3) := (congrArg (fun b => decode b 44) cd152).trans (by decide +kernel)
theorem d152_47 : decode (vm_cd 152) 47 = .ok (.iconst 1, 1) := (congrArg (fun b => decode b 47) cd152).trans (by decide +kernel)
theorem d152_48 : decode (vm_cd 152) 48 = .ok (.goto 4, 3) := (congrArg (fun b => decode b 48) cd152).trans (by decide +kernel)
theorem d152_51 : decode (vm_cd 152) 51 = .ok (.iconst 0, 1) := (congrArg (fun b => decode b 51) cd152).trans (by decide +kernel)
theorem d152_52 : decode (vm_cd 152) 52 = .ok (.ireturn, 1) := (congrArg (fun b => decode b 52) cd152).trans (by decide +kernel)
theorem f152_50 : vm_fl.lookup (vm_own 152, 50) = some (10, 4, 254) := by decide +kernel
theorem c152_92 : vm_ml.lookup (vm_own 152, 92) = some (1, 179, 3, 291, 292, 0, 1) := vm_lk (by decide +kernel)
theorem c152_246 : vm_ml.lookup (vm_own 152, 246) = some (0, 106, 1, 667, 668, 742, 7) := vm_lk (by decide +kernel)
theorem c152_251 : vm_ml.lookup (vm_own 152, 251) = some (0, 108, 2, 685, 686, 760, 7) := vm_lk (by decide +kernel)
theorem r152 : vm_rt 152 = (some .int) := by decide +kernel
theorem B_X_holds_0 {X : vX} {d : Nat} {M : vM} {Q : Option vV → vM → Prop} {l1 l2 : Int}  (k : cq X d 179 [vI l2, vI 0, vI 1] M (fun r M1 => wp X d 152 6 [vR 0, vI l1, vI l2] (r.toList ++ []) (vS0, M1) (vP Q))) : vw X d 152 0 [vR 0, vI l1, vI l2] [] M Q := by
  refine w_iload_n d152_0 rfl ?_
  refine w_ic (v := 0) d152_1 rfl ?_
  refine w_ic (v := 1) d152_2 rfl ?_
  exact w_inv1 d152_3 c152_92 (by decide) rfl (Nat.le_of_ble_eq_true rfl) (cq.cl (k))
theorem B_X_holds_6 {X : vX} {d : Nat} {M : vM} {Q : Option vV → vM → Prop} {l1 l2 s0 : Int}  (k1 : ¬ s0 = 0 → vw X d 152 11 [vR 0, vI l1, vI l2] [] M Q) (k2 : s0 = 0 → vw X d 152 9 [vR 0, vI l1, vI l2] [] M Q) : vw X d 152 6 [vR 0, vI l1, vI l2] [vI s0] M Q := by
  exact w_if_ne d152_6 rfl (fun h => k1 h) (fun h => k2 h)
theorem B_X_holds_9 {X : vX} {d : Nat} {M : vM} {Q : Option vV → vM → Prop} {l1 l2 : Int}  (k : Q (some (vI ((-1)))) M) : vw X d 152 9 [vR 0, vI l1, vI l2] [] M Q := by
  refine w_ic (v := (-1)) d152_9 rfl ?_
  exact w_iret d152_10 r152 ⟨_, rfl, k⟩
theorem B_X_holds_11 {X : vX} {d : Nat} {M : vM} {Q : Option vV → vM → Prop} {l1 l2 : Int} (hR : vRefs M)  (k : cq X d 106 [vR 49, vI l1] M (fun r M1 => wp X d 152 19 [vR 0, vI l1, vI l2] (r.toList ++ []) (vS0, M1) (vP Q))) : vw X d 152 11 [vR 0, vI l1, vI l2] [] M Q := by
  refine w_aload_n d152_11 rfl ?_
  refine w_getf (a := 0) (v := vR 49) d152_12 f152_50 rfl rfl (congrArg vR (rf_0_4 hR)) ?_
  refine w_iload_n d152_15 rfl ?_
  exact w_inv0 (a := 49) (c := 7) d152_16 c152_246 rfl rfl rfl v106 (Nat.le_of_ble_eq_true rfl) (cq.cl (k))
theorem B_X_holds_19 {X : vX} {d : Nat} {M : vM} {Q : Option vV → vM → Prop} {l1 l2 s0 : Int}  (k1 : ¬ s0 = 0 → vw X d 152 25 [vR 0, vI l1, vI l2] [] M Q) (k2 : s0 = 0 → vw X d 152 22 [vR 0, vI l1, vI l2] [] M Q) : vw X d 152 19 [vR 0, vI l1, vI l2] [vI s0] M Q := by
  exact w_if_ne d152_19 rfl (fun h => k1 h) (fun h => k2 h)
theorem B_X_holds_22 {X : vX} {d : Nat} {M : vM} {Q : Option vV → vM → Prop} {l1 l2 : Int}  (k : Q (some (vI ((-2)))) M) : vw X d 152 22 [vR 0, vI l1, vI l2] [] M Q := by
  refine w_bi (v := (-2)) d152_22 rfl ?_
  exact w_iret d152_24 r152 ⟨_, rfl, k⟩
theorem B_X_holds_25 {X : vX} {d : Nat} {M : vM} {Q : Option vV → vM → Prop} {l1 l2 : Int} (hR : vRefs M)  (k1 : ¬ l2 = 1 → vw X d 152 39 [vR 0, vI l1, vI l2] [vI l1, vR 49] M Q) (k2 : l2 = 1 → vw X d 152 35 [vR 0, vI l1, vI l2] [vI l1, vR 49] M Q) : vw X d 152 25 [vR 0, vI l1, vI l2] [] M Q := by
  refine w_aload_n d152_25 rfl ?_
  refine w_getf (a := 0) (v := vR 49) d152_26 f152_50 rfl rfl (congrArg vR (rf_0_4 hR)) ?_
  refine w_iload_n d152_29 rfl ?_
  refine w_iload_n d152_30 rfl ?_
  refine w_ic (v := 1) d152_31 rfl ?_
  exact w_icmp_ne d152_32 rfl (fun h => k1 h) (fun h => k2 h)
theorem B_X_holds_35 {X : vX} {d : Nat} {M : vM} {Q : Option vV → vM → Prop} {l1 l2 s1 : Int}  (k : cq X d 108 [vR 49, vI s1, vI 1] M (fun r M1 => wp X d 152 43 [vR 0, vI l1, vI l2] (r.toList ++ []) (vS0, M1) (vP Q))) : vw X d 152 35 [vR 0, vI l1, vI l2] [vI s1, vR 49] M Q := by
  refine w_ic (v := 1) d152_35 rfl ?_
  refine w_goto (tgt := 40) d152_36 rfl ?_
  exact w_inv0 (a := 49) (c := 7) d152_40 c152_251 rfl rfl rfl v108 (Nat.le_of_ble_eq_true rfl) (cq.cl (k))
theorem B_X_holds_39 {X : vX} {d : Nat} {M : vM} {Q : Option vV → vM → Prop} {l1 l2 s1 : Int}  (k : cq X d 108 [vR 49, vI s1, vI 0] M (fun r M1 => wp X d 152 43 [vR 0, vI l1, vI l2] (r.toList ++ []) (vS0, M1) (vP Q))) : vw X d 152 39 [vR 0, vI l1, vI l2] [vI s1, vR 49] M Q := by
  refine w_ic (v := 0) d152_39 rfl ?_
  exact w_inv0 (a := 49) (c := 7) d152_40 c152_251 rfl rfl rfl v108 (Nat.le_of_ble_eq_true rfl) (cq.cl (k))
theorem B_X_holds_43 {X : vX} {d : Nat} {M : vM} {Q : Option vV → vM → Prop} {l1 l2 s0 : Int}  (k1 : ¬ s0 = ((-1)) → vw X d 152 51 [vR 0, vI l1, vI l2] [] M Q) (k2 : s0 = ((-1)) → vw X d 152 47 [vR 0, vI l1, vI l2] [] M Q) : vw X d 152 43 [vR 0, vI l1, vI l2] [vI s0] M Q := by
  refine w_ic (v := (-1)) d152_43 rfl ?_
  exact w_icmp_ne d152_44 rfl (fun h => k1 h) (fun h => k2 h)
theorem B_X_holds_47 {X : vX} {d : Nat} {M : vM} {Q : Option vV → vM → Prop} {l1 l2 : Int}  (k : Q (some (vI 1)) M) : vw X d 152 47 [vR 0, vI l1, vI l2] [] M Q := by
  refine w_ic (v := 1) d152_47 rfl ?_
  refine w_goto (tgt := 52) d152_48 rfl ?_
  exact w_iret d152_52 r152 ⟨_, rfl, k⟩
theorem B_X_holds_51 {X : vX} {d : Nat} {M : vM} {Q : Option vV → vM → Prop} {l1 l2 : Int}  (k : Q (some (vI 0)) M) : vw X d 152 51 [vR 0, vI l1, vI l2] [] M Q := by
  refine w_ic (v := 0) d152_51 rfl ?_
  exact w_iret d152_52 r152 ⟨_, rfl, k⟩
theorem E_X_holds {X : vX} {d : Nat} {M : vM} {Q : Option vV → vM → Prop} {l1 l2 : Int} (k : vw X d 152 0 [vR 0, vI l1, vI l2] [] M Q) : cq X (d + 1) 152 [vR 0, vI l1, vI l2] M Q := wc_in (Nat.le_of_ble_eq_true rfl) (Nat.le_of_ble_eq_true rfl) k
theorem cd153 : vm_cd 153 = cX11_breaks := rfl
theorem d153_0 : decode (vm_cd 153) 0 = .ok (.aload_n 0, 1) := (congrArg (fun b => decode b 0) cd153).trans (by decide +kernel)
theorem d153_1 : decode (vm_cd 153) 1 = .ok (.getfield 50, 3) := (congrArg (fun b => decode b 1) cd153).trans (by decide +kernel)
theorem d153_4 : decode (vm_cd 153) 4 = .ok (.iload_n 1, 1) := (congrArg (fun b => decode b 4) cd153).trans (by decide +kernel)
theorem d153_5 : decode (vm_cd 153) 5 = .ok (.invokevirtual 246, 3) := (congrArg (fun b => decode b 5) cd153).trans (by decide +kernel)
theorem d153_8 : decode (vm_cd 153) 8 = .ok (.ifCond .eq 15, 3) := (congrArg (fun b => decode b 8) cd153).trans (by decide +kernel)
theorem d153_11 : decode (vm_cd 153) 11 = .ok (.aload_n 0, 1) := (congrArg (fun b => decode b 11) cd153).trans (by decide +kernel)
theorem d153_12 : decode (vm_cd 153) 12 = .ok (.getfield 50, 3) := (congrArg (fun b => decode b 12) cd153).trans (by decide +kernel)
theorem d153_15 : decode (vm_cd 153) 15 = .ok (.iload_n 1, 1) := (congrArg (fun b => decode b 15) cd153).trans (by decide +kernel)
theorem d153_16 : decode (vm_cd 153) 16 = .ok (.iconst 0, 1) := (congrArg (fun b => decode b 16) cd153).trans (by decide +kernel)
theorem d153_17 : decode (vm_cd 153) 17 = .ok (.invokevirtual 251, 3) := (congrArg (fun b => decode b 17) cd153).trans (by decide +kernel)
theorem d153_20 : decode (vm_cd 153) 20 = .ok (.goto 5, 3) := (congrArg (fun b => decode b 20) cd153).trans (by decide +kernel)
theorem d153_23 : decode (vm_cd 153) 23 = .ok (.bipush (-2), 2) := (congrArg (fun b => decode b 23) cd153).trans (by decide +kernel)
theorem d153_25 : decode (vm_cd 153) 25 = .ok (.ireturn, 1) := (congrArg (fun b => decode b 25) cd153).trans (by decide +kernel)
theorem f153_50 : vm_fl.lookup (vm_own 153, 50) = some (10, 4, 254) := by decide +kernel
theorem c153_246 : vm_ml.lookup (vm_own 153, 246) = some (0, 106, 1, 667, 668, 742, 7) := vm_lk (by decide +kernel)
theorem c153_251 : vm_ml.lookup (vm_own 153, 251) = some (0, 108, 2, 685, 686, 760, 7) := vm_lk (by decide +kernel)
theorem r153 : vm_rt 153 = (some .int) := by decide +kernel
theorem B_X_breaks_0 {X : vX} {d : Nat} {M : vM} {Q : Option vV → vM → Prop} {l1 : Int} (hR : vRefs M)  (k : cq X d 106 [vR 49, vI l1] M (fun r M1 => wp X d 153 8 [vR 0, vI l1] (r.toList ++ []) (vS0, M1) (vP Q))) : vw X d 153 0 [vR 0, vI l1] [] M Q := by
  refine w_aload_n d153_0 rfl ?_
  refine w_getf (a := 0) (v := vR 49) d153_1 f153_50 rfl rfl (congrArg vR (rf_0_4 hR)) ?_
  refine w_iload_n d153_4 rfl ?_
  exact w_inv0 (a := 49) (c := 7) d153_5 c153_246 rfl rfl rfl v106 (Nat.le_of_ble_eq_true rfl) (cq.cl (k))
theorem B_X_breaks_8 {X : vX} {d : Nat} {M : vM} {Q : Option vV → vM → Prop} {l1 s0 : Int}  (k1 : s0 = 0 → vw X d 153 23 [vR 0, vI l1] [] M Q) (k2 : ¬ s0 = 0 → vw X d 153 11 [vR 0, vI l1] [] M Q) : vw X d 153 8 [vR 0, vI l1] [vI s0] M Q := by
  exact w_if_eq d153_8 rfl (fun h => k1 h) (fun h => k2 h)
theorem B_X_breaks_11 {X : vX} {d : Nat} {M : vM} {Q : Option vV → vM → Prop} {l1 : Int} (hR : vRefs M)  (k : cq X d 108 [vR 49, vI l1, vI 0] M (fun r M1 => wp X d 153 20 [vR 0, vI l1] (r.toList ++ []) (vS0, M1) (vP Q))) : vw X d 153 11 [vR 0, vI l1] [] M Q := by
  refine w_aload_n d153_11 rfl ?_
  refine w_getf (a := 0) (v := vR 49) d153_12 f153_50 rfl rfl (congrArg vR (rf_0_4 hR)) ?_
  refine w_iload_n d153_15 rfl ?_
  refine w_ic (v := 0) d153_16 rfl ?_
  exact w_inv0 (a := 49) (c := 7) d153_17 c153_251 rfl rfl rfl v108 (Nat.le_of_ble_eq_true rfl) (cq.cl (k))
theorem B_X_breaks_20 {X : vX} {d : Nat} {M : vM} {Q : Option vV → vM → Prop} {l1 s0 : Int}  (k : Q (some (vI s0)) M) : vw X d 153 20 [vR 0, vI l1] [vI s0] M Q := by
  refine w_goto (tgt := 25) d153_20 rfl ?_
  exact w_iret d153_25 r153 ⟨_, rfl, k⟩
theorem B_X_breaks_23 {X : vX} {d : Nat} {M : vM} {Q : Option vV → vM → Prop} {l1 : Int}  (k : Q (some (vI ((-2)))) M) : vw X d 153 23 [vR 0, vI l1] [] M Q := by
  refine w_bi (v := (-2)) d153_23 rfl ?_
  exact w_iret d153_25 r153 ⟨_, rfl, k⟩
theorem E_X_breaks {X : vX} {d : Nat} {M : vM} {Q : Option vV → vM → Prop} {l1 : Int} (k : vw X d 153 0 [vR 0, vI l1] [] M Q) : cq X (d + 1) 153 [vR 0, vI l1] M Q := wc_in (Nat.le_of_ble_eq_true rfl) (Nat.le_of_ble_eq_true rfl) k
theorem cd154 : vm_cd 154 = cX11_look := rfl
theorem d154_0 : decode (vm_cd 154) 0 = .ok (.iload_n 1, 1) := (congrArg (fun b => decode b 0) cd154).trans (by decide +kernel)
theorem d154_1 : decode (vm_cd 154) 1 = .ok (.iconst 1, 1) := (congrArg (fun b => decode b 1) cd154).trans (by decide +kernel)
theorem d154_2 : decode (vm_cd 154) 2 = .ok (.sipush 999, 3) := (congrArg (fun b => decode b 2) cd154).trans (by decide +kernel)
theorem d154_5 : decode (vm_cd 154) 5 = .ok (.invokestatic 92, 3) := (congrArg (fun b => decode b 5) cd154).trans (by decide +kernel)
theorem d154_8 : decode (vm_cd 154) 8 = .ok (.ifCond .eq 27, 3) := (congrArg (fun b => decode b 8) cd154).trans (by decide +kernel)
theorem d154_11 : decode (vm_cd 154) 11 = .ok (.iload_n 2, 1) := (congrArg (fun b => decode b 11) cd154).trans (by decide +kernel)
theorem d154_12 : decode (vm_cd 154) 12 = .ok (.iconst 0, 1) := (congrArg (fun b => decode b 12) cd154).trans (by decide +kernel)
theorem d154_13 : decode (vm_cd 154) 13 = .ok (.sipush 999, 3) := (congrArg (fun b => decode b 13) cd154).trans (by decide +kernel)
theorem d154_16 : decode (vm_cd 154) 16 = .ok (.invokestatic 92, 3) := (congrArg (fun b => decode b 16) cd154).trans (by decide +kernel)
theorem d154_19 : decode (vm_cd 154) 19 = .ok (.ifCond .eq 16, 3) := (congrArg (fun b => decode b 19) cd154).trans (by decide +kernel)
theorem d154_22 : decode (vm_cd 154) 22 = .ok (.iload_n 1, 1) := (congrArg (fun b => decode b 22) cd154).trans (by decide +kernel)
theorem d154_23 : decode (vm_cd 154) 23 = .ok (.i2l, 1) := (congrArg (fun b => decode b 23) cd154).trans (by decide +kernel)
theorem d154_24 : decode (vm_cd 154) 24 = .ok (.iload_n 1, 1) := (congrArg (fun b => decode b 24) cd154).trans (by decide +kernel)
theorem d154_25 : decode (vm_cd 154) 25 = .ok (.iload_n 2, 1) := (congrArg (fun b => decode b 25) cd154).trans (by decide +kernel)
theorem d154_26 : decode (vm_cd 154) 26 = .ok (.iadd, 1) := (congrArg (fun b => decode b 26) cd154).trans (by decide +kernel)
theorem d154_27 : decode (vm_cd 154) 27 = .ok (.i2l, 1) := (congrArg (fun b => decode b 27) cd154).trans (by decide +kernel)
theorem d154_28 : decode (vm_cd 154) 28 = .ok (.iload_n 3, 1) := (congrArg (fun b => decode b 28) cd154).trans (by decide +kernel)
theorem d154_29 : decode (vm_cd 154) 29 = .ok (.invokestatic 152, 3) := (congrArg (fun b => decode b 29) cd154).trans (by decide +kernel)
theorem d154_32 : decode (vm_cd 154) 32 = .ok (.goto 6, 3) := (congrArg (fun b => decode b 32) cd154).trans (by decide +kernel)
theorem d154_35 : decode (vm_cd 154) 35 = .ok (.ldc2_w 130, 3) := (congrArg (fun b => decode b 35) cd154).trans (by decide +kernel)
theorem d154_38 : decode (vm_cd 154) 38 = .ok (.lreturn, 1) := (congrArg (fun b => decode b 38) cd154).trans (by decide +kernel)
theorem c154_92 : vm_ml.lookup (vm_own 154, 92) = some (1, 179, 3, 291, 292, 0, 1) := vm_lk (by decide +kernel)
theorem c154_152 : vm_ml.lookup (vm_own 154, 152) = some (1, 182, 3, 467, 468, 0, 1) := vm_lk (by decide +kernel)
theorem g154_130 : vm_cn.lookup (vm_own 154, 130) = some ((1), (-9223372036854775808), (365)) := by decide +kernel
theorem r154 : vm_rt 154 = (some .long) := by decide +kernel
theorem B_X_look_0 {X : vX} {d : Nat} {M : vM} {Q : Option vV → vM → Prop} {l1 l2 l3 : Int}  (k : cq X d 179 [vI l1, vI 1, vI 999] M (fun r M1 => wp X d 154 8 [vR 0, vI l1, vI l2, vI l3] (r.toList ++ []) (vS0, M1) (vP Q))) : vw X d 154 0 [vR 0, vI l1, vI l2, vI l3] [] M Q := by
  refine w_iload_n d154_0 rfl ?_
  refine w_ic (v := 1) d154_1 rfl ?_
  refine w_si (v := 999) d154_2 rfl ?_
  exact w_inv1 d154_5 c154_92 (by decide) rfl (Nat.le_of_ble_eq_true rfl) (cq.cl (k))
theorem B_X_look_8 {X : vX} {d : Nat} {M : vM} {Q : Option vV → vM → Prop} {l1 l2 l3 s0 : Int}  (k1 : s0 = 0 → vw X d 154 35 [vR 0, vI l1, vI l2, vI l3] [] M Q) (k2 : ¬ s0 = 0 → vw X d 154 11 [vR 0, vI l1, vI l2, vI l3] [] M Q) : vw X d 154 8 [vR 0, vI l1, vI l2, vI l3] [vI s0] M Q := by
  exact w_if_eq d154_8 rfl (fun h => k1 h) (fun h => k2 h)
theorem B_X_look_11 {X : vX} {d : Nat} {M : vM} {Q : Option vV → vM → Prop} {l1 l2 l3 : Int}  (k : cq X d 179 [vI l2, vI 0, vI 999] M (fun r M1 => wp X d 154 19 [vR 0, vI l1, vI l2, vI l3] (r.toList ++ []) (vS0, M1) (vP Q))) : vw X d 154 11 [vR 0, vI l1, vI l2, vI l3] [] M Q := by
  refine w_iload_n d154_11 rfl ?_
  refine w_ic (v := 0) d154_12 rfl ?_
  refine w_si (v := 999) d154_13 rfl ?_
  exact w_inv1 d154_16 c154_92 (by decide) rfl (Nat.le_of_ble_eq_true rfl) (cq.cl (k))
theorem B_X_look_19 {X : vX} {d : Nat} {M : vM} {Q : Option vV → vM → Prop} {l1 l2 l3 s0 : Int}  (k1 : s0 = 0 → vw X d 154 35 [vR 0, vI l1, vI l2, vI l3] [] M Q) (k2 : ¬ s0 = 0 → vw X d 154 22 [vR 0, vI l1, vI l2, vI l3] [] M Q) : vw X d 154 19 [vR 0, vI l1, vI l2, vI l3] [vI s0] M Q := by
  exact w_if_eq d154_19 rfl (fun h => k1 h) (fun h => k2 h)
theorem B_X_look_22 {X : vX} {d : Nat} {M : vM} {Q : Option vV → vM → Prop} {l1 l2 l3 : Int}  (k : cq X d 182 [vL l1, vL (w32 (l1 + l2)), vI l3] M (fun r M1 => wp X d 154 32 [vR 0, vI l1, vI l2, vI l3] (r.toList ++ []) (vS0, M1) (vP Q))) : vw X d 154 22 [vR 0, vI l1, vI l2, vI l3] [] M Q := by
  refine w_iload_n d154_22 rfl ?_
  refine w_i2l d154_23 ?_
  refine w_iload_n d154_24 rfl ?_
  refine w_iload_n d154_25 rfl ?_
  refine w_iadd d154_26 ?_
  refine w_i2l d154_27 ?_
  refine w_iload_n d154_28 rfl ?_
  exact w_inv1 d154_29 c154_152 (by decide) rfl (Nat.le_of_ble_eq_true rfl) (cq.cl (k))
theorem B_X_look_32 {X : vX} {d : Nat} {M : vM} {Q : Option vV → vM → Prop} {l1 l2 l3 s0 : Int}  (k : Q (some (vL s0)) M) : vw X d 154 32 [vR 0, vI l1, vI l2, vI l3] [vL s0] M Q := by
  refine w_goto (tgt := 38) d154_32 rfl ?_
  exact w_lret d154_38 r154 ⟨_, rfl, k⟩
theorem B_X_look_35 {X : vX} {d : Nat} {M : vM} {Q : Option vV → vM → Prop} {l1 l2 l3 : Int}  (k : Q (some (vL ((-9223372036854775808)))) M) : vw X d 154 35 [vR 0, vI l1, vI l2, vI l3] [] M Q := by
  refine w_ldc2_w (v := (-9223372036854775808)) d154_35 g154_130 rfl ?_
  exact w_lret d154_38 r154 ⟨_, rfl, k⟩
theorem E_X_look {X : vX} {d : Nat} {M : vM} {Q : Option vV → vM → Prop} {l1 l2 l3 : Int} (k : vw X d 154 0 [vR 0, vI l1, vI l2, vI l3] [] M Q) : cq X (d + 1) 154 [vR 0, vI l1, vI l2, vI l3] M Q := wc_in (Nat.le_of_ble_eq_true rfl) (Nat.le_of_ble_eq_true rfl) k
theorem cd155 : vm_cd 155 = cX11_contest := rfl
theorem d155_0 : decode (vm_cd 155) 0 = .ok (.iload_n 1, 1) := (congrArg (fun b => decode b 0) cd155).trans (by decide +kernel)
theorem d155_1 : decode (vm_cd 155) 1 = .ok (.iconst 0, 1) := (congrArg (fun b => decode b 1) cd155).trans (by decide +kernel)
theorem d155_2 : decode (vm_cd 155) 2 = .ok (.sipush 999, 3) := (congrArg (fun b => decode b 2) cd155).trans (by decide +kernel)
theorem d155_5 : decode (vm_cd 155) 5 = .ok (.invokestatic 92, 3) := (congrArg (fun b => decode b 5) cd155).trans (by decide +kernel)
theorem d155_8 : decode (vm_cd 155) 8 = .ok (.ifCond .eq 20, 3) := (congrArg (fun b => decode b 8) cd155).trans (by decide +kernel)
theorem d155_11 : decode (vm_cd 155) 11 = .ok (.iload_n 2, 1) := (congrArg (fun b => decode b 11) cd155).trans (by decide +kernel)
theorem d155_12 : decode (vm_cd 155) 12 = .ok (.invokestatic 255, 3) := (congrArg (fun b => decode b 12) cd155).trans (by decide +kernel)
theorem d155_15 : decode (vm_cd 155) 15 = .ok (.ifCond .eq 13, 3) := (congrArg (fun b => decode b 15) cd155).trans (by decide +kernel)
theorem d155_18 : decode (vm_cd 155) 18 = .ok (.iload_n 3, 1) := (congrArg (fun b => decode b 18) cd155).trans (by decide +kernel)
theorem d155_19 : decode (vm_cd 155) 19 = .ok (.iconst 0, 1) := (congrArg (fun b => decode b 19) cd155).trans (by decide +kernel)
theorem d155_20 : decode (vm_cd 155) 20 = .ok (.bipush 99, 2) := (congrArg (fun b => decode b 20) cd155).trans (by decide +kernel)
theorem d155_22 : decode (vm_cd 155) 22 = .ok (.invokestatic 92, 3) := (congrArg (fun b => decode b 22) cd155).trans (by decide +kernel)
theorem d155_25 : decode (vm_cd 155) 25 = .ok (.ifCond .ne 6, 3) := (congrArg (fun b => decode b 25) cd155).trans (by decide +kernel)
theorem d155_28 : decode (vm_cd 155) 28 = .ok (.bipush (-2), 2) := (congrArg (fun b => decode b 28) cd155).trans (by decide +kernel)
theorem d155_30 : decode (vm_cd 155) 30 = .ok (.ireturn, 1) := (congrArg (fun b => decode b 30) cd155).trans (by decide +kernel)
theorem d155_31 : decode (vm_cd 155) 31 = .ok (.aload_n 0, 1) := (congrArg (fun b => decode b 31) cd155).trans (by decide +kernel)
theorem d155_32 : decode (vm_cd 155) 32 = .ok (.getfield 57, 3) := (congrArg (fun b => decode b 32) cd155).trans (by decide +kernel)
theorem d155_35 : decode (vm_cd 155) 35 = .ok (.iload_n 1, 1) := (congrArg (fun b => decode b 35) cd155).trans (by decide +kernel)
theorem d155_36 : decode (vm_cd 155) 36 = .ok (.iload_n 2, 1) := (congrArg (fun b => decode b 36) cd155).trans (by decide +kernel)
theorem d155_37 : decode (vm_cd 155) 37 = .ok (.iload_n 3, 1) := (congrArg (fun b => decode b 37) cd155).trans (by decide +kernel)
theorem d155_38 : decode (vm_cd 155) 38 = .ok (.invokevirtual 257, 3) := (congrArg (fun b => decode b 38) cd155).trans (by decide +kernel)
theorem d155_41 : decode (vm_cd 155) 41 = .ok (.iconst 0, 1) := (congrArg (fun b => decode b 41) cd155).trans (by decide +kernel)
theorem d155_42 : decode (vm_cd 155) 42 = .ok (.ireturn, 1) := (congrArg (fun b => decode b 42) cd155).trans (by decide +kernel)
theorem f155_57 : vm_fl.lookup (vm_own 155, 57) = some (10, 5, 255) := by decide +kernel
theorem c155_92 : vm_ml.lookup (vm_own 155, 92) = some (1, 179, 3, 291, 292, 0, 1) := vm_lk (by decide +kernel)
theorem c155_255 : vm_ml.lookup (vm_own 155, 255) = some (1, 28, 1, 706, 707, 0, 8) := vm_lk (by decide +kernel)
theorem c155_257 : vm_ml.lookup (vm_own 155, 257) = some (0, 29, 3, 710, 711, 785, 8) := vm_lk (by decide +kernel)
theorem r155 : vm_rt 155 = (some .int) := by decide +kernel
theorem B_X_contest_0 {X : vX} {d : Nat} {M : vM} {Q : Option vV → vM → Prop} {l1 l2 l3 : Int}  (k : cq X d 179 [vI l1, vI 0, vI 999] M (fun r M1 => wp X d 155 8 [vR 0, vI l1, vI l2, vI l3] (r.toList ++ []) (vS0, M1) (vP Q))) : vw X d 155 0 [vR 0, vI l1, vI l2, vI l3] [] M Q := by
  refine w_iload_n d155_0 rfl ?_
  refine w_ic (v := 0) d155_1 rfl ?_
  refine w_si (v := 999) d155_2 rfl ?_
  exact w_inv1 d155_5 c155_92 (by decide) rfl (Nat.le_of_ble_eq_true rfl) (cq.cl (k))
theorem B_X_contest_8 {X : vX} {d : Nat} {M : vM} {Q : Option vV → vM → Prop} {l1 l2 l3 s0 : Int}  (k1 : s0 = 0 → vw X d 155 28 [vR 0, vI l1, vI l2, vI l3] [] M Q) (k2 : ¬ s0 = 0 → vw X d 155 11 [vR 0, vI l1, vI l2, vI l3] [] M Q) : vw X d 155 8 [vR 0, vI l1, vI l2, vI l3] [vI s0] M Q := by
  exact w_if_eq d155_8 rfl (fun h => k1 h) (fun h => k2 h)
theorem B_X_contest_11 {X : vX} {d : Nat} {M : vM} {Q : Option vV → vM → Prop} {l1 l2 l3 : Int}  (k : cq X d 28 [vI l2] M (fun r M1 => wp X d 155 15 [vR 0, vI l1, vI l2, vI l3] (r.toList ++ []) (vS0, M1) (vP Q))) : vw X d 155 11 [vR 0, vI l1, vI l2, vI l3] [] M Q := by
  refine w_iload_n d155_11 rfl ?_
  exact w_inv1 d155_12 c155_255 (by decide) rfl (Nat.le_of_ble_eq_true rfl) (cq.cl (k))
theorem B_X_contest_15 {X : vX} {d : Nat} {M : vM} {Q : Option vV → vM → Prop} {l1 l2 l3 s0 : Int}  (k1 : s0 = 0 → vw X d 155 28 [vR 0, vI l1, vI l2, vI l3] [] M Q) (k2 : ¬ s0 = 0 → vw X d 155 18 [vR 0, vI l1, vI l2, vI l3] [] M Q) : vw X d 155 15 [vR 0, vI l1, vI l2, vI l3] [vI s0] M Q := by
  exact w_if_eq d155_15 rfl (fun h => k1 h) (fun h => k2 h)
theorem B_X_contest_18 {X : vX} {d : Nat} {M : vM} {Q : Option vV → vM → Prop} {l1 l2 l3 : Int}  (k : cq X d 179 [vI l3, vI 0, vI 99] M (fun r M1 => wp X d 155 25 [vR 0, vI l1, vI l2, vI l3] (r.toList ++ []) (vS0, M1) (vP Q))) : vw X d 155 18 [vR 0, vI l1, vI l2, vI l3] [] M Q := by
  refine w_iload_n d155_18 rfl ?_
  refine w_ic (v := 0) d155_19 rfl ?_
  refine w_bi (v := 99) d155_20 rfl ?_
  exact w_inv1 d155_22 c155_92 (by decide) rfl (Nat.le_of_ble_eq_true rfl) (cq.cl (k))
theorem B_X_contest_25 {X : vX} {d : Nat} {M : vM} {Q : Option vV → vM → Prop} {l1 l2 l3 s0 : Int}  (k1 : ¬ s0 = 0 → vw X d 155 31 [vR 0, vI l1, vI l2, vI l3] [] M Q) (k2 : s0 = 0 → vw X d 155 28 [vR 0, vI l1, vI l2, vI l3] [] M Q) : vw X d 155 25 [vR 0, vI l1, vI l2, vI l3] [vI s0] M Q := by
  exact w_if_ne d155_25 rfl (fun h => k1 h) (fun h => k2 h)
theorem B_X_contest_28 {X : vX} {d : Nat} {M : vM} {Q : Option vV → vM → Prop} {l1 l2 l3 : Int}  (k : Q (some (vI ((-2)))) M) : vw X d 155 28 [vR 0, vI l1, vI l2, vI l3] [] M Q := by
  refine w_bi (v := (-2)) d155_28 rfl ?_
  exact w_iret d155_30 r155 ⟨_, rfl, k⟩
theorem B_X_contest_31 {X : vX} {d : Nat} {M : vM} {Q : Option vV → vM → Prop} {l1 l2 l3 : Int} (hR : vRefs M)  (k : cq X d 29 [vR 53, vI l1, vI l2, vI l3] M (fun r M1 => wp X d 155 41 [vR 0, vI l1, vI l2, vI l3] (r.toList ++ []) (vS0, M1) (vP Q))) : vw X d 155 31 [vR 0, vI l1, vI l2, vI l3] [] M Q := by
  refine w_aload_n d155_31 rfl ?_
  refine w_getf (a := 0) (v := vR 53) d155_32 f155_57 rfl rfl (congrArg vR (rf_0_5 hR)) ?_
  refine w_iload_n d155_35 rfl ?_
  refine w_iload_n d155_36 rfl ?_
  refine w_iload_n d155_37 rfl ?_
  exact w_inv0 (a := 53) (c := 1) d155_38 c155_257 rfl rfl rfl v29 (Nat.le_of_ble_eq_true rfl) (cq.cl (k))
theorem B_X_contest_41 {X : vX} {d : Nat} {M : vM} {Q : Option vV → vM → Prop} {l1 l2 l3 : Int}  (k : Q (some (vI 0)) M) : vw X d 155 41 [vR 0, vI l1, vI l2, vI l3] [] M Q := by
  refine w_ic (v := 0) d155_41 rfl ?_
  exact w_iret d155_42 r155 ⟨_, rfl, k⟩
theorem E_X_contest {X : vX} {d : Nat} {M : vM} {Q : Option vV → vM → Prop} {l1 l2 l3 : Int} (k : vw X d 155 0 [vR 0, vI l1, vI l2, vI l3] [] M Q) : cq X (d + 1) 155 [vR 0, vI l1, vI l2, vI l3] M Q := wc_in (Nat.le_of_ble_eq_true rfl) (Nat.le_of_ble_eq_true rfl) k
theorem cd156 : vm_cd 156 = cX11_calms := rfl
theorem d156_0 : decode (vm_cd 156) 0 = .ok (.aload_n 0, 1) := (congrArg (fun b => decode b 0) cd156).trans (by decide +kernel)
theorem d156_1 : decode (vm_cd 156) 1 = .ok (.getfield 57, 3) := (congrArg (fun b => decode b 1) cd156).trans (by decide +kernel)
theorem d156_4 : decode (vm_cd 156) 4 = .ok (.invokevirtual 258, 3) := (congrArg (fun b => decode b 4) cd156).trans (by decide +kernel)
theorem d156_7 : decode (vm_cd 156) 7 = .ok (.ireturn, 1) := (congrArg (fun b => decode b 7) cd156).trans (by decide +kernel)
theorem f156_57 : vm_fl.lookup (vm_own 156, 57) = some (10, 5, 255) := by decide +kernel
theorem c156_258 : vm_ml.lookup (vm_own 156, 258) = some (0, 30, 0, 718, 719, 793, 8) := vm_lk (by decide +kernel)
theorem r156 : vm_rt 156 = (some .int) := by decide +kernel
theorem B_X_calms_0 {X : vX} {d : Nat} {M : vM} {Q : Option vV → vM → Prop} (hR : vRefs M)  (k : cq X d 30 [vR 53] M (fun r M1 => wp X d 156 7 [vR 0] (r.toList ++ []) (vS0, M1) (vP Q))) : vw X d 156 0 [vR 0] [] M Q := by
  refine w_aload_n d156_0 rfl ?_
  refine w_getf (a := 0) (v := vR 53) d156_1 f156_57 rfl rfl (congrArg vR (rf_0_5 hR)) ?_
  exact w_inv0 (a := 53) (c := 1) d156_4 c156_258 rfl rfl rfl v30 (Nat.le_of_ble_eq_true rfl) (cq.cl (k))
theorem B_X_calms_7 {X : vX} {d : Nat} {M : vM} {Q : Option vV → vM → Prop} {s0 : Int}  (k : Q (some (vI s0)) M) : vw X d 156 7 [vR 0] [vI s0] M Q := by
  exact w_iret d156_7 r156 ⟨_, rfl, k⟩
theorem E_X_calms {X : vX} {d : Nat} {M : vM} {Q : Option vV → vM → Prop} (k : vw X d 156 0 [vR 0] [] M Q) : cq X (d + 1) 156 [vR 0] M Q := wc_in (Nat.le_of_ble_eq_true rfl) (Nat.le_of_ble_eq_true rfl) k
theorem cd157 : vm_cd 157 = cX11_calm := rfl
theorem d157_0 : decode (vm_cd 157) 0 = .ok (.aload_n 0, 1) := (congrArg (fun b => decode b 0) cd157).trans (by decide +kernel)
theorem d157_1 : decode (vm_cd 157) 1 = .ok (.getfield 57, 3) := (congrArg (fun b => decode b 1) cd157).trans (by decide +kernel)
theorem d157_4 : decode (vm_cd 157) 4 = .ok (.iload_n 1, 1) := (congrArg (fun b => decode b 4) cd157).trans (by decide +kernel)
theorem d157_5 : decode (vm_cd 157) 5 = .ok (.invokevirtual 261, 3) := (congrArg (fun b => decode b 5) cd157).trans (by decide +kernel)
theorem d157_8 : decode (vm_cd 157) 8 = .ok (.ireturn, 1) := (congrArg (fun b => decode b 8) cd157).trans (by decide +kernel)
theorem f157_57 : vm_fl.lookup (vm_own 157, 57) = some (10, 5, 255) := by decide +kernel
theorem c157_261 : vm_ml.lookup (vm_own 157, 261) = some (0, 31, 1, 741, 742, 816, 8) := vm_lk (by decide +kernel)
theorem r157 : vm_rt 157 = (some .int) := by decide +kernel
theorem B_X_calm_0 {X : vX} {d : Nat} {M : vM} {Q : Option vV → vM → Prop} {l1 : Int} (hR : vRefs M)  (k : cq X d 31 [vR 53, vI l1] M (fun r M1 => wp X d 157 8 [vR 0, vI l1] (r.toList ++ []) (vS0, M1) (vP Q))) : vw X d 157 0 [vR 0, vI l1] [] M Q := by
  refine w_aload_n d157_0 rfl ?_
  refine w_getf (a := 0) (v := vR 53) d157_1 f157_57 rfl rfl (congrArg vR (rf_0_5 hR)) ?_
  refine w_iload_n d157_4 rfl ?_
  exact w_inv0 (a := 53) (c := 1) d157_5 c157_261 rfl rfl rfl v31 (Nat.le_of_ble_eq_true rfl) (cq.cl (k))
theorem B_X_calm_8 {X : vX} {d : Nat} {M : vM} {Q : Option vV → vM → Prop} {l1 s0 : Int}  (k : Q (some (vI s0)) M) : vw X d 157 8 [vR 0, vI l1] [vI s0] M Q := by
  exact w_iret d157_8 r157 ⟨_, rfl, k⟩
theorem E_X_calm {X : vX} {d : Nat} {M : vM} {Q : Option vV → vM → Prop} {l1 : Int} (k : vw X d 157 0 [vR 0, vI l1] [] M Q) : cq X (d + 1) 157 [vR 0, vI l1] M Q := wc_in (Nat.le_of_ble_eq_true rfl) (Nat.le_of_ble_eq_true rfl) k
theorem cd158 : vm_cd 158 = cX11_feed := rfl
theorem d158_0 : decode (vm_cd 158) 0 = .ok (.iload_n 3, 1) := (congrArg (fun b => decode b 0) cd158).trans (by decide +kernel)
theorem d158_1 : decode (vm_cd 158) 1 = .ok (.iconst 1, 1) := (congrArg (fun b => decode b 1) cd158).trans (by decide +kernel)
theorem d158_2 : decode (vm_cd 158) 2 = .ok (.bipush 8, 2) := (congrArg (fun b => decode b 2) cd158).trans (by decide +kernel)
theorem d158_4 : decode (vm_cd 158) 4 = .ok (.invokestatic 92, 3) := (congrArg (fun b => decode b 4) cd158).trans (by decide +kernel)
theorem d158_7 : decode (vm_cd 158) 7 = .ok (.ifCond .ne 6, 3) := (congrArg (fun b => decode b 7) cd158).trans (by decide +kernel)
theorem d158_10 : decode (vm_cd 158) 10 = .ok (.bipush (-2), 2) := (congrArg (fun b => decode b 10) cd158).trans (by decide +kernel)
theorem d158_12 : decode (vm_cd 158) 12 = .ok (.ireturn, 1) := (congrArg (fun b => decode b 12) cd158).trans (by decide +kernel)
theorem d158_13 : decode (vm_cd 158) 13 = .ok (.aload_n 0, 1) := (congrArg (fun b => decode b 13) cd158).trans (by decide +kernel)
theorem d158_14 : decode (vm_cd 158) 14 = .ok (.getfield 64, 3) := (congrArg (fun b => decode b 14) cd158).trans (by decide +kernel)
theorem d158_17 : decode (vm_cd 158) 17 = .ok (.iload_n 3, 1) := (congrArg (fun b => decode b 17) cd158).trans (by decide +kernel)
theorem d158_18 : decode (vm_cd 158) 18 = .ok (.invokevirtual 264, 3) := (congrArg (fun b => decode b 18) cd158).trans (by decide +kernel)
theorem d158_21 : decode (vm_cd 158) 21 = .ok (.ifCond .eq 15, 3) := (congrArg (fun b => decode b 21) cd158).trans (by decide +kernel)
theorem d158_24 : decode (vm_cd 158) 24 = .ok (.aload_n 0, 1) := (congrArg (fun b => decode b 24) cd158).trans (by decide +kernel)
theorem d158_25 : decode (vm_cd 158) 25 = .ok (.getfield 64, 3) := (congrArg (fun b => decode b 25) cd158).trans (by decide +kernel)
theorem d158_28 : decode (vm_cd 158) 28 = .ok (.lload_n 1, 1) := (congrArg (fun b => decode b 28) cd158).trans (by decide +kernel)
theorem d158_29 : decode (vm_cd 158) 29 = .ok (.iload_n 3, 1) := (congrArg (fun b => decode b 29) cd158).trans (by decide +kernel)
theorem d158_30 : decode (vm_cd 158) 30 = .ok (.invokevirtual 267, 3) := (congrArg (fun b => decode b 30) cd158).trans (by decide +kernel)
theorem d158_33 : decode (vm_cd 158) 33 = .ok (.goto 5, 3) := (congrArg (fun b => decode b 33) cd158).trans (by decide +kernel)
theorem d158_36 : decode (vm_cd 158) 36 = .ok (.bipush (-4), 2) := (congrArg (fun b => decode b 36) cd158).trans (by decide +kernel)
theorem d158_38 : decode (vm_cd 158) 38 = .ok (.ireturn, 1) := (congrArg (fun b => decode b 38) cd158).trans (by decide +kernel)
theorem f158_64 : vm_fl.lookup (vm_own 158, 64) = some (10, 6, 256) := by decide +kernel
theorem c158_92 : vm_ml.lookup (vm_own 158, 92) = some (1, 179, 3, 291, 292, 0, 1) := vm_lk (by decide +kernel)
theorem c158_264 : vm_ml.lookup (vm_own 158, 264) = some (0, 40, 1, 749, 750, 824, 9) := vm_lk (by decide +kernel)
theorem c158_267 : vm_ml.lookup (vm_own 158, 267) = some (0, 41, 2, 753, 754, 828, 9) := vm_lk (by decide +kernel)
theorem r158 : vm_rt 158 = (some .int) := by decide +kernel
theorem B_X_feed_0 {X : vX} {d : Nat} {M : vM} {Q : Option vV → vM → Prop} {l1 l3 : Int}  (k : cq X d 179 [vI l3, vI 1, vI 8] M (fun r M1 => wp X d 158 7 [vR 0, vL l1, vN, vI l3] (r.toList ++ []) (vS0, M1) (vP Q))) : vw X d 158 0 [vR 0, vL l1, vN, vI l3] [] M Q := by
  refine w_iload_n d158_0 rfl ?_
  refine w_ic (v := 1) d158_1 rfl ?_
  refine w_bi (v := 8) d158_2 rfl ?_
  exact w_inv1 d158_4 c158_92 (by decide) rfl (Nat.le_of_ble_eq_true rfl) (cq.cl (k))
theorem B_X_feed_7 {X : vX} {d : Nat} {M : vM} {Q : Option vV → vM → Prop} {l1 l3 s0 : Int}  (k1 : ¬ s0 = 0 → vw X d 158 13 [vR 0, vL l1, vN, vI l3] [] M Q) (k2 : s0 = 0 → vw X d 158 10 [vR 0, vL l1, vN, vI l3] [] M Q) : vw X d 158 7 [vR 0, vL l1, vN, vI l3] [vI s0] M Q := by
  exact w_if_ne d158_7 rfl (fun h => k1 h) (fun h => k2 h)
theorem B_X_feed_10 {X : vX} {d : Nat} {M : vM} {Q : Option vV → vM → Prop} {l1 l3 : Int}  (k : Q (some (vI ((-2)))) M) : vw X d 158 10 [vR 0, vL l1, vN, vI l3] [] M Q := by
  refine w_bi (v := (-2)) d158_10 rfl ?_
  exact w_iret d158_12 r158 ⟨_, rfl, k⟩
theorem B_X_feed_13 {X : vX} {d : Nat} {M : vM} {Q : Option vV → vM → Prop} {l1 l3 : Int} (hR : vRefs M)  (k : cq X d 40 [vR 56, vI l3] M (fun r M1 => wp X d 158 21 [vR 0, vL l1, vN, vI l3] (r.toList ++ []) (vS0, M1) (vP Q))) : vw X d 158 13 [vR 0, vL l1, vN, vI l3] [] M Q := by
  refine w_aload_n d158_13 rfl ?_
  refine w_getf (a := 0) (v := vR 56) d158_14 f158_64 rfl rfl (congrArg vR (rf_0_6 hR)) ?_
  refine w_iload_n d158_17 rfl ?_
  exact w_inv0 (a := 56) (c := 2) d158_18 c158_264 rfl rfl rfl v40 (Nat.le_of_ble_eq_true rfl) (cq.cl (k))
theorem B_X_feed_21 {X : vX} {d : Nat} {M : vM} {Q : Option vV → vM → Prop} {l1 l3 s0 : Int}  (k1 : s0 = 0 → vw X d 158 36 [vR 0, vL l1, vN, vI l3] [] M Q) (k2 : ¬ s0 = 0 → vw X d 158 24 [vR 0, vL l1, vN, vI l3] [] M Q) : vw X d 158 21 [vR 0, vL l1, vN, vI l3] [vI s0] M Q := by
  exact w_if_eq d158_21 rfl (fun h => k1 h) (fun h => k2 h)
theorem B_X_feed_24 {X : vX} {d : Nat} {M : vM} {Q : Option vV → vM → Prop} {l1 l3 : Int} (hR : vRefs M)  (k : cq X d 41 [vR 56, vL l1, vI l3] M (fun r M1 => wp X d 158 33 [vR 0, vL l1, vN, vI l3] (r.toList ++ []) (vS0, M1) (vP Q))) : vw X d 158 24 [vR 0, vL l1, vN, vI l3] [] M Q := by
  refine w_aload_n d158_24 rfl ?_
  refine w_getf (a := 0) (v := vR 56) d158_25 f158_64 rfl rfl (congrArg vR (rf_0_6 hR)) ?_
  refine w_lload_n d158_28 rfl ?_
  refine w_iload_n d158_29 rfl ?_
  exact w_inv0 (a := 56) (c := 2) d158_30 c158_267 rfl rfl rfl v41 (Nat.le_of_ble_eq_true rfl) (cq.cl (k))
theorem B_X_feed_33 {X : vX} {d : Nat} {M : vM} {Q : Option vV → vM → Prop} {l1 l3 s0 : Int}  (k : Q (some (vI s0)) M) : vw X d 158 33 [vR 0, vL l1, vN, vI l3] [vI s0] M Q := by
  refine w_goto (tgt := 38) d158_33 rfl ?_
  exact w_iret d158_38 r158 ⟨_, rfl, k⟩
theorem B_X_feed_36 {X : vX} {d : Nat} {M : vM} {Q : Option vV → vM → Prop} {l1 l3 : Int}  (k : Q (some (vI ((-4)))) M) : vw X d 158 36 [vR 0, vL l1, vN, vI l3] [] M Q := by
  refine w_bi (v := (-4)) d158_36 rfl ?_
  exact w_iret d158_38 r158 ⟨_, rfl, k⟩
theorem E_X_feed {X : vX} {d : Nat} {M : vM} {Q : Option vV → vM → Prop} {l1 l3 : Int} (k : vw X d 158 0 [vR 0, vL l1, vN, vI l3] [] M Q) : cq X (d + 1) 158 [vR 0, vL l1, vI l3] M Q := wc_in (Nat.le_of_ble_eq_true rfl) (Nat.le_of_ble_eq_true rfl) k
theorem cd159 : vm_cd 159 = cX11_contract := rfl
theorem d159_0 : decode (vm_cd 159) 0 = .ok (.aload_n 0, 1) := (congrArg (fun b => decode b 0) cd159).trans (by decide +kernel)
theorem d159_1 : decode (vm_cd 159) 1 = .ok (.getfield 64, 3) := (congrArg (fun b => decode b 1) cd159).trans (by decide +kernel)
theorem d159_4 : decode (vm_cd 159) 4 = .ok (.invokevirtual 271, 3) := (congrArg (fun b => decode b 4) cd159).trans (by decide +kernel)
theorem d159_7 : decode (vm_cd 159) 7 = .ok (.ifCond .eq 8, 3) := (congrArg (fun b => decode b 7) cd159).trans (by decide +kernel)
theorem d159_10 : decode (vm_cd 159) 10 = .ok (.bipush (-4), 2) := (congrArg (fun b => decode b 10) cd159).trans (by decide +kernel)
theorem d159_12 : decode (vm_cd 159) 12 = .ok (.goto 10, 3) := (congrArg (fun b => decode b 12) cd159).trans (by decide +kernel)
theorem d159_15 : decode (vm_cd 159) 15 = .ok (.aload_n 0, 1) := (congrArg (fun b => decode b 15) cd159).trans (by decide +kernel)
theorem d159_16 : decode (vm_cd 159) 16 = .ok (.getfield 64, 3) := (congrArg (fun b => decode b 16) cd159).trans (by decide +kernel)
theorem d159_19 : decode (vm_cd 159) 19 = .ok (.invokevirtual 272, 3) := (congrArg (fun b => decode b 19) cd159).trans (by decide +kernel)
theorem d159_22 : decode (vm_cd 159) 22 = .ok (.ireturn, 1) := (congrArg (fun b => decode b 22) cd159).trans (by decide +kernel)
theorem f159_64 : vm_fl.lookup (vm_own 159, 64) = some (10, 6, 256) := by decide +kernel
theorem c159_271 : vm_ml.lookup (vm_own 159, 271) = some (0, 38, 0, 761, 762, 836, 9) := vm_lk (by decide +kernel)
theorem c159_272 : vm_ml.lookup (vm_own 159, 272) = some (0, 42, 0, 765, 766, 840, 9) := vm_lk (by decide +kernel)
theorem r159 : vm_rt 159 = (some .int) := by decide +kernel
theorem B_X_contract_0 {X : vX} {d : Nat} {M : vM} {Q : Option vV → vM → Prop} (hR : vRefs M)  (k : cq X d 38 [vR 56] M (fun r M1 => wp X d 159 7 [vR 0] (r.toList ++ []) (vS0, M1) (vP Q))) : vw X d 159 0 [vR 0] [] M Q := by
  refine w_aload_n d159_0 rfl ?_
  refine w_getf (a := 0) (v := vR 56) d159_1 f159_64 rfl rfl (congrArg vR (rf_0_6 hR)) ?_
  exact w_inv0 (a := 56) (c := 2) d159_4 c159_271 rfl rfl rfl v38 (Nat.le_of_ble_eq_true rfl) (cq.cl (k))
theorem B_X_contract_7 {X : vX} {d : Nat} {M : vM} {Q : Option vV → vM → Prop} {s0 : Int}  (k1 : s0 = 0 → vw X d 159 15 [vR 0] [] M Q) (k2 : ¬ s0 = 0 → vw X d 159 10 [vR 0] [] M Q) : vw X d 159 7 [vR 0] [vI s0] M Q := by
  exact w_if_eq d159_7 rfl (fun h => k1 h) (fun h => k2 h)
theorem B_X_contract_10 {X : vX} {d : Nat} {M : vM} {Q : Option vV → vM → Prop}  (k : Q (some (vI ((-4)))) M) : vw X d 159 10 [vR 0] [] M Q := by
  refine w_bi (v := (-4)) d159_10 rfl ?_
  refine w_goto (tgt := 22) d159_12 rfl ?_
  exact w_iret d159_22 r159 ⟨_, rfl, k⟩
theorem B_X_contract_15 {X : vX} {d : Nat} {M : vM} {Q : Option vV → vM → Prop} (hR : vRefs M)  (k : cq X d 42 [vR 56] M (fun r M1 => wp X d 159 22 [vR 0] (r.toList ++ []) (vS0, M1) (vP Q))) : vw X d 159 15 [vR 0] [] M Q := by
  refine w_aload_n d159_15 rfl ?_
  refine w_getf (a := 0) (v := vR 56) d159_16 f159_64 rfl rfl (congrArg vR (rf_0_6 hR)) ?_
  exact w_inv0 (a := 56) (c := 2) d159_19 c159_272 rfl rfl rfl v42 (Nat.le_of_ble_eq_true rfl) (cq.cl (k))
theorem B_X_contract_22 {X : vX} {d : Nat} {M : vM} {Q : Option vV → vM → Prop} {s0 : Int}  (k : Q (some (vI s0)) M) : vw X d 159 22 [vR 0] [vI s0] M Q := by
  exact w_iret d159_22 r159 ⟨_, rfl, k⟩
theorem E_X_contract {X : vX} {d : Nat} {M : vM} {Q : Option vV → vM → Prop} (k : vw X d 159 0 [vR 0] [] M Q) : cq X (d + 1) 159 [vR 0] M Q := wc_in (Nat.le_of_ble_eq_true rfl) (Nat.le_of_ble_eq_true rfl) k
theorem cd160 : vm_cd 160 = cX11_worth := rfl
theorem d160_0 : decode (vm_cd 160) 0 = .ok (.aload_n 0, 1) := (congrArg (fun b => decode b 0) cd160).trans (by decide +kernel)
theorem d160_1 : decode (vm_cd 160) 1 = .ok (.getfield 64, 3) := (congrArg (fun b => decode b 1) cd160).trans (by decide +kernel)
theorem d160_4 : decode (vm_cd 160) 4 = .ok (.iload_n 1, 1) := (congrArg (fun b => decode b 4) cd160).trans (by decide +kernel)
theorem d160_5 : decode (vm_cd 160) 5 = .ok (.invokevirtual 275, 3) := (congrArg (fun b => decode b 5) cd160).trans (by decide +kernel)
theorem d160_8 : decode (vm_cd 160) 8 = .ok (.ifCond .eq 14, 3) := (congrArg (fun b => decode b 8) cd160).trans (by decide +kernel)
theorem d160_11 : decode (vm_cd 160) 11 = .ok (.aload_n 0, 1) := (congrArg (fun b => decode b 11) cd160).trans (by decide +kernel)
theorem d160_12 : decode (vm_cd 160) 12 = .ok (.getfield 22, 3) := (congrArg (fun b => decode b 12) cd160).trans (by decide +kernel)
theorem d160_15 : decode (vm_cd 160) 15 = .ok (.iload_n 2, 1) := (congrArg (fun b => decode b 15) cd160).trans (by decide +kernel)
theorem d160_16 : decode (vm_cd 160) 16 = .ok (.invokevirtual 117, 3) := (congrArg (fun b => decode b 16) cd160).trans (by decide +kernel)
theorem d160_19 : decode (vm_cd 160) 19 = .ok (.ifCond .ne 5, 3) := (congrArg (fun b => decode b 19) cd160).trans (by decide +kernel)
theorem d160_22 : decode (vm_cd 160) 22 = .ok (.iconst (-1), 1) := (congrArg (fun b => decode b 22) cd160).trans (by decide +kernel)
theorem d160_23 : decode (vm_cd 160) 23 = .ok (.ireturn, 1) := (congrArg (fun b => decode b 23) cd160).trans (by decide +kernel)
theorem d160_24 : decode (vm_cd 160) 24 = .ok (.aload_n 0, 1) := (congrArg (fun b => decode b 24) cd160).trans (by decide +kernel)
theorem d160_25 : decode (vm_cd 160) 25 = .ok (.getfield 64, 3) := (congrArg (fun b => decode b 25) cd160).trans (by decide +kernel)
theorem d160_28 : decode (vm_cd 160) 28 = .ok (.iload_n 1, 1) := (congrArg (fun b => decode b 28) cd160).trans (by decide +kernel)
theorem d160_29 : decode (vm_cd 160) 29 = .ok (.iload_n 2, 1) := (congrArg (fun b => decode b 29) cd160).trans (by decide +kernel)
theorem d160_30 : decode (vm_cd 160) 30 = .ok (.aload_n 0, 1) := (congrArg (fun b => decode b 30) cd160).trans (by decide +kernel)
theorem d160_31 : decode (vm_cd 160) 31 = .ok (.getfield 22, 3) := (congrArg (fun b => decode b 31) cd160).trans (by decide +kernel)
theorem d160_34 : decode (vm_cd 160) 34 = .ok (.iload_n 2, 1) := (congrArg (fun b => decode b 34) cd160).trans (by decide +kernel)
theorem d160_35 : decode (vm_cd 160) 35 = .ok (.invokevirtual 278, 3) := (congrArg (fun b => decode b 35) cd160).trans (by decide +kernel)
theorem d160_38 : decode (vm_cd 160) 38 = .ok (.invokevirtual 281, 3) := (congrArg (fun b => decode b 38) cd160).trans (by decide +kernel)
theorem d160_41 : decode (vm_cd 160) 41 = .ok (.ireturn, 1) := (congrArg (fun b => decode b 41) cd160).trans (by decide +kernel)
theorem f160_22 : vm_fl.lookup (vm_own 160, 22) = some (10, 0, 250) := by decide +kernel
theorem f160_64 : vm_fl.lookup (vm_own 160, 64) = some (10, 6, 256) := by decide +kernel
theorem c160_117 : vm_ml.lookup (vm_own 160, 117) = some (0, 6, 1, 329, 330, 404, 2) := vm_lk (by decide +kernel)
theorem c160_275 : vm_ml.lookup (vm_own 160, 275) = some (0, 39, 1, 846, 847, 921, 9) := vm_lk (by decide +kernel)
theorem c160_278 : vm_ml.lookup (vm_own 160, 278) = some (0, 12, 1, 850, 851, 925, 2) := vm_lk (by decide +kernel)
theorem c160_281 : vm_ml.lookup (vm_own 160, 281) = some (0, 43, 3, 854, 855, 929, 9) := vm_lk (by decide +kernel)
theorem r160 : vm_rt 160 = (some .int) := by decide +kernel
theorem B_X_worth_0 {X : vX} {d : Nat} {M : vM} {Q : Option vV → vM → Prop} {l1 l2 : Int} (hR : vRefs M)  (k : cq X d 39 [vR 56, vI l1] M (fun r M1 => wp X d 160 8 [vR 0, vI l1, vI l2] (r.toList ++ []) (vS0, M1) (vP Q))) : vw X d 160 0 [vR 0, vI l1, vI l2] [] M Q := by
  refine w_aload_n d160_0 rfl ?_
  refine w_getf (a := 0) (v := vR 56) d160_1 f160_64 rfl rfl (congrArg vR (rf_0_6 hR)) ?_
  refine w_iload_n d160_4 rfl ?_
  exact w_inv0 (a := 56) (c := 2) d160_5 c160_275 rfl rfl rfl v39 (Nat.le_of_ble_eq_true rfl) (cq.cl (k))
theorem B_X_worth_8 {X : vX} {d : Nat} {M : vM} {Q : Option vV → vM → Prop} {l1 l2 s0 : Int}  (k1 : s0 = 0 → vw X d 160 22 [vR 0, vI l1, vI l2] [] M Q) (k2 : ¬ s0 = 0 → vw X d 160 11 [vR 0, vI l1, vI l2] [] M Q) : vw X d 160 8 [vR 0, vI l1, vI l2] [vI s0] M Q := by
  exact w_if_eq d160_8 rfl (fun h => k1 h) (fun h => k2 h)
theorem B_X_worth_11 {X : vX} {d : Nat} {M : vM} {Q : Option vV → vM → Prop} {l1 l2 : Int} (hR : vRefs M)  (k : cq X d 6 [vR 1, vI l2] M (fun r M1 => wp X d 160 19 [vR 0, vI l1, vI l2] (r.toList ++ []) (vS0, M1) (vP Q))) : vw X d 160 11 [vR 0, vI l1, vI l2] [] M Q := by
  refine w_aload_n d160_11 rfl ?_
  refine w_getf (a := 0) (v := vR 1) d160_12 f160_22 rfl rfl (congrArg vR (rf_0_0 hR)) ?_
  refine w_iload_n d160_15 rfl ?_
  exact w_inv0 (a := 1) (c := 0) d160_16 c160_117 rfl rfl rfl v6 (Nat.le_of_ble_eq_true rfl) (cq.cl (k))
theorem B_X_worth_19 {X : vX} {d : Nat} {M : vM} {Q : Option vV → vM → Prop} {l1 l2 s0 : Int}  (k1 : ¬ s0 = 0 → vw X d 160 24 [vR 0, vI l1, vI l2] [] M Q) (k2 : s0 = 0 → vw X d 160 22 [vR 0, vI l1, vI l2] [] M Q) : vw X d 160 19 [vR 0, vI l1, vI l2] [vI s0] M Q := by
  exact w_if_ne d160_19 rfl (fun h => k1 h) (fun h => k2 h)
theorem B_X_worth_22 {X : vX} {d : Nat} {M : vM} {Q : Option vV → vM → Prop} {l1 l2 : Int}  (k : Q (some (vI ((-1)))) M) : vw X d 160 22 [vR 0, vI l1, vI l2] [] M Q := by
  refine w_ic (v := (-1)) d160_22 rfl ?_
  exact w_iret d160_23 r160 ⟨_, rfl, k⟩
theorem B_X_worth_24 {X : vX} {d : Nat} {M : vM} {Q : Option vV → vM → Prop} {l1 l2 : Int} (hR : vRefs M)  (k : cq X d 12 [vR 1, vI l2] M (fun r M1 => wp X d 160 38 [vR 0, vI l1, vI l2] (r.toList ++ [vI l2, vI l1, vR 56]) (vS0, M1) (vP Q))) : vw X d 160 24 [vR 0, vI l1, vI l2] [] M Q := by
  refine w_aload_n d160_24 rfl ?_
  refine w_getf (a := 0) (v := vR 56) d160_25 f160_64 rfl rfl (congrArg vR (rf_0_6 hR)) ?_
  refine w_iload_n d160_28 rfl ?_
  refine w_iload_n d160_29 rfl ?_
  refine w_aload_n d160_30 rfl ?_
  refine w_getf (a := 0) (v := vR 1) d160_31 f160_22 rfl rfl (congrArg vR (rf_0_0 hR)) ?_
  refine w_iload_n d160_34 rfl ?_
  exact w_inv0 (a := 1) (c := 0) d160_35 c160_278 rfl rfl rfl v12 (Nat.le_of_ble_eq_true rfl) (cq.cl (k))
theorem B_X_worth_38 {X : vX} {d : Nat} {M : vM} {Q : Option vV → vM → Prop} {l1 l2 s1 s2 s3 : Int}  (k : cq X d 43 [vR 56, vI s1, vI s2, vI s3] M (fun r M1 => wp X d 160 41 [vR 0, vI l1, vI l2] (r.toList ++ []) (vS0, M1) (vP Q))) : vw X d 160 38 [vR 0, vI l1, vI l2] [vI s3, vI s2, vI s1, vR 56] M Q := by
  exact w_inv0 (a := 56) (c := 2) d160_38 c160_281 rfl rfl rfl v43 (Nat.le_of_ble_eq_true rfl) (cq.cl (k))
theorem B_X_worth_41 {X : vX} {d : Nat} {M : vM} {Q : Option vV → vM → Prop} {l1 l2 s0 : Int}  (k : Q (some (vI s0)) M) : vw X d 160 41 [vR 0, vI l1, vI l2] [vI s0] M Q := by
  exact w_iret d160_41 r160 ⟨_, rfl, k⟩
theorem E_X_worth {X : vX} {d : Nat} {M : vM} {Q : Option vV → vM → Prop} {l1 l2 : Int} (k : vw X d 160 0 [vR 0, vI l1, vI l2] [] M Q) : cq X (d + 1) 160 [vR 0, vI l1, vI l2] M Q := wc_in (Nat.le_of_ble_eq_true rfl) (Nat.le_of_ble_eq_true rfl) k
theorem cd161 : vm_cd 161 = cX11_sign := rfl
theorem d161_0 : decode (vm_cd 161) 0 = .ok (.aload_n 0, 1) := (congrArg (fun b => decode b 0) cd161).trans (by decide +kernel)
theorem d161_1 : decode (vm_cd 161) 1 = .ok (.getfield 64, 3) := (congrArg (fun b => decode b 1) cd161).trans (by decide +kernel)
theorem d161_4 : decode (vm_cd 161) 4 = .ok (.iload_n 1, 1) := (congrArg (fun b => decode b 4) cd161).trans (by decide +kernel)
theorem d161_5 : decode (vm_cd 161) 5 = .ok (.invokevirtual 275, 3) := (congrArg (fun b => decode b 5) cd161).trans (by decide +kernel)
theorem d161_8 : decode (vm_cd 161) 8 = .ok (.ifCond .ne 5, 3) := (congrArg (fun b => decode b 8) cd161).trans (by decide +kernel)
theorem d161_11 : decode (vm_cd 161) 11 = .ok (.iconst (-1), 1) := (congrArg (fun b => decode b 11) cd161).trans (by decide +kernel)
theorem d161_12 : decode (vm_cd 161) 12 = .ok (.ireturn, 1) := (congrArg (fun b => decode b 12) cd161).trans (by decide +kernel)
theorem d161_13 : decode (vm_cd 161) 13 = .ok (.aload_n 0, 1) := (congrArg (fun b => decode b 13) cd161).trans (by decide +kernel)
theorem d161_14 : decode (vm_cd 161) 14 = .ok (.iload_n 1, 1) := (congrArg (fun b => decode b 14) cd161).trans (by decide +kernel)
theorem d161_15 : decode (vm_cd 161) 15 = .ok (.aload_n 0, 1) := (congrArg (fun b => decode b 15) cd161).trans (by decide +kernel)
theorem d161_16 : decode (vm_cd 161) 16 = .ok (.getfield 82, 3) := (congrArg (fun b => decode b 16) cd161).trans (by decide +kernel)
theorem d161_19 : decode (vm_cd 161) 19 = .ok (.invokevirtual 284, 3) := (congrArg (fun b => decode b 19) cd161).trans (by decide +kernel)
theorem d161_22 : decode (vm_cd 161) 22 = .ok (.iconst 0, 1) := (congrArg (fun b => decode b 22) cd161).trans (by decide +kernel)
theorem d161_23 : decode (vm_cd 161) 23 = .ok (.ireturn, 1) := (congrArg (fun b => decode b 23) cd161).trans (by decide +kernel)
theorem f161_64 : vm_fl.lookup (vm_own 161, 64) = some (10, 6, 256) := by decide +kernel
theorem f161_82 : vm_fl.lookup (vm_own 161, 82) = some (10, 9, 259) := by decide +kernel
theorem c161_275 : vm_ml.lookup (vm_own 161, 275) = some (0, 39, 1, 846, 847, 921, 9) := vm_lk (by decide +kernel)
theorem c161_284 : vm_ml.lookup (vm_own 161, 284) = some (0, 178, 2, 865, 867, 32, 1) := vm_lk (by decide +kernel)
theorem r161 : vm_rt 161 = (some .int) := by decide +kernel
theorem B_X_sign_0 {X : vX} {d : Nat} {M : vM} {Q : Option vV → vM → Prop} {l1 : Int} (hR : vRefs M)  (k : cq X d 39 [vR 56, vI l1] M (fun r M1 => wp X d 161 8 [vR 0, vI l1] (r.toList ++ []) (vS0, M1) (vP Q))) : vw X d 161 0 [vR 0, vI l1] [] M Q := by
  refine w_aload_n d161_0 rfl ?_
  refine w_getf (a := 0) (v := vR 56) d161_1 f161_64 rfl rfl (congrArg vR (rf_0_6 hR)) ?_
  refine w_iload_n d161_4 rfl ?_
  exact w_inv0 (a := 56) (c := 2) d161_5 c161_275 rfl rfl rfl v39 (Nat.le_of_ble_eq_true rfl) (cq.cl (k))
theorem B_X_sign_8 {X : vX} {d : Nat} {M : vM} {Q : Option vV → vM → Prop} {l1 s0 : Int}  (k1 : ¬ s0 = 0 → vw X d 161 13 [vR 0, vI l1] [] M Q) (k2 : s0 = 0 → vw X d 161 11 [vR 0, vI l1] [] M Q) : vw X d 161 8 [vR 0, vI l1] [vI s0] M Q := by
  exact w_if_ne d161_8 rfl (fun h => k1 h) (fun h => k2 h)
theorem B_X_sign_11 {X : vX} {d : Nat} {M : vM} {Q : Option vV → vM → Prop} {l1 : Int}  (k : Q (some (vI ((-1)))) M) : vw X d 161 11 [vR 0, vI l1] [] M Q := by
  refine w_ic (v := (-1)) d161_11 rfl ?_
  exact w_iret d161_12 r161 ⟨_, rfl, k⟩
theorem B_X_sign_13 {X : vX} {d : Nat} {M : vM} {Q : Option vV → vM → Prop} {l1 : Int} (hR : vRefs M)  (k : cq X d 178 [vR 0, vI l1, vR 78] M (fun r M1 => wp X d 161 22 [vR 0, vI l1] (r.toList ++ []) (vS0, M1) (vP Q))) : vw X d 161 13 [vR 0, vI l1] [] M Q := by
  refine w_aload_n d161_13 rfl ?_
  refine w_iload_n d161_14 rfl ?_
  refine w_aload_n d161_15 rfl ?_
  refine w_getf (a := 0) (v := vR 78) d161_16 f161_82 rfl rfl (congrArg vR (rf_0_9 hR)) ?_
  exact w_inv0 (a := 0) (c := 10) d161_19 c161_284 rfl rfl rfl v178 (Nat.le_of_ble_eq_true rfl) (cq.cl (k))
theorem B_X_sign_22 {X : vX} {d : Nat} {M : vM} {Q : Option vV → vM → Prop} {l1 : Int}  (k : Q (some (vI 0)) M) : vw X d 161 22 [vR 0, vI l1] [] M Q := by
  refine w_ic (v := 0) d161_22 rfl ?_
  exact w_iret d161_23 r161 ⟨_, rfl, k⟩
theorem E_X_sign {X : vX} {d : Nat} {M : vM} {Q : Option vV → vM → Prop} {l1 : Int} (k : vw X d 161 0 [vR 0, vI l1] [] M Q) : cq X (d + 1) 161 [vR 0, vI l1] M Q := wc_in (Nat.le_of_ble_eq_true rfl) (Nat.le_of_ble_eq_true rfl) k
theorem cd162 : vm_cd 162 = cX11_choose := rfl
theorem d162_0 : decode (vm_cd 162) 0 = .ok (.iload_n 1, 1) := (congrArg (fun b => decode b 0) cd162).trans (by decide +kernel)
theorem d162_1 : decode (vm_cd 162) 1 = .ok (.invokestatic 111, 3) := (congrArg (fun b => decode b 1) cd162).trans (by decide +kernel)
theorem d162_4 : decode (vm_cd 162) 4 = .ok (.ifCond .ne 5, 3) := (congrArg (fun b => decode b 4) cd162).trans (by decide +kernel)
theorem d162_7 : decode (vm_cd 162) 7 = .ok (.iconst (-1), 1) := (congrArg (fun b => decode b 7) cd162).trans (by decide +kernel)
theorem d162_8 : decode (vm_cd 162) 8 = .ok (.ireturn, 1) := (congrArg (fun b => decode b 8) cd162).trans (by decide +kernel)
theorem d162_9 : decode (vm_cd 162) 9 = .ok (.iconst (-1), 1) := (congrArg (fun b => decode b 9) cd162).trans (by decide +kernel)
theorem d162_10 : decode (vm_cd 162) 10 = .ok (.istore_n 2, 1) := (congrArg (fun b => decode b 10) cd162).trans (by decide +kernel)
theorem d162_11 : decode (vm_cd 162) 11 = .ok (.ldc2_w 130, 3) := (congrArg (fun b => decode b 11) cd162).trans (by decide +kernel)
theorem d162_14 : decode (vm_cd 162) 14 = .ok (.lstore_n 3, 1) := (congrArg (fun b => decode b 14) cd162).trans (by decide +kernel)
theorem d162_15 : decode (vm_cd 162) 15 = .ok (.iconst 0, 1) := (congrArg (fun b => decode b 15) cd162).trans (by decide +kernel)
theorem d162_16 : decode (vm_cd 162) 16 = .ok (.istore 5, 2) := (congrArg (fun b => decode b 16) cd162).trans (by decide +kernel)
theorem d162_18 : decode (vm_cd 162) 18 = .ok (.iload 5, 2) := (congrArg (fun b => decode b 18) cd162).trans (by decide +kernel)
theorem d162_20 : decode (vm_cd 162) 20 = .ok (.aload_n 0, 1) := (congrArg (fun b => decode b 20) cd162).trans (by decide +kernel)
theorem d162_21 : decode (vm_cd 162) 21 = .ok (.getfield 64, 3) := (congrArg (fun b => decode b 21) cd162).trans (by decide +kernel)
theorem d162_24 : decode (vm_cd 162) 24 = .ok (.invokevirtual 288, 3) := (congrArg (fun b => decode b 24) cd162).trans (by decide +kernel)
theorem d162_27 : decode (vm_cd 162) 27 = .ok (.if_icmp .ge 96, 3) := (congrArg (fun b => decode b 27) cd162).trans (by decide +kernel)
theorem d162_30 : decode (vm_cd 162) 30 = .ok (.aload_n 0, 1) := (congrArg (fun b => decode b 30) cd162).trans (by decide +kernel)
theorem d162_31 : decode (vm_cd 162) 31 = .ok (.iload 5, 2) := (congrArg (fun b => decode b 31) cd162).trans (by decide +kernel)
theorem d162_33 : decode (vm_cd 162) 33 = .ok (.aload_n 0, 1) := (congrArg (fun b => decode b 33) cd162).trans (by decide +kernel)
theorem d162_34 : decode (vm_cd 162) 34 = .ok (.getfield 86, 3) := (congrArg (fun b => decode b 34) cd162).trans (by decide +kernel)
theorem d162_37 : decode (vm_cd 162) 37 = .ok (.invokevirtual 284, 3) := (congrArg (fun b => decode b 37) cd162).trans (by decide +kernel)
theorem d162_40 : decode (vm_cd 162) 40 = .ok (.aload_n 0, 1) := (congrArg (fun b => decode b 40) cd162).trans (by decide +kernel)
theorem d162_41 : decode (vm_cd 162) 41 = .ok (.getfield 22, 3) := (congrArg (fun b => decode b 41) cd162).trans (by decide +kernel)
theorem d162_44 : decode (vm_cd 162) 44 = .ok (.iload_n 1, 1) := (congrArg (fun b => decode b 44) cd162).trans (by decide +kernel)
theorem d162_45 : decode (vm_cd 162) 45 = .ok (.aload_n 0, 1) := (congrArg (fun b => decode b 45) cd162).trans (by decide +kernel)
theorem d162_46 : decode (vm_cd 162) 46 = .ok (.getfield 86, 3) := (congrArg (fun b => decode b 46) cd162).trans (by decide +kernel)
theorem d162_49 : decode (vm_cd 162) 49 = .ok (.invokevirtual 132, 3) := (congrArg (fun b => decode b 49) cd162).trans (by decide +kernel)
theorem d162_52 : decode (vm_cd 162) 52 = .ok (.istore 6, 2) := (congrArg (fun b => decode b 52) cd162).trans (by decide +kernel)
theorem d162_54 : decode (vm_cd 162) 54 = .ok (.aload_n 0, 1) := (congrArg (fun b => decode b 54) cd162).trans (by decide +kernel)
theorem d162_55 : decode (vm_cd 162) 55 = .ok (.getfield 22, 3) := (congrArg (fun b => decode b 55) cd162).trans (by decide +kernel)
theorem d162_58 : decode (vm_cd 162) 58 = .ok (.iload 6, 2) := (congrArg (fun b => decode b 58) cd162).trans (by decide +kernel)
theorem d162_60 : decode (vm_cd 162) 60 = .ok (.invokevirtual 104, 3) := (congrArg (fun b => decode b 60) cd162).trans (by decide +kernel)
theorem d162_63 : decode (vm_cd 162) 63 = .ok (.ifCond .eq 54, 3) := (congrArg (fun b => decode b 63) cd162).trans (by decide +kernel)
theorem d162_66 : decode (vm_cd 162) 66 = .ok (.aload_n 0, 1) := (congrArg (fun b => decode b 66) cd162).trans (by decide +kernel)
theorem d162_67 : decode (vm_cd 162) 67 = .ok (.getfield 22, 3) := (congrArg (fun b => decode b 67) cd162).trans (by decide +kernel)
theorem d162_70 : decode (vm_cd 162) 70 = .ok (.iload 6, 2) := (congrArg (fun b => decode b 70) cd162).trans (by decide +kernel)
theorem d162_72 : decode (vm_cd 162) 72 = .ok (.iload_n 1, 1) := (congrArg (fun b => decode b 72) cd162).trans (by decide +kernel)
theorem d162_73 : decode (vm_cd 162) 73 = .ok (.aload_n 0, 1) := (congrArg (fun b => decode b 73) cd162).trans (by decide +kernel)
theorem d162_74 : decode (vm_cd 162) 74 = .ok (.getfield 86, 3) := (congrArg (fun b => decode b 74) cd162).trans (by decide +kernel)
theorem d162_77 : decode (vm_cd 162) 77 = .ok (.invokevirtual 289, 3) := (congrArg (fun b => decode b 77) cd162).trans (by decide +kernel)
theorem d162_80 : decode (vm_cd 162) 80 = .ok (.ifCond .eq 37, 3) := (congrArg (fun b => decode b 80) cd162).trans (by decide +kernel)
theorem d162_83 : decode (vm_cd 162) 83 = .ok (.aload_n 0, 1) := (congrArg (fun b => decode b 83) cd162).trans (by decide +kernel)
theorem d162_84 : decode (vm_cd 162) 84 = .ok (.getfield 22, 3) := (congrArg (fun b => decode b 84) cd162).trans (by decide +kernel)
theorem d162_87 : decode (vm_cd 162) 87 = .ok (.iload 6, 2) := (congrArg (fun b => decode b 87) cd162).trans (by decide +kernel)
theorem d162_89 : decode (vm_cd 162) 89 = .ok (.iload_n 1, 1) := (congrArg (fun b => decode b 89) cd162).trans (by decide +kernel)
theorem d162_90 : decode (vm_cd 162) 90 = .ok (.aload_n 0, 1) := (congrArg (fun b => decode b 90) cd162).trans (by decide +kernel)
theorem d162_91 : decode (vm_cd 162) 91 = .ok (.getfield 86, 3) := (congrArg (fun b => decode b 91) cd162).trans (by decide +kernel)
theorem d162_94 : decode (vm_cd 162) 94 = .ok (.invokevirtual 293, 3) := (congrArg (fun b => decode b 94) cd162).trans (by decide +kernel)
theorem d162_97 : decode (vm_cd 162) 97 = .ok (.lstore 7, 2) := (congrArg (fun b => decode b 97) cd162).trans (by decide +kernel)
theorem d162_99 : decode (vm_cd 162) 99 = .ok (.iload_n 2, 1) := (congrArg (fun b => decode b 99) cd162).trans (by decide +kernel)
theorem d162_100 : decode (vm_cd 162) 100 = .ok (.iconst (-1), 1) := (congrArg (fun b => decode b 100) cd162).trans (by decide +kernel)
theorem d162_101 : decode (vm_cd 162) 101 = .ok (.if_icmp .eq 10, 3) := (congrArg (fun b => decode b 101) cd162).trans (by decide +kernel)
theorem d162_104 : decode (vm_cd 162) 104 = .ok (.lload 7, 2) := (congrArg (fun b => decode b 104) cd162).trans (by decide +kernel)
theorem d162_106 : decode (vm_cd 162) 106 = .ok (.lload_n 3, 1) := (congrArg (fun b => decode b 106) cd162).trans (by decide +kernel)
theorem d162_107 : decode (vm_cd 162) 107 = .ok (.lcmp, 1) := (congrArg (fun b => decode b 107) cd162).trans (by decide +kernel)
theorem d162_108 : decode (vm_cd 162) 108 = .ok (.ifCond .le 9, 3) := (congrArg (fun b => decode b 108) cd162).trans (by decide +kernel)
theorem d162_111 : decode (vm_cd 162) 111 = .ok (.iload 5, 2) := (congrArg (fun b => decode b 111) cd162).trans (by decide +kernel)
theorem d162_113 : decode (vm_cd 162) 113 = .ok (.istore_n 2, 1) := (congrArg (fun b => decode b 113) cd162).trans (by decide +kernel)
theorem d162_114 : decode (vm_cd 162) 114 = .ok (.lload 7, 2) := (congrArg (fun b => decode b 114) cd162).trans (by decide +kernel)
theorem d162_116 : decode (vm_cd 162) 116 = .ok (.lstore_n 3, 1) := (congrArg (fun b => decode b 116) cd162).trans (by decide +kernel)
theorem d162_117 : decode (vm_cd 162) 117 = .ok (.iinc 5 1, 3) := (congrArg (fun b => decode b 117) cd162).trans (by decide +kernel)
theorem d162_120 : decode (vm_cd 162) 120 = .ok (.goto (-102), 3) := (congrArg (fun b => decode b 120) cd162).trans (by decide +kernel)
theorem d162_123 : decode (vm_cd 162) 123 = .ok (.iload_n 2, 1) := (congrArg (fun b => decode b 123) cd162).trans (by decide +kernel)
theorem d162_124 : decode (vm_cd 162) 124 = .ok (.ireturn, 1) := (congrArg (fun b => decode b 124) cd162).trans (by decide +kernel)
theorem f162_22 : vm_fl.lookup (vm_own 162, 22) = some (10, 0, 250) := by decide +kernel
theorem f162_64 : vm_fl.lookup (vm_own 162, 64) = some (10, 6, 256) := by decide +kernel
theorem f162_86 : vm_fl.lookup (vm_own 162, 86) = some (10, 10, 260) := by decide +kernel
theorem c162_104 : vm_ml.lookup (vm_own 162, 104) = some (0, 5, 1, 306, 307, 381, 2) := vm_lk (by decide +kernel)
theorem c162_111 : vm_ml.lookup (vm_own 162, 111) = some (1, 180, 1, 318, 319, 0, 1) := vm_lk (by decide +kernel)
theorem c162_132 : vm_ml.lookup (vm_own 162, 132) = some (0, 19, 2, 370, 371, 445, 2) := vm_lk (by decide +kernel)
theorem c162_284 : vm_ml.lookup (vm_own 162, 284) = some (0, 178, 2, 865, 867, 32, 1) := vm_lk (by decide +kernel)
theorem c162_288 : vm_ml.lookup (vm_own 162, 288) = some (0, 36, 0, 873, 874, 948, 9) := vm_lk (by decide +kernel)
theorem c162_289 : vm_ml.lookup (vm_own 162, 289) = some (0, 18, 3, 877, 878, 952, 2) := vm_lk (by decide +kernel)
theorem c162_293 : vm_ml.lookup (vm_own 162, 293) = some (0, 17, 3, 881, 380, 454, 2) := vm_lk (by decide +kernel)
theorem g162_130 : vm_cn.lookup (vm_own 162, 130) = some ((1), (-9223372036854775808), (365)) := by decide +kernel
theorem r162 : vm_rt 162 = (some .int) := by decide +kernel
theorem B_X_choose_0 {X : vX} {d : Nat} {M : vM} {Q : Option vV → vM → Prop} {l1 : Int}  (k : cq X d 180 [vI l1] M (fun r M1 => wp X d 162 4 [vR 0, vI l1, vN, vN, vN, vN, vN, vN, vN] (r.toList ++ []) (vS0, M1) (vP Q))) : vw X d 162 0 [vR 0, vI l1, vN, vN, vN, vN, vN, vN, vN] [] M Q := by
  refine w_iload_n d162_0 rfl ?_
  exact w_inv1 d162_1 c162_111 (by decide) rfl (Nat.le_of_ble_eq_true rfl) (cq.cl (k))
theorem B_X_choose_4 {X : vX} {d : Nat} {M : vM} {Q : Option vV → vM → Prop} {l1 s0 : Int}  (k1 : ¬ s0 = 0 → vw X d 162 9 [vR 0, vI l1, vN, vN, vN, vN, vN, vN, vN] [] M Q) (k2 : s0 = 0 → vw X d 162 7 [vR 0, vI l1, vN, vN, vN, vN, vN, vN, vN] [] M Q) : vw X d 162 4 [vR 0, vI l1, vN, vN, vN, vN, vN, vN, vN] [vI s0] M Q := by
  exact w_if_ne d162_4 rfl (fun h => k1 h) (fun h => k2 h)
theorem B_X_choose_7 {X : vX} {d : Nat} {M : vM} {Q : Option vV → vM → Prop} {l1 : Int}  (k : Q (some (vI ((-1)))) M) : vw X d 162 7 [vR 0, vI l1, vN, vN, vN, vN, vN, vN, vN] [] M Q := by
  refine w_ic (v := (-1)) d162_7 rfl ?_
  exact w_iret d162_8 r162 ⟨_, rfl, k⟩
theorem B_X_choose_9 {X : vX} {d : Nat} {M : vM} {Q : Option vV → vM → Prop} {l1 : Int}  (k : vw X d 162 18 [vR 0, vI l1, vI ((-1)), vL ((-9223372036854775808)), vN, vI 0, vN, vN, vN] [] M Q) : vw X d 162 9 [vR 0, vI l1, vN, vN, vN, vN, vN, vN, vN] [] M Q := by
  refine w_ic (v := (-1)) d162_9 rfl ?_
  refine w_istore_nE (ls' := [vR 0, vI l1, vI ((-1)), vN, vN, vN, vN, vN, vN]) d162_10 (Nat.le_of_ble_eq_true rfl) rfl ?_
  refine w_ldc2_w (v := (-9223372036854775808)) d162_11 g162_130 rfl ?_
  refine w_lstore_nE (ls' := [vR 0, vI l1, vI ((-1)), vL ((-9223372036854775808)), vN, vN, vN, vN, vN]) d162_14 (Nat.le_of_ble_eq_true rfl) rfl ?_
  refine w_ic (v := 0) d162_15 rfl ?_
  refine w_istoreE (ls' := [vR 0, vI l1, vI ((-1)), vL ((-9223372036854775808)), vN, vI 0, vN, vN, vN]) d162_16 (Nat.le_of_ble_eq_true rfl) rfl ?_
  exact k
theorem B_X_choose_18 {X : vX} {d : Nat} {M : vM} {Q : Option vV → vM → Prop} {l1 l2 l3 l5 : Int} {w6 w7 : vV} (hR : vRefs M)  (k : cq X d 36 [vR 56] M (fun r M1 => wp X d 162 27 [vR 0, vI l1, vI l2, vL l3, vN, vI l5, w6, w7, vN] (r.toList ++ [vI l5]) (vS0, M1) (vP Q))) : vw X d 162 18 [vR 0, vI l1, vI l2, vL l3, vN, vI l5, w6, w7, vN] [] M Q := by
  refine w_iload d162_18 rfl ?_
  refine w_aload_n d162_20 rfl ?_
  refine w_getf (a := 0) (v := vR 56) d162_21 f162_64 rfl rfl (congrArg vR (rf_0_6 hR)) ?_
  exact w_inv0 (a := 56) (c := 2) d162_24 c162_288 rfl rfl rfl v36 (Nat.le_of_ble_eq_true rfl) (cq.cl (k))
theorem B_X_choose_27 {X : vX} {d : Nat} {M : vM} {Q : Option vV → vM → Prop} {l1 l2 l3 l5 s0 s1 : Int} {w6 w7 : vV}  (k1 : s1 ≤ s0 → vw X d 162 123 [vR 0, vI l1, vI l2, vL l3, vN, vI l5, w6, w7, vN] [] M Q) (k2 : s0 < s1 → vw X d 162 30 [vR 0, vI l1, vI l2, vL l3, vN, vI l5, w6, w7, vN] [] M Q) : vw X d 162 27 [vR 0, vI l1, vI l2, vL l3, vN, vI l5, w6, w7, vN] [vI s1, vI s0] M Q := by
  exact w_icmp_ge d162_27 rfl (fun h => k1 h) (fun h => k2 h)
theorem B_X_choose_30 {X : vX} {d : Nat} {M : vM} {Q : Option vV → vM → Prop} {l1 l2 l3 l5 : Int} {w6 w7 : vV} (hR : vRefs M)  (k : cq X d 178 [vR 0, vI l5, vR 79] M (fun r M1 => wp X d 162 40 [vR 0, vI l1, vI l2, vL l3, vN, vI l5, w6, w7, vN] (r.toList ++ []) (vS0, M1) (vP Q))) : vw X d 162 30 [vR 0, vI l1, vI l2, vL l3, vN, vI l5, w6, w7, vN] [] M Q := by
  refine w_aload_n d162_30 rfl ?_
  refine w_iload d162_31 rfl ?_
  refine w_aload_n d162_33 rfl ?_
  refine w_getf (a := 0) (v := vR 79) d162_34 f162_86 rfl rfl (congrArg vR (rf_0_10 hR)) ?_
  exact w_inv0 (a := 0) (c := 10) d162_37 c162_284 rfl rfl rfl v178 (Nat.le_of_ble_eq_true rfl) (cq.cl (k))
theorem B_X_choose_40 {X : vX} {d : Nat} {M : vM} {Q : Option vV → vM → Prop} {l1 l2 l3 l5 : Int} {w6 w7 : vV} (hR : vRefs M)  (k : cq X d 19 [vR 1, vI l1, vR 79] M (fun r M1 => wp X d 162 52 [vR 0, vI l1, vI l2, vL l3, vN, vI l5, w6, w7, vN] (r.toList ++ []) (vS0, M1) (vP Q))) : vw X d 162 40 [vR 0, vI l1, vI l2, vL l3, vN, vI l5, w6, w7, vN] [] M Q := by
  refine w_aload_n d162_40 rfl ?_
  refine w_getf (a := 0) (v := vR 1) d162_41 f162_22 rfl rfl (congrArg vR (rf_0_0 hR)) ?_
  refine w_iload_n d162_44 rfl ?_
  refine w_aload_n d162_45 rfl ?_
  refine w_getf (a := 0) (v := vR 79) d162_46 f162_86 rfl rfl (congrArg vR (rf_0_10 hR)) ?_
  exact w_inv0 (a := 1) (c := 0) d162_49 c162_132 rfl rfl rfl v19 (Nat.le_of_ble_eq_true rfl) (cq.cl (k))
theorem B_X_choose_52 {X : vX} {d : Nat} {M : vM} {Q : Option vV → vM → Prop} {l1 l2 l3 l5 s0 : Int} {w6 w7 : vV} (hR : vRefs M)  (k : cq X d 5 [vR 1, vI s0] M (fun r M1 => wp X d 162 63 [vR 0, vI l1, vI l2, vL l3, vN, vI l5, vI s0, w7, vN] (r.toList ++ []) (vS0, M1) (vP Q))) : vw X d 162 52 [vR 0, vI l1, vI l2, vL l3, vN, vI l5, w6, w7, vN] [vI s0] M Q := by
  refine w_istoreE (ls' := [vR 0, vI l1, vI l2, vL l3, vN, vI l5, vI s0, w7, vN]) d162_52 (Nat.le_of_ble_eq_true rfl) rfl ?_
  refine w_aload_n d162_54 rfl ?_
  refine w_getf (a := 0) (v := vR 1) d162_55 f162_22 rfl rfl (congrArg vR (rf_0_0 hR)) ?_
  refine w_iload d162_58 rfl ?_
  exact w_inv0 (a := 1) (c := 0) d162_60 c162_104 rfl rfl rfl v5 (Nat.le_of_ble_eq_true rfl) (cq.cl (k))
theorem B_X_choose_63 {X : vX} {d : Nat} {M : vM} {Q : Option vV → vM → Prop} {l1 l2 l3 l5 l6 s0 : Int} {w7 : vV}  (k1 : s0 = 0 → vw X d 162 117 [vR 0, vI l1, vI l2, vL l3, vN, vI l5, vI l6, w7, vN] [] M Q) (k2 : ¬ s0 = 0 → vw X d 162 66 [vR 0, vI l1, vI l2, vL l3, vN, vI l5, vI l6, w7, vN] [] M Q) : vw X d 162 63 [vR 0, vI l1, vI l2, vL l3, vN, vI l5, vI l6, w7, vN] [vI s0] M Q := by
  exact w_if_eq d162_63 rfl (fun h => k1 h) (fun h => k2 h)
theorem B_X_choose_66 {X : vX} {d : Nat} {M : vM} {Q : Option vV → vM → Prop} {l1 l2 l3 l5 l6 : Int} {w7 : vV} (hR : vRefs M)  (k : cq X d 18 [vR 1, vI l6, vI l1, vR 79] M (fun r M1 => wp X d 162 80 [vR 0, vI l1, vI l2, vL l3, vN, vI l5, vI l6, w7, vN] (r.toList ++ []) (vS0, M1) (vP Q))) : vw X d 162 66 [vR 0, vI l1, vI l2, vL l3, vN, vI l5, vI l6, w7, vN] [] M Q := by
  refine w_aload_n d162_66 rfl ?_
  refine w_getf (a := 0) (v := vR 1) d162_67 f162_22 rfl rfl (congrArg vR (rf_0_0 hR)) ?_
  refine w_iload d162_70 rfl ?_
  refine w_iload_n d162_72 rfl ?_
  refine w_aload_n d162_73 rfl ?_
  refine w_getf (a := 0) (v := vR 79) d162_74 f162_86 rfl rfl (congrArg vR (rf_0_10 hR)) ?_
  exact w_inv0 (a := 1) (c := 0) d162_77 c162_289 rfl rfl rfl v18 (Nat.le_of_ble_eq_true rfl) (cq.cl (k))
theorem B_X_choose_80 {X : vX} {d : Nat} {M : vM} {Q : Option vV → vM → Prop} {l1 l2 l3 l5 l6 s0 : Int} {w7 : vV}  (k1 : s0 = 0 → vw X d 162 117 [vR 0, vI l1, vI l2, vL l3, vN, vI l5, vI l6, w7, vN] [] M Q) (k2 : ¬ s0 = 0 → vw X d 162 83 [vR 0, vI l1, vI l2, vL l3, vN, vI l5, vI l6, w7, vN] [] M Q) : vw X d 162 80 [vR 0, vI l1, vI l2, vL l3, vN, vI l5, vI l6, w7, vN] [vI s0] M Q := by
  exact w_if_eq d162_80 rfl (fun h => k1 h) (fun h => k2 h)
theorem B_X_choose_83 {X : vX} {d : Nat} {M : vM} {Q : Option vV → vM → Prop} {l1 l2 l3 l5 l6 : Int} {w7 : vV} (hR : vRefs M)  (k : cq X d 17 [vR 1, vI l6, vI l1, vR 79] M (fun r M1 => wp X d 162 97 [vR 0, vI l1, vI l2, vL l3, vN, vI l5, vI l6, w7, vN] (r.toList ++ []) (vS0, M1) (vP Q))) : vw X d 162 83 [vR 0, vI l1, vI l2, vL l3, vN, vI l5, vI l6, w7, vN] [] M Q := by
  refine w_aload_n d162_83 rfl ?_
  refine w_getf (a := 0) (v := vR 1) d162_84 f162_22 rfl rfl (congrArg vR (rf_0_0 hR)) ?_
  refine w_iload d162_87 rfl ?_
  refine w_iload_n d162_89 rfl ?_
  refine w_aload_n d162_90 rfl ?_
  refine w_getf (a := 0) (v := vR 79) d162_91 f162_86 rfl rfl (congrArg vR (rf_0_10 hR)) ?_
  exact w_inv0 (a := 1) (c := 0) d162_94 c162_293 rfl rfl rfl v17 (Nat.le_of_ble_eq_true rfl) (cq.cl (k))
theorem B_X_choose_97 {X : vX} {d : Nat} {M : vM} {Q : Option vV → vM → Prop} {l1 l2 l3 l5 l6 s0 : Int} {w7 : vV}  (k1 : l2 = ((-1)) → vw X d 162 111 [vR 0, vI l1, vI l2, vL l3, vN, vI l5, vI l6, vL s0, vN] [] M Q) (k2 : ¬ l2 = ((-1)) → vw X d 162 104 [vR 0, vI l1, vI l2, vL l3, vN, vI l5, vI l6, vL s0, vN] [] M Q) : vw X d 162 97 [vR 0, vI l1, vI l2, vL l3, vN, vI l5, vI l6, w7, vN] [vL s0] M Q := by
  refine w_lstoreE (ls' := [vR 0, vI l1, vI l2, vL l3, vN, vI l5, vI l6, vL s0, vN]) d162_97 (Nat.le_of_ble_eq_true rfl) rfl ?_
  refine w_iload_n d162_99 rfl ?_
  refine w_ic (v := (-1)) d162_100 rfl ?_
  exact w_icmp_eq d162_101 rfl (fun h => k1 h) (fun h => k2 h)
theorem B_X_choose_104 {X : vX} {d : Nat} {M : vM} {Q : Option vV → vM → Prop} {l1 l2 l3 l5 l6 l7 : Int}  (k1 : l7 ≤ l3 → vw X d 162 117 [vR 0, vI l1, vI l2, vL l3, vN, vI l5, vI l6, vL l7, vN] [] M Q) (k2 : l3 < l7 → vw X d 162 111 [vR 0, vI l1, vI l2, vL l3, vN, vI l5, vI l6, vL l7, vN] [] M Q) : vw X d 162 104 [vR 0, vI l1, vI l2, vL l3, vN, vI l5, vI l6, vL l7, vN] [] M Q := by
  refine w_lload d162_104 rfl ?_
  refine w_lload_n d162_106 rfl ?_
  exact w_lc_le d162_107 d162_108 rfl (fun h => k1 h) (fun h => k2 h)
theorem B_X_choose_111 {X : vX} {d : Nat} {M : vM} {Q : Option vV → vM → Prop} {l1 l2 l3 l5 l6 l7 : Int}  (k : vw X d 162 18 [vR 0, vI l1, vI l5, vL l7, vN, vI (w32 (l5 + 1)), vI l6, vL l7, vN] [] M Q) : vw X d 162 111 [vR 0, vI l1, vI l2, vL l3, vN, vI l5, vI l6, vL l7, vN] [] M Q := by
  refine w_iload d162_111 rfl ?_
  refine w_istore_nE (ls' := [vR 0, vI l1, vI l5, vL l3, vN, vI l5, vI l6, vL l7, vN]) d162_113 (Nat.le_of_ble_eq_true rfl) rfl ?_
  refine w_lload d162_114 rfl ?_
  refine w_lstore_nE (ls' := [vR 0, vI l1, vI l5, vL l7, vN, vI l5, vI l6, vL l7, vN]) d162_116 (Nat.le_of_ble_eq_true rfl) rfl ?_
  refine w_iincE (ls' := [vR 0, vI l1, vI l5, vL l7, vN, vI (w32 (l5 + 1)), vI l6, vL l7, vN]) d162_117 rfl rfl ?_
  refine w_goto (tgt := 18) d162_120 rfl ?_
  exact k
theorem B_X_choose_117 {X : vX} {d : Nat} {M : vM} {Q : Option vV → vM → Prop} {l1 l2 l3 l5 l6 : Int} {w7 : vV}  (k : vw X d 162 18 [vR 0, vI l1, vI l2, vL l3, vN, vI (w32 (l5 + 1)), vI l6, w7, vN] [] M Q) : vw X d 162 117 [vR 0, vI l1, vI l2, vL l3, vN, vI l5, vI l6, w7, vN] [] M Q := by
  refine w_iincE (ls' := [vR 0, vI l1, vI l2, vL l3, vN, vI (w32 (l5 + 1)), vI l6, w7, vN]) d162_117 rfl rfl ?_
  refine w_goto (tgt := 18) d162_120 rfl ?_
  exact k
theorem B_X_choose_123 {X : vX} {d : Nat} {M : vM} {Q : Option vV → vM → Prop} {l1 l2 l3 l5 : Int} {w6 w7 : vV}  (k : Q (some (vI l2)) M) : vw X d 162 123 [vR 0, vI l1, vI l2, vL l3, vN, vI l5, w6, w7, vN] [] M Q := by
  refine w_iload_n d162_123 rfl ?_
  exact w_iret d162_124 r162 ⟨_, rfl, k⟩
theorem E_X_choose {X : vX} {d : Nat} {M : vM} {Q : Option vV → vM → Prop} {l1 : Int} (k : vw X d 162 0 [vR 0, vI l1, vN, vN, vN, vN, vN, vN, vN] [] M Q) : cq X (d + 1) 162 [vR 0, vI l1] M Q := wc_in (Nat.le_of_ble_eq_true rfl) (Nat.le_of_ble_eq_true rfl) k
theorem cd163 : vm_cd 163 = cX11_lot := rfl
theorem d163_0 : decode (vm_cd 163) 0 = .ok (.iload_n 1, 1) := (congrArg (fun b => decode b 0) cd163).trans (by decide +kernel)
theorem d163_1 : decode (vm_cd 163) 1 = .ok (.iconst 0, 1) := (congrArg (fun b => decode b 1) cd163).trans (by decide +kernel)
theorem d163_2 : decode (vm_cd 163) 2 = .ok (.ldc_w 296, 3) := (congrArg (fun b => decode b 2) cd163).trans (by decide +kernel)
theorem d163_5 : decode (vm_cd 163) 5 = .ok (.invokestatic 92, 3) := (congrArg (fun b => decode b 5) cd163).trans (by decide +kernel)
theorem d163_8 : decode (vm_cd 163) 8 = .ok (.ifCond .eq 14, 3) := (congrArg (fun b => decode b 8) cd163).trans (by decide +kernel)
theorem d163_11 : decode (vm_cd 163) 11 = .ok (.aload_n 0, 1) := (congrArg (fun b => decode b 11) cd163).trans (by decide +kernel)
theorem d163_12 : decode (vm_cd 163) 12 = .ok (.getfield 71, 3) := (congrArg (fun b => decode b 12) cd163).trans (by decide +kernel)
theorem d163_15 : decode (vm_cd 163) 15 = .ok (.iload_n 1, 1) := (congrArg (fun b => decode b 15) cd163).trans (by decide +kernel)
theorem d163_16 : decode (vm_cd 163) 16 = .ok (.invokevirtual 297, 3) := (congrArg (fun b => decode b 16) cd163).trans (by decide +kernel)
theorem d163_19 : decode (vm_cd 163) 19 = .ok (.goto 5, 3) := (congrArg (fun b => decode b 19) cd163).trans (by decide +kernel)
theorem d163_22 : decode (vm_cd 163) 22 = .ok (.bipush (-2), 2) := (congrArg (fun b => decode b 22) cd163).trans (by decide +kernel)
theorem d163_24 : decode (vm_cd 163) 24 = .ok (.ireturn, 1) := (congrArg (fun b => decode b 24) cd163).trans (by decide +kernel)
theorem f163_71 : vm_fl.lookup (vm_own 163, 71) = some (10, 7, 257) := by decide +kernel
theorem c163_92 : vm_ml.lookup (vm_own 163, 92) = some (1, 179, 3, 291, 292, 0, 1) := vm_lk (by decide +kernel)
theorem c163_297 : vm_ml.lookup (vm_own 163, 297) = some (0, 121, 1, 887, 888, 962, 11) := vm_lk (by decide +kernel)
theorem g163_296 : vm_cn.lookup (vm_own 163, 296) = some ((0), (65536), (886)) := by decide +kernel
theorem r163 : vm_rt 163 = (some .int) := by decide +kernel
theorem B_X_lot_0 {X : vX} {d : Nat} {M : vM} {Q : Option vV → vM → Prop} {l1 : Int}  (k : cq X d 179 [vI l1, vI 0, vI 65536] M (fun r M1 => wp X d 163 8 [vR 0, vI l1] (r.toList ++ []) (vS0, M1) (vP Q))) : vw X d 163 0 [vR 0, vI l1] [] M Q := by
  refine w_iload_n d163_0 rfl ?_
  refine w_ic (v := 0) d163_1 rfl ?_
  refine w_ldc_w (v := 65536) d163_2 g163_296 rfl ?_
  exact w_inv1 d163_5 c163_92 (by decide) rfl (Nat.le_of_ble_eq_true rfl) (cq.cl (k))
theorem B_X_lot_8 {X : vX} {d : Nat} {M : vM} {Q : Option vV → vM → Prop} {l1 s0 : Int}  (k1 : s0 = 0 → vw X d 163 22 [vR 0, vI l1] [] M Q) (k2 : ¬ s0 = 0 → vw X d 163 11 [vR 0, vI l1] [] M Q) : vw X d 163 8 [vR 0, vI l1] [vI s0] M Q := by
  exact w_if_eq d163_8 rfl (fun h => k1 h) (fun h => k2 h)
theorem B_X_lot_11 {X : vX} {d : Nat} {M : vM} {Q : Option vV → vM → Prop} {l1 : Int} (hR : vRefs M)  (k : cq X d 121 [vR 70, vI l1] M (fun r M1 => wp X d 163 19 [vR 0, vI l1] (r.toList ++ []) (vS0, M1) (vP Q))) : vw X d 163 11 [vR 0, vI l1] [] M Q := by
  refine w_aload_n d163_11 rfl ?_
  refine w_getf (a := 0) (v := vR 70) d163_12 f163_71 rfl rfl (congrArg vR (rf_0_7 hR)) ?_
  refine w_iload_n d163_15 rfl ?_
  exact w_inv0 (a := 70) (c := 9) d163_16 c163_297 rfl rfl rfl v121 (Nat.le_of_ble_eq_true rfl) (cq.cl (k))
theorem B_X_lot_19 {X : vX} {d : Nat} {M : vM} {Q : Option vV → vM → Prop} {l1 s0 : Int}  (k : Q (some (vI s0)) M) : vw X d 163 19 [vR 0, vI l1] [vI s0] M Q := by
  refine w_goto (tgt := 24) d163_19 rfl ?_
  exact w_iret d163_24 r163 ⟨_, rfl, k⟩
theorem B_X_lot_22 {X : vX} {d : Nat} {M : vM} {Q : Option vV → vM → Prop} {l1 : Int}  (k : Q (some (vI ((-2)))) M) : vw X d 163 22 [vR 0, vI l1] [] M Q := by
  refine w_bi (v := (-2)) d163_22 rfl ?_
  exact w_iret d163_24 r163 ⟨_, rfl, k⟩
theorem E_X_lot {X : vX} {d : Nat} {M : vM} {Q : Option vV → vM → Prop} {l1 : Int} (k : vw X d 163 0 [vR 0, vI l1] [] M Q) : cq X (d + 1) 163 [vR 0, vI l1] M Q := wc_in (Nat.le_of_ble_eq_true rfl) (Nat.le_of_ble_eq_true rfl) k
theorem cd164 : vm_cd 164 = cX11_year := rfl
theorem d164_0 : decode (vm_cd 164) 0 = .ok (.aload_n 0, 1) := (congrArg (fun b => decode b 0) cd164).trans (by decide +kernel)
theorem d164_1 : decode (vm_cd 164) 1 = .ok (.iload_n 1, 1) := (congrArg (fun b => decode b 1) cd164).trans (by decide +kernel)
theorem d164_2 : decode (vm_cd 164) 2 = .ok (.invokevirtual 300, 3) := (congrArg (fun b => decode b 2) cd164).trans (by decide +kernel)
theorem d164_5 : decode (vm_cd 164) 5 = .ok (.istore_n 2, 1) := (congrArg (fun b => decode b 5) cd164).trans (by decide +kernel)
theorem d164_6 : decode (vm_cd 164) 6 = .ok (.iload_n 2, 1) := (congrArg (fun b => decode b 6) cd164).trans (by decide +kernel)
theorem d164_7 : decode (vm_cd 164) 7 = .ok (.iconst (-1), 1) := (congrArg (fun b => decode b 7) cd164).trans (by decide +kernel)
theorem d164_8 : decode (vm_cd 164) 8 = .ok (.if_icmp .ne 5, 3) := (congrArg (fun b => decode b 8) cd164).trans (by decide +kernel)
theorem d164_11 : decode (vm_cd 164) 11 = .ok (.iconst (-1), 1) := (congrArg (fun b => decode b 11) cd164).trans (by decide +kernel)
theorem d164_12 : decode (vm_cd 164) 12 = .ok (.ireturn, 1) := (congrArg (fun b => decode b 12) cd164).trans (by decide +kernel)
theorem d164_13 : decode (vm_cd 164) 13 = .ok (.aload_n 0, 1) := (congrArg (fun b => decode b 13) cd164).trans (by decide +kernel)
theorem d164_14 : decode (vm_cd 164) 14 = .ok (.getfield 71, 3) := (congrArg (fun b => decode b 14) cd164).trans (by decide +kernel)
theorem d164_17 : decode (vm_cd 164) 17 = .ok (.invokevirtual 303, 3) := (congrArg (fun b => decode b 17) cd164).trans (by decide +kernel)
theorem d164_20 : decode (vm_cd 164) 20 = .ok (.ifCond .eq 6, 3) := (congrArg (fun b => decode b 20) cd164).trans (by decide +kernel)
theorem d164_23 : decode (vm_cd 164) 23 = .ok (.bipush (-4), 2) := (congrArg (fun b => decode b 23) cd164).trans (by decide +kernel)
theorem d164_25 : decode (vm_cd 164) 25 = .ok (.ireturn, 1) := (congrArg (fun b => decode b 25) cd164).trans (by decide +kernel)
theorem d164_26 : decode (vm_cd 164) 26 = .ok (.aload_n 0, 1) := (congrArg (fun b => decode b 26) cd164).trans (by decide +kernel)
theorem d164_27 : decode (vm_cd 164) 27 = .ok (.getfield 22, 3) := (congrArg (fun b => decode b 27) cd164).trans (by decide +kernel)
theorem d164_30 : decode (vm_cd 164) 30 = .ok (.iload_n 2, 1) := (congrArg (fun b => decode b 30) cd164).trans (by decide +kernel)
theorem d164_31 : decode (vm_cd 164) 31 = .ok (.iload_n 1, 1) := (congrArg (fun b => decode b 31) cd164).trans (by decide +kernel)
theorem d164_32 : decode (vm_cd 164) 32 = .ok (.aload_n 0, 1) := (congrArg (fun b => decode b 32) cd164).trans (by decide +kernel)
theorem d164_33 : decode (vm_cd 164) 33 = .ok (.getfield 82, 3) := (congrArg (fun b => decode b 33) cd164).trans (by decide +kernel)
theorem d164_36 : decode (vm_cd 164) 36 = .ok (.invokevirtual 289, 3) := (congrArg (fun b => decode b 36) cd164).trans (by decide +kernel)
theorem d164_39 : decode (vm_cd 164) 39 = .ok (.ifCond .ne 17, 3) := (congrArg (fun b => decode b 39) cd164).trans (by decide +kernel)
theorem d164_42 : decode (vm_cd 164) 42 = .ok (.aload_n 0, 1) := (congrArg (fun b => decode b 42) cd164).trans (by decide +kernel)
theorem d164_43 : decode (vm_cd 164) 43 = .ok (.getfield 71, 3) := (congrArg (fun b => decode b 43) cd164).trans (by decide +kernel)
theorem d164_46 : decode (vm_cd 164) 46 = .ok (.iload_n 2, 1) := (congrArg (fun b => decode b 46) cd164).trans (by decide +kernel)
theorem d164_47 : decode (vm_cd 164) 47 = .ok (.iconst (-1), 1) := (congrArg (fun b => decode b 47) cd164).trans (by decide +kernel)
theorem d164_48 : decode (vm_cd 164) 48 = .ok (.iconst 0, 1) := (congrArg (fun b => decode b 48) cd164).trans (by decide +kernel)
theorem d164_49 : decode (vm_cd 164) 49 = .ok (.iconst 0, 1) := (congrArg (fun b => decode b 49) cd164).trans (by decide +kernel)
theorem d164_50 : decode (vm_cd 164) 50 = .ok (.invokevirtual 304, 3) := (congrArg (fun b => decode b 50) cd164).trans (by decide +kernel)
theorem d164_53 : decode (vm_cd 164) 53 = .ok (.bipush (-3), 2) := (congrArg (fun b => decode b 53) cd164).trans (by decide +kernel)
theorem d164_55 : decode (vm_cd 164) 55 = .ok (.ireturn, 1) := (congrArg (fun b => decode b 55) cd164).trans (by decide +kernel)
theorem d164_56 : decode (vm_cd 164) 56 = .ok (.aload_n 0, 1) := (congrArg (fun b => decode b 56) cd164).trans (by decide +kernel)
theorem d164_57 : decode (vm_cd 164) 57 = .ok (.getfield 22, 3) := (congrArg (fun b => decode b 57) cd164).trans (by decide +kernel)
theorem d164_60 : decode (vm_cd 164) 60 = .ok (.iload_n 2, 1) := (congrArg (fun b => decode b 60) cd164).trans (by decide +kernel)
theorem d164_61 : decode (vm_cd 164) 61 = .ok (.iload_n 1, 1) := (congrArg (fun b => decode b 61) cd164).trans (by decide +kernel)
theorem d164_62 : decode (vm_cd 164) 62 = .ok (.aload_n 0, 1) := (congrArg (fun b => decode b 62) cd164).trans (by decide +kernel)
theorem d164_63 : decode (vm_cd 164) 63 = .ok (.getfield 71, 3) := (congrArg (fun b => decode b 63) cd164).trans (by decide +kernel)
theorem d164_66 : decode (vm_cd 164) 66 = .ok (.invokevirtual 308, 3) := (congrArg (fun b => decode b 66) cd164).trans (by decide +kernel)
theorem d164_69 : decode (vm_cd 164) 69 = .ok (.bipush 12, 2) := (congrArg (fun b => decode b 69) cd164).trans (by decide +kernel)
theorem d164_71 : decode (vm_cd 164) 71 = .ok (.invokestatic 13, 3) := (congrArg (fun b => decode b 71) cd164).trans (by decide +kernel)
theorem d164_74 : decode (vm_cd 164) 74 = .ok (.invokevirtual 311, 3) := (congrArg (fun b => decode b 74) cd164).trans (by decide +kernel)
theorem d164_77 : decode (vm_cd 164) 77 = .ok (.istore_n 3, 1) := (congrArg (fun b => decode b 77) cd164).trans (by decide +kernel)
theorem d164_78 : decode (vm_cd 164) 78 = .ok (.aload_n 0, 1) := (congrArg (fun b => decode b 78) cd164).trans (by decide +kernel)
theorem d164_79 : decode (vm_cd 164) 79 = .ok (.getfield 22, 3) := (congrArg (fun b => decode b 79) cd164).trans (by decide +kernel)
theorem d164_82 : decode (vm_cd 164) 82 = .ok (.iload_n 3, 1) := (congrArg (fun b => decode b 82) cd164).trans (by decide +kernel)
theorem d164_83 : decode (vm_cd 164) 83 = .ok (.invokevirtual 117, 3) := (congrArg (fun b => decode b 83) cd164).trans (by decide +kernel)
theorem d164_86 : decode (vm_cd 164) 86 = .ok (.ifCond .ne 5, 3) := (congrArg (fun b => decode b 86) cd164).trans (by decide +kernel)
theorem d164_89 : decode (vm_cd 164) 89 = .ok (.iconst (-1), 1) := (congrArg (fun b => decode b 89) cd164).trans (by decide +kernel)
theorem d164_90 : decode (vm_cd 164) 90 = .ok (.ireturn, 1) := (congrArg (fun b => decode b 90) cd164).trans (by decide +kernel)
theorem d164_91 : decode (vm_cd 164) 91 = .ok (.aload_n 0, 1) := (congrArg (fun b => decode b 91) cd164).trans (by decide +kernel)
theorem d164_92 : decode (vm_cd 164) 92 = .ok (.getfield 71, 3) := (congrArg (fun b => decode b 92) cd164).trans (by decide +kernel)
theorem d164_95 : decode (vm_cd 164) 95 = .ok (.iload_n 2, 1) := (congrArg (fun b => decode b 95) cd164).trans (by decide +kernel)
theorem d164_96 : decode (vm_cd 164) 96 = .ok (.iload_n 3, 1) := (congrArg (fun b => decode b 96) cd164).trans (by decide +kernel)
theorem d164_97 : decode (vm_cd 164) 97 = .ok (.aload_n 0, 1) := (congrArg (fun b => decode b 97) cd164).trans (by decide +kernel)
theorem d164_98 : decode (vm_cd 164) 98 = .ok (.getfield 82, 3) := (congrArg (fun b => decode b 98) cd164).trans (by decide +kernel)
theorem d164_101 : decode (vm_cd 164) 101 = .ok (.iload_n 3, 1) := (congrArg (fun b => decode b 101) cd164).trans (by decide +kernel)
theorem d164_102 : decode (vm_cd 164) 102 = .ok (.iaload, 1) := (congrArg (fun b => decode b 102) cd164).trans (by decide +kernel)
theorem d164_103 : decode (vm_cd 164) 103 = .ok (.aload_n 0, 1) := (congrArg (fun b => decode b 103) cd164).trans (by decide +kernel)
theorem d164_104 : decode (vm_cd 164) 104 = .ok (.getfield 22, 3) := (congrArg (fun b => decode b 104) cd164).trans (by decide +kernel)
theorem d164_107 : decode (vm_cd 164) 107 = .ok (.iload_n 3, 1) := (congrArg (fun b => decode b 107) cd164).trans (by decide +kernel)
theorem d164_108 : decode (vm_cd 164) 108 = .ok (.invokevirtual 278, 3) := (congrArg (fun b => decode b 108) cd164).trans (by decide +kernel)
theorem d164_111 : decode (vm_cd 164) 111 = .ok (.invokevirtual 304, 3) := (congrArg (fun b => decode b 111) cd164).trans (by decide +kernel)
theorem d164_114 : decode (vm_cd 164) 114 = .ok (.iload_n 3, 1) := (congrArg (fun b => decode b 114) cd164).trans (by decide +kernel)
theorem d164_115 : decode (vm_cd 164) 115 = .ok (.ireturn, 1) := (congrArg (fun b => decode b 115) cd164).trans (by decide +kernel)
theorem f164_22 : vm_fl.lookup (vm_own 164, 22) = some (10, 0, 250) := by decide +kernel
theorem f164_71 : vm_fl.lookup (vm_own 164, 71) = some (10, 7, 257) := by decide +kernel
theorem f164_82 : vm_fl.lookup (vm_own 164, 82) = some (10, 9, 259) := by decide +kernel
theorem c164_13 : vm_ml.lookup (vm_own 164, 13) = some (1, 282, 2, 27, 28, 0, 3) := vm_lk (by decide +kernel)
theorem c164_117 : vm_ml.lookup (vm_own 164, 117) = some (0, 6, 1, 329, 330, 404, 2) := vm_lk (by decide +kernel)
theorem c164_278 : vm_ml.lookup (vm_own 164, 278) = some (0, 12, 1, 850, 851, 925, 2) := vm_lk (by decide +kernel)
theorem c164_289 : vm_ml.lookup (vm_own 164, 289) = some (0, 18, 3, 877, 878, 952, 2) := vm_lk (by decide +kernel)
theorem c164_300 : vm_ml.lookup (vm_own 164, 300) = some (0, 135, 1, 895, 367, 441, 1) := vm_lk (by decide +kernel)
theorem c164_303 : vm_ml.lookup (vm_own 164, 303) = some (0, 118, 0, 896, 897, 971, 11) := vm_lk (by decide +kernel)
theorem c164_304 : vm_ml.lookup (vm_own 164, 304) = some (0, 123, 4, 900, 901, 975, 11) := vm_lk (by decide +kernel)
theorem c164_308 : vm_ml.lookup (vm_own 164, 308) = some (0, 122, 0, 909, 905, 979, 11) := vm_lk (by decide +kernel)
theorem c164_311 : vm_ml.lookup (vm_own 164, 311) = some (0, 21, 3, 910, 911, 985, 2) := vm_lk (by decide +kernel)
theorem r164 : vm_rt 164 = (some .int) := by decide +kernel
theorem B_X_year_0 {X : vX} {d : Nat} {M : vM} {Q : Option vV → vM → Prop} {l1 : Int}  (k : cq X d 135 [vR 0, vI l1] M (fun r M1 => wp X d 164 5 [vR 0, vI l1, vN, vN] (r.toList ++ []) (vS0, M1) (vP Q))) : vw X d 164 0 [vR 0, vI l1, vN, vN] [] M Q := by
  refine w_aload_n d164_0 rfl ?_
  refine w_iload_n d164_1 rfl ?_
  exact w_inv0 (a := 0) (c := 10) d164_2 c164_300 rfl rfl rfl v135 (Nat.le_of_ble_eq_true rfl) (cq.cl (k))
theorem B_X_year_5 {X : vX} {d : Nat} {M : vM} {Q : Option vV → vM → Prop} {l1 s0 : Int}  (k1 : ¬ s0 = ((-1)) → vw X d 164 13 [vR 0, vI l1, vI s0, vN] [] M Q) (k2 : s0 = ((-1)) → vw X d 164 11 [vR 0, vI l1, vI s0, vN] [] M Q) : vw X d 164 5 [vR 0, vI l1, vN, vN] [vI s0] M Q := by
  refine w_istore_nE (ls' := [vR 0, vI l1, vI s0, vN]) d164_5 (Nat.le_of_ble_eq_true rfl) rfl ?_
  refine w_iload_n d164_6 rfl ?_
  refine w_ic (v := (-1)) d164_7 rfl ?_
  exact w_icmp_ne d164_8 rfl (fun h => k1 h) (fun h => k2 h)
theorem B_X_year_11 {X : vX} {d : Nat} {M : vM} {Q : Option vV → vM → Prop} {l1 l2 : Int}  (k : Q (some (vI ((-1)))) M) : vw X d 164 11 [vR 0, vI l1, vI l2, vN] [] M Q := by
  refine w_ic (v := (-1)) d164_11 rfl ?_
  exact w_iret d164_12 r164 ⟨_, rfl, k⟩
theorem B_X_year_13 {X : vX} {d : Nat} {M : vM} {Q : Option vV → vM → Prop} {l1 l2 : Int} (hR : vRefs M)  (k : cq X d 118 [vR 70] M (fun r M1 => wp X d 164 20 [vR 0, vI l1, vI l2, vN] (r.toList ++ []) (vS0, M1) (vP Q))) : vw X d 164 13 [vR 0, vI l1, vI l2, vN] [] M Q := by
  refine w_aload_n d164_13 rfl ?_
  refine w_getf (a := 0) (v := vR 70) d164_14 f164_71 rfl rfl (congrArg vR (rf_0_7 hR)) ?_
  exact w_inv0 (a := 70) (c := 9) d164_17 c164_303 rfl rfl rfl v118 (Nat.le_of_ble_eq_true rfl) (cq.cl (k))
theorem B_X_year_20 {X : vX} {d : Nat} {M : vM} {Q : Option vV → vM → Prop} {l1 l2 s0 : Int}  (k1 : s0 = 0 → vw X d 164 26 [vR 0, vI l1, vI l2, vN] [] M Q) (k2 : ¬ s0 = 0 → vw X d 164 23 [vR 0, vI l1, vI l2, vN] [] M Q) : vw X d 164 20 [vR 0, vI l1, vI l2, vN] [vI s0] M Q := by
  exact w_if_eq d164_20 rfl (fun h => k1 h) (fun h => k2 h)
theorem B_X_year_23 {X : vX} {d : Nat} {M : vM} {Q : Option vV → vM → Prop} {l1 l2 : Int}  (k : Q (some (vI ((-4)))) M) : vw X d 164 23 [vR 0, vI l1, vI l2, vN] [] M Q := by
  refine w_bi (v := (-4)) d164_23 rfl ?_
  exact w_iret d164_25 r164 ⟨_, rfl, k⟩
theorem B_X_year_26 {X : vX} {d : Nat} {M : vM} {Q : Option vV → vM → Prop} {l1 l2 : Int} (hR : vRefs M)  (k : cq X d 18 [vR 1, vI l2, vI l1, vR 78] M (fun r M1 => wp X d 164 39 [vR 0, vI l1, vI l2, vN] (r.toList ++ []) (vS0, M1) (vP Q))) : vw X d 164 26 [vR 0, vI l1, vI l2, vN] [] M Q := by
  refine w_aload_n d164_26 rfl ?_
  refine w_getf (a := 0) (v := vR 1) d164_27 f164_22 rfl rfl (congrArg vR (rf_0_0 hR)) ?_
  refine w_iload_n d164_30 rfl ?_
  refine w_iload_n d164_31 rfl ?_
  refine w_aload_n d164_32 rfl ?_
  refine w_getf (a := 0) (v := vR 78) d164_33 f164_82 rfl rfl (congrArg vR (rf_0_9 hR)) ?_
  exact w_inv0 (a := 1) (c := 0) d164_36 c164_289 rfl rfl rfl v18 (Nat.le_of_ble_eq_true rfl) (cq.cl (k))
theorem B_X_year_39 {X : vX} {d : Nat} {M : vM} {Q : Option vV → vM → Prop} {l1 l2 s0 : Int}  (k1 : ¬ s0 = 0 → vw X d 164 56 [vR 0, vI l1, vI l2, vN] [] M Q) (k2 : s0 = 0 → vw X d 164 42 [vR 0, vI l1, vI l2, vN] [] M Q) : vw X d 164 39 [vR 0, vI l1, vI l2, vN] [vI s0] M Q := by
  exact w_if_ne d164_39 rfl (fun h => k1 h) (fun h => k2 h)
theorem B_X_year_42 {X : vX} {d : Nat} {M : vM} {Q : Option vV → vM → Prop} {l1 l2 : Int} (hR : vRefs M)  (k : cq X d 123 [vR 70, vI l2, vI ((-1)), vI 0, vI 0] M (fun r M1 => wp X d 164 53 [vR 0, vI l1, vI l2, vN] (r.toList ++ []) (vS0, M1) (vP Q))) : vw X d 164 42 [vR 0, vI l1, vI l2, vN] [] M Q := by
  refine w_aload_n d164_42 rfl ?_
  refine w_getf (a := 0) (v := vR 70) d164_43 f164_71 rfl rfl (congrArg vR (rf_0_7 hR)) ?_
  refine w_iload_n d164_46 rfl ?_
  refine w_ic (v := (-1)) d164_47 rfl ?_
  refine w_ic (v := 0) d164_48 rfl ?_
  refine w_ic (v := 0) d164_49 rfl ?_
  exact w_inv0 (a := 70) (c := 9) d164_50 c164_304 rfl rfl rfl v123 (Nat.le_of_ble_eq_true rfl) (cq.cl (k))
theorem B_X_year_53 {X : vX} {d : Nat} {M : vM} {Q : Option vV → vM → Prop} {l1 l2 : Int}  (k : Q (some (vI ((-3)))) M) : vw X d 164 53 [vR 0, vI l1, vI l2, vN] [] M Q := by
  refine w_bi (v := (-3)) d164_53 rfl ?_
  exact w_iret d164_55 r164 ⟨_, rfl, k⟩
theorem B_X_year_56 {X : vX} {d : Nat} {M : vM} {Q : Option vV → vM → Prop} {l1 l2 : Int} (hR : vRefs M)  (k : cq X d 122 [vR 70] M (fun r M1 => wp X d 164 69 [vR 0, vI l1, vI l2, vN] (r.toList ++ [vI l1, vI l2, vR 1]) (vS0, M1) (vP Q))) : vw X d 164 56 [vR 0, vI l1, vI l2, vN] [] M Q := by
  refine w_aload_n d164_56 rfl ?_
  refine w_getf (a := 0) (v := vR 1) d164_57 f164_22 rfl rfl (congrArg vR (rf_0_0 hR)) ?_
  refine w_iload_n d164_60 rfl ?_
  refine w_iload_n d164_61 rfl ?_
  refine w_aload_n d164_62 rfl ?_
  refine w_getf (a := 0) (v := vR 70) d164_63 f164_71 rfl rfl (congrArg vR (rf_0_7 hR)) ?_
  exact w_inv0 (a := 70) (c := 9) d164_66 c164_308 rfl rfl rfl v122 (Nat.le_of_ble_eq_true rfl) (cq.cl (k))
theorem B_X_year_69 {X : vX} {d : Nat} {M : vM} {Q : Option vV → vM → Prop} {l1 l2 s1 s2 s3 : Int}  (k : cq X d 282 [vI s3, vI 12] M (fun r M1 => wp X d 164 74 [vR 0, vI l1, vI l2, vN] (r.toList ++ [vI s2, vI s1, vR 1]) (vS0, M1) (vP Q))) : vw X d 164 69 [vR 0, vI l1, vI l2, vN] [vI s3, vI s2, vI s1, vR 1] M Q := by
  refine w_bi (v := 12) d164_69 rfl ?_
  exact w_inv1 d164_71 c164_13 (by decide) rfl (Nat.le_of_ble_eq_true rfl) (cq.cl (k))
theorem B_X_year_74 {X : vX} {d : Nat} {M : vM} {Q : Option vV → vM → Prop} {l1 l2 s1 s2 s3 : Int}  (k : cq X d 21 [vR 1, vI s1, vI s2, vI s3] M (fun r M1 => wp X d 164 77 [vR 0, vI l1, vI l2, vN] (r.toList ++ []) (vS0, M1) (vP Q))) : vw X d 164 74 [vR 0, vI l1, vI l2, vN] [vI s3, vI s2, vI s1, vR 1] M Q := by
  exact w_inv0 (a := 1) (c := 0) d164_74 c164_311 rfl rfl rfl v21 (Nat.le_of_ble_eq_true rfl) (cq.cl (k))
theorem B_X_year_77 {X : vX} {d : Nat} {M : vM} {Q : Option vV → vM → Prop} {l1 l2 s0 : Int} (hR : vRefs M)  (k : cq X d 6 [vR 1, vI s0] M (fun r M1 => wp X d 164 86 [vR 0, vI l1, vI l2, vI s0] (r.toList ++ []) (vS0, M1) (vP Q))) : vw X d 164 77 [vR 0, vI l1, vI l2, vN] [vI s0] M Q := by
  refine w_istore_nE (ls' := [vR 0, vI l1, vI l2, vI s0]) d164_77 (Nat.le_of_ble_eq_true rfl) rfl ?_
  refine w_aload_n d164_78 rfl ?_
  refine w_getf (a := 0) (v := vR 1) d164_79 f164_22 rfl rfl (congrArg vR (rf_0_0 hR)) ?_
  refine w_iload_n d164_82 rfl ?_
  exact w_inv0 (a := 1) (c := 0) d164_83 c164_117 rfl rfl rfl v6 (Nat.le_of_ble_eq_true rfl) (cq.cl (k))
theorem B_X_year_86 {X : vX} {d : Nat} {M : vM} {Q : Option vV → vM → Prop} {l1 l2 l3 s0 : Int}  (k1 : ¬ s0 = 0 → vw X d 164 91 [vR 0, vI l1, vI l2, vI l3] [] M Q) (k2 : s0 = 0 → vw X d 164 89 [vR 0, vI l1, vI l2, vI l3] [] M Q) : vw X d 164 86 [vR 0, vI l1, vI l2, vI l3] [vI s0] M Q := by
  exact w_if_ne d164_86 rfl (fun h => k1 h) (fun h => k2 h)
theorem B_X_year_89 {X : vX} {d : Nat} {M : vM} {Q : Option vV → vM → Prop} {l1 l2 l3 : Int}  (k : Q (some (vI ((-1)))) M) : vw X d 164 89 [vR 0, vI l1, vI l2, vI l3] [] M Q := by
  refine w_ic (v := (-1)) d164_89 rfl ?_
  exact w_iret d164_90 r164 ⟨_, rfl, k⟩
theorem B_X_year_91 {X : vX} {d : Nat} {M : vM} {Q : Option vV → vM → Prop} {l1 l2 l3 : Int} (hR : vRefs M) (h1 : 0 ≤ l3 ∧ l3 < (4 : Nat)) (k : cq X d 12 [vR 1, vI l3] M (fun r M1 => wp X d 164 111 [vR 0, vI l1, vI l2, vI l3] (r.toList ++ [vI (M 78 l3.toNat), vI l3, vI l2, vR 70]) (vS0, M1) (vP Q))) : vw X d 164 91 [vR 0, vI l1, vI l2, vI l3] [] M Q := by
  refine w_aload_n d164_91 rfl ?_
  refine w_getf (a := 0) (v := vR 70) d164_92 f164_71 rfl rfl (congrArg vR (rf_0_7 hR)) ?_
  refine w_iload_n d164_95 rfl ?_
  refine w_iload_n d164_96 rfl ?_
  refine w_aload_n d164_97 rfl ?_
  refine w_getf (a := 0) (v := vR 78) d164_98 f164_82 rfl rfl (congrArg vR (rf_0_9 hR)) ?_
  refine w_iload_n d164_101 rfl ?_
  refine w_iaload (a := 78) d164_102 rfl rfl h1 ?_
  refine w_aload_n d164_103 rfl ?_
  refine w_getf (a := 0) (v := vR 1) d164_104 f164_22 rfl rfl (congrArg vR (rf_0_0 hR)) ?_
  refine w_iload_n d164_107 rfl ?_
  exact w_inv0 (a := 1) (c := 0) d164_108 c164_278 rfl rfl rfl v12 (Nat.le_of_ble_eq_true rfl) (cq.cl (k))
theorem B_X_year_111 {X : vX} {d : Nat} {M : vM} {Q : Option vV → vM → Prop} {l1 l2 l3 s1 s2 s3 s4 : Int}  (k : cq X d 123 [vR 70, vI s1, vI s2, vI s3, vI s4] M (fun r M1 => wp X d 164 114 [vR 0, vI l1, vI l2, vI l3] (r.toList ++ []) (vS0, M1) (vP Q))) : vw X d 164 111 [vR 0, vI l1, vI l2, vI l3] [vI s4, vI s3, vI s2, vI s1, vR 70] M Q := by
  exact w_inv0 (a := 70) (c := 9) d164_111 c164_304 rfl rfl rfl v123 (Nat.le_of_ble_eq_true rfl) (cq.cl (k))
theorem B_X_year_114 {X : vX} {d : Nat} {M : vM} {Q : Option vV → vM → Prop} {l1 l2 l3 : Int}  (k : Q (some (vI l3)) M) : vw X d 164 114 [vR 0, vI l1, vI l2, vI l3] [] M Q := by
  refine w_iload_n d164_114 rfl ?_
  exact w_iret d164_115 r164 ⟨_, rfl, k⟩
theorem E_X_year {X : vX} {d : Nat} {M : vM} {Q : Option vV → vM → Prop} {l1 : Int} (k : vw X d 164 0 [vR 0, vI l1, vN, vN] [] M Q) : cq X (d + 1) 164 [vR 0, vI l1] M Q := wc_in (Nat.le_of_ble_eq_true rfl) (Nat.le_of_ble_eq_true rfl) k
theorem cd165 : vm_cd 165 = cX11_back := rfl
theorem d165_0 : decode (vm_cd 165) 0 = .ok (.aload_n 0, 1) := (congrArg (fun b => decode b 0) cd165).trans (by decide +kernel)
theorem d165_1 : decode (vm_cd 165) 1 = .ok (.getfield 71, 3) := (congrArg (fun b => decode b 1) cd165).trans (by decide +kernel)
theorem d165_4 : decode (vm_cd 165) 4 = .ok (.invokevirtual 314, 3) := (congrArg (fun b => decode b 4) cd165).trans (by decide +kernel)
theorem d165_7 : decode (vm_cd 165) 7 = .ok (.ifCond .ne 7, 3) := (congrArg (fun b => decode b 7) cd165).trans (by decide +kernel)
theorem d165_10 : decode (vm_cd 165) 10 = .ok (.iconst (-1), 1) := (congrArg (fun b => decode b 10) cd165).trans (by decide +kernel)
theorem d165_11 : decode (vm_cd 165) 11 = .ok (.goto 10, 3) := (congrArg (fun b => decode b 11) cd165).trans (by decide +kernel)
theorem d165_14 : decode (vm_cd 165) 14 = .ok (.aload_n 0, 1) := (congrArg (fun b => decode b 14) cd165).trans (by decide +kernel)
theorem d165_15 : decode (vm_cd 165) 15 = .ok (.getfield 71, 3) := (congrArg (fun b => decode b 15) cd165).trans (by decide +kernel)
theorem d165_18 : decode (vm_cd 165) 18 = .ok (.invokevirtual 315, 3) := (congrArg (fun b => decode b 18) cd165).trans (by decide +kernel)
theorem d165_21 : decode (vm_cd 165) 21 = .ok (.ireturn, 1) := (congrArg (fun b => decode b 21) cd165).trans (by decide +kernel)
theorem f165_71 : vm_fl.lookup (vm_own 165, 71) = some (10, 7, 257) := by decide +kernel
theorem c165_314 : vm_ml.lookup (vm_own 165, 314) = some (0, 117, 0, 918, 919, 993, 11) := vm_lk (by decide +kernel)
theorem c165_315 : vm_ml.lookup (vm_own 165, 315) = some (0, 124, 0, 922, 923, 997, 11) := vm_lk (by decide +kernel)
theorem r165 : vm_rt 165 = (some .int) := by decide +kernel
theorem B_X_back_0 {X : vX} {d : Nat} {M : vM} {Q : Option vV → vM → Prop} (hR : vRefs M)  (k : cq X d 117 [vR 70] M (fun r M1 => wp X d 165 7 [vR 0] (r.toList ++ []) (vS0, M1) (vP Q))) : vw X d 165 0 [vR 0] [] M Q := by
  refine w_aload_n d165_0 rfl ?_
  refine w_getf (a := 0) (v := vR 70) d165_1 f165_71 rfl rfl (congrArg vR (rf_0_7 hR)) ?_
  exact w_inv0 (a := 70) (c := 9) d165_4 c165_314 rfl rfl rfl v117 (Nat.le_of_ble_eq_true rfl) (cq.cl (k))
theorem B_X_back_7 {X : vX} {d : Nat} {M : vM} {Q : Option vV → vM → Prop} {s0 : Int}  (k1 : ¬ s0 = 0 → vw X d 165 14 [vR 0] [] M Q) (k2 : s0 = 0 → vw X d 165 10 [vR 0] [] M Q) : vw X d 165 7 [vR 0] [vI s0] M Q := by
  exact w_if_ne d165_7 rfl (fun h => k1 h) (fun h => k2 h)
theorem B_X_back_10 {X : vX} {d : Nat} {M : vM} {Q : Option vV → vM → Prop}  (k : Q (some (vI ((-1)))) M) : vw X d 165 10 [vR 0] [] M Q := by
  refine w_ic (v := (-1)) d165_10 rfl ?_
  refine w_goto (tgt := 21) d165_11 rfl ?_
  exact w_iret d165_21 r165 ⟨_, rfl, k⟩
theorem B_X_back_14 {X : vX} {d : Nat} {M : vM} {Q : Option vV → vM → Prop} (hR : vRefs M)  (k : cq X d 124 [vR 70] M (fun r M1 => wp X d 165 21 [vR 0] (r.toList ++ []) (vS0, M1) (vP Q))) : vw X d 165 14 [vR 0] [] M Q := by
  refine w_aload_n d165_14 rfl ?_
  refine w_getf (a := 0) (v := vR 70) d165_15 f165_71 rfl rfl (congrArg vR (rf_0_7 hR)) ?_
  exact w_inv0 (a := 70) (c := 9) d165_18 c165_315 rfl rfl rfl v124 (Nat.le_of_ble_eq_true rfl) (cq.cl (k))
theorem B_X_back_21 {X : vX} {d : Nat} {M : vM} {Q : Option vV → vM → Prop} {s0 : Int}  (k : Q (some (vI s0)) M) : vw X d 165 21 [vR 0] [vI s0] M Q := by
  exact w_iret d165_21 r165 ⟨_, rfl, k⟩
theorem E_X_back {X : vX} {d : Nat} {M : vM} {Q : Option vV → vM → Prop} (k : vw X d 165 0 [vR 0] [] M Q) : cq X (d + 1) 165 [vR 0] M Q := wc_in (Nat.le_of_ble_eq_true rfl) (Nat.le_of_ble_eq_true rfl) k
theorem cd166 : vm_cd 166 = cX11_then := rfl
theorem d166_0 : decode (vm_cd 166) 0 = .ok (.aload_n 0, 1) := (congrArg (fun b => decode b 0) cd166).trans (by decide +kernel)
theorem d166_1 : decode (vm_cd 166) 1 = .ok (.getfield 71, 3) := (congrArg (fun b => decode b 1) cd166).trans (by decide +kernel)
theorem d166_4 : decode (vm_cd 166) 4 = .ok (.iload_n 1, 1) := (congrArg (fun b => decode b 4) cd166).trans (by decide +kernel)
theorem d166_5 : decode (vm_cd 166) 5 = .ok (.invokevirtual 318, 3) := (congrArg (fun b => decode b 5) cd166).trans (by decide +kernel)
theorem d166_8 : decode (vm_cd 166) 8 = .ok (.ifCond .eq 15, 3) := (congrArg (fun b => decode b 8) cd166).trans (by decide +kernel)
theorem d166_11 : decode (vm_cd 166) 11 = .ok (.aload_n 0, 1) := (congrArg (fun b => decode b 11) cd166).trans (by decide +kernel)
theorem d166_12 : decode (vm_cd 166) 12 = .ok (.getfield 71, 3) := (congrArg (fun b => decode b 12) cd166).trans (by decide +kernel)
theorem d166_15 : decode (vm_cd 166) 15 = .ok (.iload_n 1, 1) := (congrArg (fun b => decode b 15) cd166).trans (by decide +kernel)
theorem d166_16 : decode (vm_cd 166) 16 = .ok (.iload_n 2, 1) := (congrArg (fun b => decode b 16) cd166).trans (by decide +kernel)
theorem d166_17 : decode (vm_cd 166) 17 = .ok (.invokevirtual 321, 3) := (congrArg (fun b => decode b 17) cd166).trans (by decide +kernel)
theorem d166_20 : decode (vm_cd 166) 20 = .ok (.goto 4, 3) := (congrArg (fun b => decode b 20) cd166).trans (by decide +kernel)
theorem d166_23 : decode (vm_cd 166) 23 = .ok (.iconst (-1), 1) := (congrArg (fun b => decode b 23) cd166).trans (by decide +kernel)
theorem d166_24 : decode (vm_cd 166) 24 = .ok (.ireturn, 1) := (congrArg (fun b => decode b 24) cd166).trans (by decide +kernel)
theorem f166_71 : vm_fl.lookup (vm_own 166, 71) = some (10, 7, 257) := by decide +kernel
theorem c166_318 : vm_ml.lookup (vm_own 166, 318) = some (0, 119, 1, 930, 931, 1005, 11) := vm_lk (by decide +kernel)
theorem c166_321 : vm_ml.lookup (vm_own 166, 321) = some (0, 125, 2, 934, 935, 1009, 11) := vm_lk (by decide +kernel)
theorem r166 : vm_rt 166 = (some .int) := by decide +kernel
theorem B_X_then_0 {X : vX} {d : Nat} {M : vM} {Q : Option vV → vM → Prop} {l1 l2 : Int} (hR : vRefs M)  (k : cq X d 119 [vR 70, vI l1] M (fun r M1 => wp X d 166 8 [vR 0, vI l1, vI l2] (r.toList ++ []) (vS0, M1) (vP Q))) : vw X d 166 0 [vR 0, vI l1, vI l2] [] M Q := by
  refine w_aload_n d166_0 rfl ?_
  refine w_getf (a := 0) (v := vR 70) d166_1 f166_71 rfl rfl (congrArg vR (rf_0_7 hR)) ?_
  refine w_iload_n d166_4 rfl ?_
  exact w_inv0 (a := 70) (c := 9) d166_5 c166_318 rfl rfl rfl v119 (Nat.le_of_ble_eq_true rfl) (cq.cl (k))
theorem B_X_then_8 {X : vX} {d : Nat} {M : vM} {Q : Option vV → vM → Prop} {l1 l2 s0 : Int}  (k1 : s0 = 0 → vw X d 166 23 [vR 0, vI l1, vI l2] [] M Q) (k2 : ¬ s0 = 0 → vw X d 166 11 [vR 0, vI l1, vI l2] [] M Q) : vw X d 166 8 [vR 0, vI l1, vI l2] [vI s0] M Q := by
  exact w_if_eq d166_8 rfl (fun h => k1 h) (fun h => k2 h)
theorem B_X_then_11 {X : vX} {d : Nat} {M : vM} {Q : Option vV → vM → Prop} {l1 l2 : Int} (hR : vRefs M)  (k : cq X d 125 [vR 70, vI l1, vI l2] M (fun r M1 => wp X d 166 20 [vR 0, vI l1, vI l2] (r.toList ++ []) (vS0, M1) (vP Q))) : vw X d 166 11 [vR 0, vI l1, vI l2] [] M Q := by
  refine w_aload_n d166_11 rfl ?_
  refine w_getf (a := 0) (v := vR 70) d166_12 f166_71 rfl rfl (congrArg vR (rf_0_7 hR)) ?_
  refine w_iload_n d166_15 rfl ?_
  refine w_iload_n d166_16 rfl ?_
  exact w_inv0 (a := 70) (c := 9) d166_17 c166_321 rfl rfl rfl v125 (Nat.le_of_ble_eq_true rfl) (cq.cl (k))
theorem B_X_then_20 {X : vX} {d : Nat} {M : vM} {Q : Option vV → vM → Prop} {l1 l2 s0 : Int}  (k : Q (some (vI s0)) M) : vw X d 166 20 [vR 0, vI l1, vI l2] [vI s0] M Q := by
  refine w_goto (tgt := 24) d166_20 rfl ?_
  exact w_iret d166_24 r166 ⟨_, rfl, k⟩
theorem B_X_then_23 {X : vX} {d : Nat} {M : vM} {Q : Option vV → vM → Prop} {l1 l2 : Int}  (k : Q (some (vI ((-1)))) M) : vw X d 166 23 [vR 0, vI l1, vI l2] [] M Q := by
  refine w_ic (v := (-1)) d166_23 rfl ?_
  exact w_iret d166_24 r166 ⟨_, rfl, k⟩
theorem E_X_then {X : vX} {d : Nat} {M : vM} {Q : Option vV → vM → Prop} {l1 l2 : Int} (k : vw X d 166 0 [vR 0, vI l1, vI l2] [] M Q) : cq X (d + 1) 166 [vR 0, vI l1, vI l2] M Q := wc_in (Nat.le_of_ble_eq_true rfl) (Nat.le_of_ble_eq_true rfl) k
theorem cd167 : vm_cd 167 = cX11_account := rfl
theorem d167_0 : decode (vm_cd 167) 0 = .ok (.iload_n 1, 1) := (congrArg (fun b => decode b 0) cd167).trans (by decide +kernel)
theorem d167_1 : decode (vm_cd 167) 1 = .ok (.iconst 0, 1) := (congrArg (fun b => decode b 1) cd167).trans (by decide +kernel)
theorem d167_2 : decode (vm_cd 167) 2 = .ok (.iconst 1, 1) := (congrArg (fun b => decode b 2) cd167).trans (by decide +kernel)
theorem d167_3 : decode (vm_cd 167) 3 = .ok (.invokestatic 92, 3) := (congrArg (fun b => decode b 3) cd167).trans (by decide +kernel)
theorem d167_6 : decode (vm_cd 167) 6 = .ok (.ifCond .eq 14, 3) := (congrArg (fun b => decode b 6) cd167).trans (by decide +kernel)
theorem d167_9 : decode (vm_cd 167) 9 = .ok (.aload_n 0, 1) := (congrArg (fun b => decode b 9) cd167).trans (by decide +kernel)
theorem d167_10 : decode (vm_cd 167) 10 = .ok (.getfield 71, 3) := (congrArg (fun b => decode b 10) cd167).trans (by decide +kernel)
theorem d167_13 : decode (vm_cd 167) 13 = .ok (.iload_n 1, 1) := (congrArg (fun b => decode b 13) cd167).trans (by decide +kernel)
theorem d167_14 : decode (vm_cd 167) 14 = .ok (.invokevirtual 323, 3) := (congrArg (fun b => decode b 14) cd167).trans (by decide +kernel)
theorem d167_17 : decode (vm_cd 167) 17 = .ok (.goto 6, 3) := (congrArg (fun b => decode b 17) cd167).trans (by decide +kernel)
theorem d167_20 : decode (vm_cd 167) 20 = .ok (.ldc2_w 130, 3) := (congrArg (fun b => decode b 20) cd167).trans (by decide +kernel)
theorem d167_23 : decode (vm_cd 167) 23 = .ok (.lreturn, 1) := (congrArg (fun b => decode b 23) cd167).trans (by decide +kernel)
theorem f167_71 : vm_fl.lookup (vm_own 167, 71) = some (10, 7, 257) := by decide +kernel
theorem c167_92 : vm_ml.lookup (vm_own 167, 92) = some (1, 179, 3, 291, 292, 0, 1) := vm_lk (by decide +kernel)
theorem c167_323 : vm_ml.lookup (vm_own 167, 323) = some (0, 126, 1, 942, 943, 1017, 11) := vm_lk (by decide +kernel)
theorem g167_130 : vm_cn.lookup (vm_own 167, 130) = some ((1), (-9223372036854775808), (365)) := by decide +kernel
theorem r167 : vm_rt 167 = (some .long) := by decide +kernel
theorem B_X_account_0 {X : vX} {d : Nat} {M : vM} {Q : Option vV → vM → Prop} {l1 : Int}  (k : cq X d 179 [vI l1, vI 0, vI 1] M (fun r M1 => wp X d 167 6 [vR 0, vI l1] (r.toList ++ []) (vS0, M1) (vP Q))) : vw X d 167 0 [vR 0, vI l1] [] M Q := by
  refine w_iload_n d167_0 rfl ?_
  refine w_ic (v := 0) d167_1 rfl ?_
  refine w_ic (v := 1) d167_2 rfl ?_
  exact w_inv1 d167_3 c167_92 (by decide) rfl (Nat.le_of_ble_eq_true rfl) (cq.cl (k))
theorem B_X_account_6 {X : vX} {d : Nat} {M : vM} {Q : Option vV → vM → Prop} {l1 s0 : Int}  (k1 : s0 = 0 → vw X d 167 20 [vR 0, vI l1] [] M Q) (k2 : ¬ s0 = 0 → vw X d 167 9 [vR 0, vI l1] [] M Q) : vw X d 167 6 [vR 0, vI l1] [vI s0] M Q := by
  exact w_if_eq d167_6 rfl (fun h => k1 h) (fun h => k2 h)
theorem B_X_account_9 {X : vX} {d : Nat} {M : vM} {Q : Option vV → vM → Prop} {l1 : Int} (hR : vRefs M)  (k : cq X d 126 [vR 70, vI l1] M (fun r M1 => wp X d 167 17 [vR 0, vI l1] (r.toList ++ []) (vS0, M1) (vP Q))) : vw X d 167 9 [vR 0, vI l1] [] M Q := by
  refine w_aload_n d167_9 rfl ?_
  refine w_getf (a := 0) (v := vR 70) d167_10 f167_71 rfl rfl (congrArg vR (rf_0_7 hR)) ?_
  refine w_iload_n d167_13 rfl ?_
  exact w_inv0 (a := 70) (c := 9) d167_14 c167_323 rfl rfl rfl v126 (Nat.le_of_ble_eq_true rfl) (cq.cl (k))
theorem B_X_account_17 {X : vX} {d : Nat} {M : vM} {Q : Option vV → vM → Prop} {l1 s0 : Int}  (k : Q (some (vL s0)) M) : vw X d 167 17 [vR 0, vI l1] [vL s0] M Q := by
  refine w_goto (tgt := 23) d167_17 rfl ?_
  exact w_lret d167_23 r167 ⟨_, rfl, k⟩
theorem B_X_account_20 {X : vX} {d : Nat} {M : vM} {Q : Option vV → vM → Prop} {l1 : Int}  (k : Q (some (vL ((-9223372036854775808)))) M) : vw X d 167 20 [vR 0, vI l1] [] M Q := by
  refine w_ldc2_w (v := (-9223372036854775808)) d167_20 g167_130 rfl ?_
  exact w_lret d167_23 r167 ⟨_, rfl, k⟩
theorem E_X_account {X : vX} {d : Nat} {M : vM} {Q : Option vV → vM → Prop} {l1 : Int} (k : vw X d 167 0 [vR 0, vI l1] [] M Q) : cq X (d + 1) 167 [vR 0, vI l1] M Q := wc_in (Nat.le_of_ble_eq_true rfl) (Nat.le_of_ble_eq_true rfl) k
theorem cd168 : vm_cd 168 = cX11_likely := rfl
theorem d168_0 : decode (vm_cd 168) 0 = .ok (.aload_n 0, 1) := (congrArg (fun b => decode b 0) cd168).trans (by decide +kernel)
theorem d168_1 : decode (vm_cd 168) 1 = .ok (.getfield 22, 3) := (congrArg (fun b => decode b 1) cd168).trans (by decide +kernel)
theorem d168_4 : decode (vm_cd 168) 4 = .ok (.iload_n 1, 1) := (congrArg (fun b => decode b 4) cd168).trans (by decide +kernel)
theorem d168_5 : decode (vm_cd 168) 5 = .ok (.invokevirtual 104, 3) := (congrArg (fun b => decode b 5) cd168).trans (by decide +kernel)
theorem d168_8 : decode (vm_cd 168) 8 = .ok (.ifCond .eq 21, 3) := (congrArg (fun b => decode b 8) cd168).trans (by decide +kernel)
theorem d168_11 : decode (vm_cd 168) 11 = .ok (.iload_n 2, 1) := (congrArg (fun b => decode b 11) cd168).trans (by decide +kernel)
theorem d168_12 : decode (vm_cd 168) 12 = .ok (.invokestatic 111, 3) := (congrArg (fun b => decode b 12) cd168).trans (by decide +kernel)
theorem d168_15 : decode (vm_cd 168) 15 = .ok (.ifCond .eq 14, 3) := (congrArg (fun b => decode b 15) cd168).trans (by decide +kernel)
theorem d168_18 : decode (vm_cd 168) 18 = .ok (.aload_n 0, 1) := (congrArg (fun b => decode b 18) cd168).trans (by decide +kernel)
theorem d168_19 : decode (vm_cd 168) 19 = .ok (.getfield 71, 3) := (congrArg (fun b => decode b 19) cd168).trans (by decide +kernel)
theorem d168_22 : decode (vm_cd 168) 22 = .ok (.iload_n 3, 1) := (congrArg (fun b => decode b 22) cd168).trans (by decide +kernel)
theorem d168_23 : decode (vm_cd 168) 23 = .ok (.invokevirtual 325, 3) := (congrArg (fun b => decode b 23) cd168).trans (by decide +kernel)
theorem d168_26 : decode (vm_cd 168) 26 = .ok (.ifCond .ne 7, 3) := (congrArg (fun b => decode b 26) cd168).trans (by decide +kernel)
theorem d168_29 : decode (vm_cd 168) 29 = .ok (.ldc2_w 130, 3) := (congrArg (fun b => decode b 29) cd168).trans (by decide +kernel)
theorem d168_32 : decode (vm_cd 168) 32 = .ok (.lreturn, 1) := (congrArg (fun b => decode b 32) cd168).trans (by decide +kernel)
theorem d168_33 : decode (vm_cd 168) 33 = .ok (.lconst 1, 1) := (congrArg (fun b => decode b 33) cd168).trans (by decide +kernel)
theorem d168_34 : decode (vm_cd 168) 34 = .ok (.lstore 4, 2) := (congrArg (fun b => decode b 34) cd168).trans (by decide +kernel)
theorem d168_36 : decode (vm_cd 168) 36 = .ok (.aload_n 0, 1) := (congrArg (fun b => decode b 36) cd168).trans (by decide +kernel)
theorem d168_37 : decode (vm_cd 168) 37 = .ok (.getfield 71, 3) := (congrArg (fun b => decode b 37) cd168).trans (by decide +kernel)
theorem d168_40 : decode (vm_cd 168) 40 = .ok (.invokevirtual 314, 3) := (congrArg (fun b => decode b 40) cd168).trans (by decide +kernel)
theorem d168_43 : decode (vm_cd 168) 43 = .ok (.iload_n 3, 1) := (congrArg (fun b => decode b 43) cd168).trans (by decide +kernel)
theorem d168_44 : decode (vm_cd 168) 44 = .ok (.isub, 1) := (congrArg (fun b => decode b 44) cd168).trans (by decide +kernel)
theorem d168_45 : decode (vm_cd 168) 45 = .ok (.istore 6, 2) := (congrArg (fun b => decode b 45) cd168).trans (by decide +kernel)
theorem d168_47 : decode (vm_cd 168) 47 = .ok (.iload 6, 2) := (congrArg (fun b => decode b 47) cd168).trans (by decide +kernel)
theorem d168_49 : decode (vm_cd 168) 49 = .ok (.aload_n 0, 1) := (congrArg (fun b => decode b 49) cd168).trans (by decide +kernel)
theorem d168_50 : decode (vm_cd 168) 50 = .ok (.getfield 71, 3) := (congrArg (fun b => decode b 50) cd168).trans (by decide +kernel)
theorem d168_53 : decode (vm_cd 168) 53 = .ok (.invokevirtual 314, 3) := (congrArg (fun b => decode b 53) cd168).trans (by decide +kernel)
theorem d168_56 : decode (vm_cd 168) 56 = .ok (.if_icmp .ge 50, 3) := (congrArg (fun b => decode b 56) cd168).trans (by decide +kernel)
theorem d168_59 : decode (vm_cd 168) 59 = .ok (.aload_n 0, 1) := (congrArg (fun b => decode b 59) cd168).trans (by decide +kernel)
theorem d168_60 : decode (vm_cd 168) 60 = .ok (.getfield 71, 3) := (congrArg (fun b => decode b 60) cd168).trans (by decide +kernel)
theorem d168_63 : decode (vm_cd 168) 63 = .ok (.iload 6, 2) := (congrArg (fun b => decode b 63) cd168).trans (by decide +kernel)
theorem d168_65 : decode (vm_cd 168) 65 = .ok (.iconst 1, 1) := (congrArg (fun b => decode b 65) cd168).trans (by decide +kernel)
theorem d168_66 : decode (vm_cd 168) 66 = .ok (.invokevirtual 321, 3) := (congrArg (fun b => decode b 66) cd168).trans (by decide +kernel)
theorem d168_69 : decode (vm_cd 168) 69 = .ok (.istore 7, 2) := (congrArg (fun b => decode b 69) cd168).trans (by decide +kernel)
theorem d168_71 : decode (vm_cd 168) 71 = .ok (.aload_n 0, 1) := (congrArg (fun b => decode b 71) cd168).trans (by decide +kernel)
theorem d168_72 : decode (vm_cd 168) 72 = .ok (.getfield 22, 3) := (congrArg (fun b => decode b 72) cd168).trans (by decide +kernel)
theorem d168_75 : decode (vm_cd 168) 75 = .ok (.iload 7, 2) := (congrArg (fun b => decode b 75) cd168).trans (by decide +kernel)
theorem d168_77 : decode (vm_cd 168) 77 = .ok (.invokevirtual 117, 3) := (congrArg (fun b => decode b 77) cd168).trans (by decide +kernel)
theorem d168_80 : decode (vm_cd 168) 80 = .ok (.ifCond .eq 20, 3) := (congrArg (fun b => decode b 80) cd168).trans (by decide +kernel)
theorem d168_83 : decode (vm_cd 168) 83 = .ok (.lload 4, 2) := (congrArg (fun b => decode b 83) cd168).trans (by decide +kernel)
theorem d168_85 : decode (vm_cd 168) 85 = .ok (.aload_n 0, 1) := (congrArg (fun b => decode b 85) cd168).trans (by decide +kernel)
theorem d168_86 : decode (vm_cd 168) 86 = .ok (.getfield 22, 3) := (congrArg (fun b => decode b 86) cd168).trans (by decide +kernel)
theorem d168_89 : decode (vm_cd 168) 89 = .ok (.iload_n 1, 1) := (congrArg (fun b => decode b 89) cd168).trans (by decide +kernel)
theorem d168_90 : decode (vm_cd 168) 90 = .ok (.iload_n 2, 1) := (congrArg (fun b => decode b 90) cd168).trans (by decide +kernel)
theorem d168_91 : decode (vm_cd 168) 91 = .ok (.iload 7, 2) := (congrArg (fun b => decode b 91) cd168).trans (by decide +kernel)
theorem d168_93 : decode (vm_cd 168) 93 = .ok (.invokevirtual 328, 3) := (congrArg (fun b => decode b 93) cd168).trans (by decide +kernel)
theorem d168_96 : decode (vm_cd 168) 96 = .ok (.i2l, 1) := (congrArg (fun b => decode b 96) cd168).trans (by decide +kernel)
theorem d168_97 : decode (vm_cd 168) 97 = .ok (.lmul, 1) := (congrArg (fun b => decode b 97) cd168).trans (by decide +kernel)
theorem d168_98 : decode (vm_cd 168) 98 = .ok (.lstore 4, 2) := (congrArg (fun b => decode b 98) cd168).trans (by decide +kernel)
theorem d168_100 : decode (vm_cd 168) 100 = .ok (.iinc 6 1, 3) := (congrArg (fun b => decode b 100) cd168).trans (by decide +kernel)
theorem d168_103 : decode (vm_cd 168) 103 = .ok (.goto (-56), 3) := (congrArg (fun b => decode b 103) cd168).trans (by decide +kernel)
theorem d168_106 : decode (vm_cd 168) 106 = .ok (.lload 4, 2) := (congrArg (fun b => decode b 106) cd168).trans (by decide +kernel)
theorem d168_108 : decode (vm_cd 168) 108 = .ok (.lreturn, 1) := (congrArg (fun b => decode b 108) cd168).trans (by decide +kernel)
theorem f168_22 : vm_fl.lookup (vm_own 168, 22) = some (10, 0, 250) := by decide +kernel
theorem f168_71 : vm_fl.lookup (vm_own 168, 71) = some (10, 7, 257) := by decide +kernel
theorem c168_104 : vm_ml.lookup (vm_own 168, 104) = some (0, 5, 1, 306, 307, 381, 2) := vm_lk (by decide +kernel)
theorem c168_111 : vm_ml.lookup (vm_own 168, 111) = some (1, 180, 1, 318, 319, 0, 1) := vm_lk (by decide +kernel)
theorem c168_117 : vm_ml.lookup (vm_own 168, 117) = some (0, 6, 1, 329, 330, 404, 2) := vm_lk (by decide +kernel)
theorem c168_314 : vm_ml.lookup (vm_own 168, 314) = some (0, 117, 0, 918, 919, 993, 11) := vm_lk (by decide +kernel)
theorem c168_321 : vm_ml.lookup (vm_own 168, 321) = some (0, 125, 2, 934, 935, 1009, 11) := vm_lk (by decide +kernel)
theorem c168_325 : vm_ml.lookup (vm_own 168, 325) = some (0, 120, 1, 950, 951, 1025, 11) := vm_lk (by decide +kernel)
theorem c168_328 : vm_ml.lookup (vm_own 168, 328) = some (0, 13, 3, 955, 362, 436, 2) := vm_lk (by decide +kernel)
theorem g168_130 : vm_cn.lookup (vm_own 168, 130) = some ((1), (-9223372036854775808), (365)) := by decide +kernel
theorem r168 : vm_rt 168 = (some .long) := by decide +kernel
theorem B_X_likely_0 {X : vX} {d : Nat} {M : vM} {Q : Option vV → vM → Prop} {l1 l2 l3 : Int} (hR : vRefs M)  (k : cq X d 5 [vR 1, vI l1] M (fun r M1 => wp X d 168 8 [vR 0, vI l1, vI l2, vI l3, vN, vN, vN, vN] (r.toList ++ []) (vS0, M1) (vP Q))) : vw X d 168 0 [vR 0, vI l1, vI l2, vI l3, vN, vN, vN, vN] [] M Q := by
  refine w_aload_n d168_0 rfl ?_
  refine w_getf (a := 0) (v := vR 1) d168_1 f168_22 rfl rfl (congrArg vR (rf_0_0 hR)) ?_
  refine w_iload_n d168_4 rfl ?_
  exact w_inv0 (a := 1) (c := 0) d168_5 c168_104 rfl rfl rfl v5 (Nat.le_of_ble_eq_true rfl) (cq.cl (k))
theorem B_X_likely_8 {X : vX} {d : Nat} {M : vM} {Q : Option vV → vM → Prop} {l1 l2 l3 s0 : Int}  (k1 : s0 = 0 → vw X d 168 29 [vR 0, vI l1, vI l2, vI l3, vN, vN, vN, vN] [] M Q) (k2 : ¬ s0 = 0 → vw X d 168 11 [vR 0, vI l1, vI l2, vI l3, vN, vN, vN, vN] [] M Q) : vw X d 168 8 [vR 0, vI l1, vI l2, vI l3, vN, vN, vN, vN] [vI s0] M Q := by
  exact w_if_eq d168_8 rfl (fun h => k1 h) (fun h => k2 h)
theorem B_X_likely_11 {X : vX} {d : Nat} {M : vM} {Q : Option vV → vM → Prop} {l1 l2 l3 : Int}  (k : cq X d 180 [vI l2] M (fun r M1 => wp X d 168 15 [vR 0, vI l1, vI l2, vI l3, vN, vN, vN, vN] (r.toList ++ []) (vS0, M1) (vP Q))) : vw X d 168 11 [vR 0, vI l1, vI l2, vI l3, vN, vN, vN, vN] [] M Q := by
  refine w_iload_n d168_11 rfl ?_
  exact w_inv1 d168_12 c168_111 (by decide) rfl (Nat.le_of_ble_eq_true rfl) (cq.cl (k))
theorem B_X_likely_15 {X : vX} {d : Nat} {M : vM} {Q : Option vV → vM → Prop} {l1 l2 l3 s0 : Int}  (k1 : s0 = 0 → vw X d 168 29 [vR 0, vI l1, vI l2, vI l3, vN, vN, vN, vN] [] M Q) (k2 : ¬ s0 = 0 → vw X d 168 18 [vR 0, vI l1, vI l2, vI l3, vN, vN, vN, vN] [] M Q) : vw X d 168 15 [vR 0, vI l1, vI l2, vI l3, vN, vN, vN, vN] [vI s0] M Q := by
  exact w_if_eq d168_15 rfl (fun h => k1 h) (fun h => k2 h)
theorem B_X_likely_18 {X : vX} {d : Nat} {M : vM} {Q : Option vV → vM → Prop} {l1 l2 l3 : Int} (hR : vRefs M)  (k : cq X d 120 [vR 70, vI l3] M (fun r M1 => wp X d 168 26 [vR 0, vI l1, vI l2, vI l3, vN, vN, vN, vN] (r.toList ++ []) (vS0, M1) (vP Q))) : vw X d 168 18 [vR 0, vI l1, vI l2, vI l3, vN, vN, vN, vN] [] M Q := by
  refine w_aload_n d168_18 rfl ?_
  refine w_getf (a := 0) (v := vR 70) d168_19 f168_71 rfl rfl (congrArg vR (rf_0_7 hR)) ?_
  refine w_iload_n d168_22 rfl ?_
  exact w_inv0 (a := 70) (c := 9) d168_23 c168_325 rfl rfl rfl v120 (Nat.le_of_ble_eq_true rfl) (cq.cl (k))
theorem B_X_likely_26 {X : vX} {d : Nat} {M : vM} {Q : Option vV → vM → Prop} {l1 l2 l3 s0 : Int}  (k1 : ¬ s0 = 0 → vw X d 168 33 [vR 0, vI l1, vI l2, vI l3, vN, vN, vN, vN] [] M Q) (k2 : s0 = 0 → vw X d 168 29 [vR 0, vI l1, vI l2, vI l3, vN, vN, vN, vN] [] M Q) : vw X d 168 26 [vR 0, vI l1, vI l2, vI l3, vN, vN, vN, vN] [vI s0] M Q := by
  exact w_if_ne d168_26 rfl (fun h => k1 h) (fun h => k2 h)
theorem B_X_likely_29 {X : vX} {d : Nat} {M : vM} {Q : Option vV → vM → Prop} {l1 l2 l3 : Int}  (k : Q (some (vL ((-9223372036854775808)))) M) : vw X d 168 29 [vR 0, vI l1, vI l2, vI l3, vN, vN, vN, vN] [] M Q := by
  refine w_ldc2_w (v := (-9223372036854775808)) d168_29 g168_130 rfl ?_
  exact w_lret d168_32 r168 ⟨_, rfl, k⟩
theorem B_X_likely_33 {X : vX} {d : Nat} {M : vM} {Q : Option vV → vM → Prop} {l1 l2 l3 : Int} (hR : vRefs M)  (k : cq X d 117 [vR 70] M (fun r M1 => wp X d 168 43 [vR 0, vI l1, vI l2, vI l3, vL 1, vN, vN, vN] (r.toList ++ []) (vS0, M1) (vP Q))) : vw X d 168 33 [vR 0, vI l1, vI l2, vI l3, vN, vN, vN, vN] [] M Q := by
  refine w_lc (v := 1) d168_33 rfl ?_
  refine w_lstoreE (ls' := [vR 0, vI l1, vI l2, vI l3, vL 1, vN, vN, vN]) d168_34 (Nat.le_of_ble_eq_true rfl) rfl ?_
  refine w_aload_n d168_36 rfl ?_
  refine w_getf (a := 0) (v := vR 70) d168_37 f168_71 rfl rfl (congrArg vR (rf_0_7 hR)) ?_
  exact w_inv0 (a := 70) (c := 9) d168_40 c168_314 rfl rfl rfl v117 (Nat.le_of_ble_eq_true rfl) (cq.cl (k))
theorem B_X_likely_43 {X : vX} {d : Nat} {M : vM} {Q : Option vV → vM → Prop} {l1 l2 l3 l4 s0 : Int}  (k : vw X d 168 47 [vR 0, vI l1, vI l2, vI l3, vL l4, vN, vI (w32 (s0 - l3)), vN] [] M Q) : vw X d 168 43 [vR 0, vI l1, vI l2, vI l3, vL l4, vN, vN, vN] [vI s0] M Q := by
  refine w_iload_n d168_43 rfl ?_
  refine w_isub d168_44 ?_
  refine w_istoreE (ls' := [vR 0, vI l1, vI l2, vI l3, vL l4, vN, vI (w32 (s0 - l3)), vN]) d168_45 (Nat.le_of_ble_eq_true rfl) rfl ?_
  exact k
theorem B_X_likely_47 {X : vX} {d : Nat} {M : vM} {Q : Option vV → vM → Prop} {l1 l2 l3 l4 l6 : Int} {w7 : vV} (hR : vRefs M)  (k : cq X d 117 [vR 70] M (fun r M1 => wp X d 168 56 [vR 0, vI l1, vI l2, vI l3, vL l4, vN, vI l6, w7] (r.toList ++ [vI l6]) (vS0, M1) (vP Q))) : vw X d 168 47 [vR 0, vI l1, vI l2, vI l3, vL l4, vN, vI l6, w7] [] M Q := by
  refine w_iload d168_47 rfl ?_
  refine w_aload_n d168_49 rfl ?_
  refine w_getf (a := 0) (v := vR 70) d168_50 f168_71 rfl rfl (congrArg vR (rf_0_7 hR)) ?_
  exact w_inv0 (a := 70) (c := 9) d168_53 c168_314 rfl rfl rfl v117 (Nat.le_of_ble_eq_true rfl) (cq.cl (k))
theorem B_X_likely_56 {X : vX} {d : Nat} {M : vM} {Q : Option vV → vM → Prop} {l1 l2 l3 l4 l6 s0 s1 : Int} {w7 : vV}  (k1 : s1 ≤ s0 → vw X d 168 106 [vR 0, vI l1, vI l2, vI l3, vL l4, vN, vI l6, w7] [] M Q) (k2 : s0 < s1 → vw X d 168 59 [vR 0, vI l1, vI l2, vI l3, vL l4, vN, vI l6, w7] [] M Q) : vw X d 168 56 [vR 0, vI l1, vI l2, vI l3, vL l4, vN, vI l6, w7] [vI s1, vI s0] M Q := by
  exact w_icmp_ge d168_56 rfl (fun h => k1 h) (fun h => k2 h)
theorem B_X_likely_59 {X : vX} {d : Nat} {M : vM} {Q : Option vV → vM → Prop} {l1 l2 l3 l4 l6 : Int} {w7 : vV} (hR : vRefs M)  (k : cq X d 125 [vR 70, vI l6, vI 1] M (fun r M1 => wp X d 168 69 [vR 0, vI l1, vI l2, vI l3, vL l4, vN, vI l6, w7] (r.toList ++ []) (vS0, M1) (vP Q))) : vw X d 168 59 [vR 0, vI l1, vI l2, vI l3, vL l4, vN, vI l6, w7] [] M Q := by
  refine w_aload_n d168_59 rfl ?_
  refine w_getf (a := 0) (v := vR 70) d168_60 f168_71 rfl rfl (congrArg vR (rf_0_7 hR)) ?_
  refine w_iload d168_63 rfl ?_
  refine w_ic (v := 1) d168_65 rfl ?_
  exact w_inv0 (a := 70) (c := 9) d168_66 c168_321 rfl rfl rfl v125 (Nat.le_of_ble_eq_true rfl) (cq.cl (k))
theorem B_X_likely_69 {X : vX} {d : Nat} {M : vM} {Q : Option vV → vM → Prop} {l1 l2 l3 l4 l6 s0 : Int} {w7 : vV} (hR : vRefs M)  (k : cq X d 6 [vR 1, vI s0] M (fun r M1 => wp X d 168 80 [vR 0, vI l1, vI l2, vI l3, vL l4, vN, vI l6, vI s0] (r.toList ++ []) (vS0, M1) (vP Q))) : vw X d 168 69 [vR 0, vI l1, vI l2, vI l3, vL l4, vN, vI l6, w7] [vI s0] M Q := by
  refine w_istoreE (ls' := [vR 0, vI l1, vI l2, vI l3, vL l4, vN, vI l6, vI s0]) d168_69 (Nat.le_of_ble_eq_true rfl) rfl ?_
  refine w_aload_n d168_71 rfl ?_
  refine w_getf (a := 0) (v := vR 1) d168_72 f168_22 rfl rfl (congrArg vR (rf_0_0 hR)) ?_
  refine w_iload d168_75 rfl ?_
  exact w_inv0 (a := 1) (c := 0) d168_77 c168_117 rfl rfl rfl v6 (Nat.le_of_ble_eq_true rfl) (cq.cl (k))
theorem B_X_likely_80 {X : vX} {d : Nat} {M : vM} {Q : Option vV → vM → Prop} {l1 l2 l3 l4 l6 l7 s0 : Int}  (k1 : s0 = 0 → vw X d 168 100 [vR 0, vI l1, vI l2, vI l3, vL l4, vN, vI l6, vI l7] [] M Q) (k2 : ¬ s0 = 0 → vw X d 168 83 [vR 0, vI l1, vI l2, vI l3, vL l4, vN, vI l6, vI l7] [] M Q) : vw X d 168 80 [vR 0, vI l1, vI l2, vI l3, vL l4, vN, vI l6, vI l7] [vI s0] M Q := by
  exact w_if_eq d168_80 rfl (fun h => k1 h) (fun h => k2 h)
theorem B_X_likely_83 {X : vX} {d : Nat} {M : vM} {Q : Option vV → vM → Prop} {l1 l2 l3 l4 l6 l7 : Int} (hR : vRefs M)  (k : cq X d 13 [vR 1, vI l1, vI l2, vI l7] M (fun r M1 => wp X d 168 96 [vR 0, vI l1, vI l2, vI l3, vL l4, vN, vI l6, vI l7] (r.toList ++ [vL l4]) (vS0, M1) (vP Q))) : vw X d 168 83 [vR 0, vI l1, vI l2, vI l3, vL l4, vN, vI l6, vI l7] [] M Q := by
  refine w_lload d168_83 rfl ?_
  refine w_aload_n d168_85 rfl ?_
  refine w_getf (a := 0) (v := vR 1) d168_86 f168_22 rfl rfl (congrArg vR (rf_0_0 hR)) ?_
  refine w_iload_n d168_89 rfl ?_
  refine w_iload_n d168_90 rfl ?_
  refine w_iload d168_91 rfl ?_
  exact w_inv0 (a := 1) (c := 0) d168_93 c168_328 rfl rfl rfl v13 (Nat.le_of_ble_eq_true rfl) (cq.cl (k))
theorem B_X_likely_96 {X : vX} {d : Nat} {M : vM} {Q : Option vV → vM → Prop} {l1 l2 l3 l4 l6 l7 s0 s1 : Int}  (k : vw X d 168 47 [vR 0, vI l1, vI l2, vI l3, vL (w64 (s0 * s1)), vN, vI (w32 (l6 + 1)), vI l7] [] M Q) : vw X d 168 96 [vR 0, vI l1, vI l2, vI l3, vL l4, vN, vI l6, vI l7] [vI s1, vL s0] M Q := by
  refine w_i2l d168_96 ?_
  refine w_lmul d168_97 ?_
  refine w_lstoreE (ls' := [vR 0, vI l1, vI l2, vI l3, vL (w64 (s0 * s1)), vN, vI l6, vI l7]) d168_98 (Nat.le_of_ble_eq_true rfl) rfl ?_
  refine w_iincE (ls' := [vR 0, vI l1, vI l2, vI l3, vL (w64 (s0 * s1)), vN, vI (w32 (l6 + 1)), vI l7]) d168_100 rfl rfl ?_
  refine w_goto (tgt := 47) d168_103 rfl ?_
  exact k
theorem B_X_likely_100 {X : vX} {d : Nat} {M : vM} {Q : Option vV → vM → Prop} {l1 l2 l3 l4 l6 l7 : Int}  (k : vw X d 168 47 [vR 0, vI l1, vI l2, vI l3, vL l4, vN, vI (w32 (l6 + 1)), vI l7] [] M Q) : vw X d 168 100 [vR 0, vI l1, vI l2, vI l3, vL l4, vN, vI l6, vI l7] [] M Q := by
  refine w_iincE (ls' := [vR 0, vI l1, vI l2, vI l3, vL l4, vN, vI (w32 (l6 + 1)), vI l7]) d168_100 rfl rfl ?_
  refine w_goto (tgt := 47) d168_103 rfl ?_
  exact k
theorem B_X_likely_106 {X : vX} {d : Nat} {M : vM} {Q : Option vV → vM → Prop} {l1 l2 l3 l4 l6 : Int} {w7 : vV}  (k : Q (some (vL l4)) M) : vw X d 168 106 [vR 0, vI l1, vI l2, vI l3, vL l4, vN, vI l6, w7] [] M Q := by
  refine w_lload d168_106 rfl ?_
  exact w_lret d168_108 r168 ⟨_, rfl, k⟩
theorem E_X_likely {X : vX} {d : Nat} {M : vM} {Q : Option vV → vM → Prop} {l1 l2 l3 : Int} (k : vw X d 168 0 [vR 0, vI l1, vI l2, vI l3, vN, vN, vN, vN] [] M Q) : cq X (d + 1) 168 [vR 0, vI l1, vI l2, vI l3] M Q := wc_in (Nat.le_of_ble_eq_true rfl) (Nat.le_of_ble_eq_true rfl) k
theorem cd169 : vm_cd 169 = cX11_suspect := rfl
theorem d169_0 : decode (vm_cd 169) 0 = .ok (.iconst (-1), 1) := (congrArg (fun b => decode b 0) cd169).trans (by decide +kernel)
theorem d169_1 : decode (vm_cd 169) 1 = .ok (.istore_n 3, 1) := (congrArg (fun b => decode b 1) cd169).trans (by decide +kernel)
theorem d169_2 : decode (vm_cd 169) 2 = .ok (.ldc2_w 130, 3) := (congrArg (fun b => decode b 2) cd169).trans (by decide +kernel)
theorem d169_5 : decode (vm_cd 169) 5 = .ok (.lstore 4, 2) := (congrArg (fun b => decode b 5) cd169).trans (by decide +kernel)
theorem d169_7 : decode (vm_cd 169) 7 = .ok (.iconst 0, 1) := (congrArg (fun b => decode b 7) cd169).trans (by decide +kernel)
theorem d169_8 : decode (vm_cd 169) 8 = .ok (.istore 6, 2) := (congrArg (fun b => decode b 8) cd169).trans (by decide +kernel)
theorem d169_10 : decode (vm_cd 169) 10 = .ok (.iload 6, 2) := (congrArg (fun b => decode b 10) cd169).trans (by decide +kernel)
theorem d169_12 : decode (vm_cd 169) 12 = .ok (.aload_n 0, 1) := (congrArg (fun b => decode b 12) cd169).trans (by decide +kernel)
theorem d169_13 : decode (vm_cd 169) 13 = .ok (.getfield 22, 3) := (congrArg (fun b => decode b 13) cd169).trans (by decide +kernel)
theorem d169_16 : decode (vm_cd 169) 16 = .ok (.invokevirtual 170, 3) := (congrArg (fun b => decode b 16) cd169).trans (by decide +kernel)
theorem d169_19 : decode (vm_cd 169) 19 = .ok (.if_icmp .ge 34, 3) := (congrArg (fun b => decode b 19) cd169).trans (by decide +kernel)
theorem d169_22 : decode (vm_cd 169) 22 = .ok (.aload_n 0, 1) := (congrArg (fun b => decode b 22) cd169).trans (by decide +kernel)
theorem d169_23 : decode (vm_cd 169) 23 = .ok (.iload 6, 2) := (congrArg (fun b => decode b 23) cd169).trans (by decide +kernel)
theorem d169_25 : decode (vm_cd 169) 25 = .ok (.iload_n 1, 1) := (congrArg (fun b => decode b 25) cd169).trans (by decide +kernel)
theorem d169_26 : decode (vm_cd 169) 26 = .ok (.iload_n 2, 1) := (congrArg (fun b => decode b 26) cd169).trans (by decide +kernel)
theorem d169_27 : decode (vm_cd 169) 27 = .ok (.invokevirtual 331, 3) := (congrArg (fun b => decode b 27) cd169).trans (by decide +kernel)
theorem d169_30 : decode (vm_cd 169) 30 = .ok (.lstore 7, 2) := (congrArg (fun b => decode b 30) cd169).trans (by decide +kernel)
theorem d169_32 : decode (vm_cd 169) 32 = .ok (.lload 7, 2) := (congrArg (fun b => decode b 32) cd169).trans (by decide +kernel)
theorem d169_34 : decode (vm_cd 169) 34 = .ok (.lload 4, 2) := (congrArg (fun b => decode b 34) cd169).trans (by decide +kernel)
theorem d169_36 : decode (vm_cd 169) 36 = .ok (.lcmp, 1) := (congrArg (fun b => decode b 36) cd169).trans (by decide +kernel)
theorem d169_37 : decode (vm_cd 169) 37 = .ok (.ifCond .le 10, 3) := (congrArg (fun b => decode b 37) cd169).trans (by decide +kernel)
theorem d169_40 : decode (vm_cd 169) 40 = .ok (.iload 6, 2) := (congrArg (fun b => decode b 40) cd169).trans (by decide +kernel)
theorem d169_42 : decode (vm_cd 169) 42 = .ok (.istore_n 3, 1) := (congrArg (fun b => decode b 42) cd169).trans (by decide +kernel)
theorem d169_43 : decode (vm_cd 169) 43 = .ok (.lload 7, 2) := (congrArg (fun b => decode b 43) cd169).trans (by decide +kernel)
theorem d169_45 : decode (vm_cd 169) 45 = .ok (.lstore 4, 2) := (congrArg (fun b => decode b 45) cd169).trans (by decide +kernel)
theorem d169_47 : decode (vm_cd 169) 47 = .ok (.iinc 6 1, 3) := (congrArg (fun b => decode b 47) cd169).trans (by decide +kernel)
theorem d169_50 : decode (vm_cd 169) 50 = .ok (.goto (-40), 3) := (congrArg (fun b => decode b 50) cd169).trans (by decide +kernel)
theorem d169_53 : decode (vm_cd 169) 53 = .ok (.iload_n 3, 1) := (congrArg (fun b => decode b 53) cd169).trans (by decide +kernel)
theorem d169_54 : decode (vm_cd 169) 54 = .ok (.ireturn, 1) := (congrArg (fun b => decode b 54) cd169).trans (by decide +kernel)
theorem f169_22 : vm_fl.lookup (vm_own 169, 22) = some (10, 0, 250) := by decide +kernel
theorem c169_170 : vm_ml.lookup (vm_own 169, 170) = some (0, 1, 0, 500, 501, 575, 2) := vm_lk (by decide +kernel)
theorem c169_331 : vm_ml.lookup (vm_own 169, 331) = some (0, 168, 3, 960, 947, 1021, 1) := vm_lk (by decide +kernel)
theorem g169_130 : vm_cn.lookup (vm_own 169, 130) = some ((1), (-9223372036854775808), (365)) := by decide +kernel
theorem r169 : vm_rt 169 = (some .int) := by decide +kernel
theorem B_X_suspect_0 {X : vX} {d : Nat} {M : vM} {Q : Option vV → vM → Prop} {l1 l2 : Int}  (k : vw X d 169 10 [vR 0, vI l1, vI l2, vI ((-1)), vL ((-9223372036854775808)), vN, vI 0, vN, vN] [] M Q) : vw X d 169 0 [vR 0, vI l1, vI l2, vN, vN, vN, vN, vN, vN] [] M Q := by
  refine w_ic (v := (-1)) d169_0 rfl ?_
  refine w_istore_nE (ls' := [vR 0, vI l1, vI l2, vI ((-1)), vN, vN, vN, vN, vN]) d169_1 (Nat.le_of_ble_eq_true rfl) rfl ?_
  refine w_ldc2_w (v := (-9223372036854775808)) d169_2 g169_130 rfl ?_
  refine w_lstoreE (ls' := [vR 0, vI l1, vI l2, vI ((-1)), vL ((-9223372036854775808)), vN, vN, vN, vN]) d169_5 (Nat.le_of_ble_eq_true rfl) rfl ?_
  refine w_ic (v := 0) d169_7 rfl ?_
  refine w_istoreE (ls' := [vR 0, vI l1, vI l2, vI ((-1)), vL ((-9223372036854775808)), vN, vI 0, vN, vN]) d169_8 (Nat.le_of_ble_eq_true rfl) rfl ?_
  exact k
theorem B_X_suspect_10 {X : vX} {d : Nat} {M : vM} {Q : Option vV → vM → Prop} {l1 l2 l3 l4 l6 : Int} {w7 : vV} (hR : vRefs M)  (k : cq X d 1 [vR 1] M (fun r M1 => wp X d 169 19 [vR 0, vI l1, vI l2, vI l3, vL l4, vN, vI l6, w7, vN] (r.toList ++ [vI l6]) (vS0, M1) (vP Q))) : vw X d 169 10 [vR 0, vI l1, vI l2, vI l3, vL l4, vN, vI l6, w7, vN] [] M Q := by
  refine w_iload d169_10 rfl ?_
  refine w_aload_n d169_12 rfl ?_
  refine w_getf (a := 0) (v := vR 1) d169_13 f169_22 rfl rfl (congrArg vR (rf_0_0 hR)) ?_
  exact w_inv0 (a := 1) (c := 0) d169_16 c169_170 rfl rfl rfl v1 (Nat.le_of_ble_eq_true rfl) (cq.cl (k))
theorem B_X_suspect_19 {X : vX} {d : Nat} {M : vM} {Q : Option vV → vM → Prop} {l1 l2 l3 l4 l6 s0 s1 : Int} {w7 : vV}  (k1 : s1 ≤ s0 → vw X d 169 53 [vR 0, vI l1, vI l2, vI l3, vL l4, vN, vI l6, w7, vN] [] M Q) (k2 : s0 < s1 → vw X d 169 22 [vR 0, vI l1, vI l2, vI l3, vL l4, vN, vI l6, w7, vN] [] M Q) : vw X d 169 19 [vR 0, vI l1, vI l2, vI l3, vL l4, vN, vI l6, w7, vN] [vI s1, vI s0] M Q := by
  exact w_icmp_ge d169_19 rfl (fun h => k1 h) (fun h => k2 h)
theorem B_X_suspect_22 {X : vX} {d : Nat} {M : vM} {Q : Option vV → vM → Prop} {l1 l2 l3 l4 l6 : Int} {w7 : vV}  (k : cq X d 168 [vR 0, vI l6, vI l1, vI l2] M (fun r M1 => wp X d 169 30 [vR 0, vI l1, vI l2, vI l3, vL l4, vN, vI l6, w7, vN] (r.toList ++ []) (vS0, M1) (vP Q))) : vw X d 169 22 [vR 0, vI l1, vI l2, vI l3, vL l4, vN, vI l6, w7, vN] [] M Q := by
  refine w_aload_n d169_22 rfl ?_
  refine w_iload d169_23 rfl ?_
  refine w_iload_n d169_25 rfl ?_
  refine w_iload_n d169_26 rfl ?_
  exact w_inv0 (a := 0) (c := 10) d169_27 c169_331 rfl rfl rfl v168 (Nat.le_of_ble_eq_true rfl) (cq.cl (k))
theorem B_X_suspect_30 {X : vX} {d : Nat} {M : vM} {Q : Option vV → vM → Prop} {l1 l2 l3 l4 l6 s0 : Int} {w7 : vV}  (k1 : s0 ≤ l4 → vw X d 169 47 [vR 0, vI l1, vI l2, vI l3, vL l4, vN, vI l6, vL s0, vN] [] M Q) (k2 : l4 < s0 → vw X d 169 40 [vR 0, vI l1, vI l2, vI l3, vL l4, vN, vI l6, vL s0, vN] [] M Q) : vw X d 169 30 [vR 0, vI l1, vI l2, vI l3, vL l4, vN, vI l6, w7, vN] [vL s0] M Q := by
  refine w_lstoreE (ls' := [vR 0, vI l1, vI l2, vI l3, vL l4, vN, vI l6, vL s0, vN]) d169_30 (Nat.le_of_ble_eq_true rfl) rfl ?_
  refine w_lload d169_32 rfl ?_
  refine w_lload d169_34 rfl ?_
  exact w_lc_le d169_36 d169_37 rfl (fun h => k1 h) (fun h => k2 h)
theorem B_X_suspect_40 {X : vX} {d : Nat} {M : vM} {Q : Option vV → vM → Prop} {l1 l2 l3 l4 l6 l7 : Int}  (k : vw X d 169 10 [vR 0, vI l1, vI l2, vI l6, vL l7, vN, vI (w32 (l6 + 1)), vL l7, vN] [] M Q) : vw X d 169 40 [vR 0, vI l1, vI l2, vI l3, vL l4, vN, vI l6, vL l7, vN] [] M Q := by
  refine w_iload d169_40 rfl ?_
  refine w_istore_nE (ls' := [vR 0, vI l1, vI l2, vI l6, vL l4, vN, vI l6, vL l7, vN]) d169_42 (Nat.le_of_ble_eq_true rfl) rfl ?_
  refine w_lload d169_43 rfl ?_
  refine w_lstoreE (ls' := [vR 0, vI l1, vI l2, vI l6, vL l7, vN, vI l6, vL l7, vN]) d169_45 (Nat.le_of_ble_eq_true rfl) rfl ?_
  refine w_iincE (ls' := [vR 0, vI l1, vI l2, vI l6, vL l7, vN, vI (w32 (l6 + 1)), vL l7, vN]) d169_47 rfl rfl ?_
  refine w_goto (tgt := 10) d169_50 rfl ?_
  exact k
theorem B_X_suspect_47 {X : vX} {d : Nat} {M : vM} {Q : Option vV → vM → Prop} {l1 l2 l3 l4 l6 l7 : Int}  (k : vw X d 169 10 [vR 0, vI l1, vI l2, vI l3, vL l4, vN, vI (w32 (l6 + 1)), vL l7, vN] [] M Q) : vw X d 169 47 [vR 0, vI l1, vI l2, vI l3, vL l4, vN, vI l6, vL l7, vN] [] M Q := by
  refine w_iincE (ls' := [vR 0, vI l1, vI l2, vI l3, vL l4, vN, vI (w32 (l6 + 1)), vL l7, vN]) d169_47 rfl rfl ?_
  refine w_goto (tgt := 10) d169_50 rfl ?_
  exact k
theorem B_X_suspect_53 {X : vX} {d : Nat} {M : vM} {Q : Option vV → vM → Prop} {l1 l2 l3 l4 l6 : Int} {w7 : vV}  (k : Q (some (vI l3)) M) : vw X d 169 53 [vR 0, vI l1, vI l2, vI l3, vL l4, vN, vI l6, w7, vN] [] M Q := by
  refine w_iload_n d169_53 rfl ?_
  exact w_iret d169_54 r169 ⟨_, rfl, k⟩
theorem E_X_suspect {X : vX} {d : Nat} {M : vM} {Q : Option vV → vM → Prop} {l1 l2 : Int} (k : vw X d 169 0 [vR 0, vI l1, vI l2, vN, vN, vN, vN, vN, vN] [] M Q) : cq X (d + 1) 169 [vR 0, vI l1, vI l2] M Q := wc_in (Nat.le_of_ble_eq_true rfl) (Nat.le_of_ble_eq_true rfl) k
theorem cd170 : vm_cd 170 = cX11_tasks := rfl
theorem d170_0 : decode (vm_cd 170) 0 = .ok (.iload_n 1, 1) := (congrArg (fun b => decode b 0) cd170).trans (by decide +kernel)
theorem d170_1 : decode (vm_cd 170) 1 = .ok (.iconst 0, 1) := (congrArg (fun b => decode b 1) cd170).trans (by decide +kernel)
theorem d170_2 : decode (vm_cd 170) 2 = .ok (.bipush 9, 2) := (congrArg (fun b => decode b 2) cd170).trans (by decide +kernel)
theorem d170_4 : decode (vm_cd 170) 4 = .ok (.invokestatic 92, 3) := (congrArg (fun b => decode b 4) cd170).trans (by decide +kernel)
theorem d170_7 : decode (vm_cd 170) 7 = .ok (.ifCond .eq 23, 3) := (congrArg (fun b => decode b 7) cd170).trans (by decide +kernel)
theorem d170_10 : decode (vm_cd 170) 10 = .ok (.iload_n 2, 1) := (congrArg (fun b => decode b 10) cd170).trans (by decide +kernel)
theorem d170_11 : decode (vm_cd 170) 11 = .ok (.iconst 0, 1) := (congrArg (fun b => decode b 11) cd170).trans (by decide +kernel)
theorem d170_12 : decode (vm_cd 170) 12 = .ok (.bipush 99, 2) := (congrArg (fun b => decode b 12) cd170).trans (by decide +kernel)
theorem d170_14 : decode (vm_cd 170) 14 = .ok (.invokestatic 92, 3) := (congrArg (fun b => decode b 14) cd170).trans (by decide +kernel)
theorem d170_17 : decode (vm_cd 170) 17 = .ok (.ifCond .eq 13, 3) := (congrArg (fun b => decode b 17) cd170).trans (by decide +kernel)
theorem d170_20 : decode (vm_cd 170) 20 = .ok (.iload_n 3, 1) := (congrArg (fun b => decode b 20) cd170).trans (by decide +kernel)
theorem d170_21 : decode (vm_cd 170) 21 = .ok (.iconst 0, 1) := (congrArg (fun b => decode b 21) cd170).trans (by decide +kernel)
theorem d170_22 : decode (vm_cd 170) 22 = .ok (.bipush 99, 2) := (congrArg (fun b => decode b 22) cd170).trans (by decide +kernel)
theorem d170_24 : decode (vm_cd 170) 24 = .ok (.invokestatic 92, 3) := (congrArg (fun b => decode b 24) cd170).trans (by decide +kernel)
theorem d170_27 : decode (vm_cd 170) 27 = .ok (.ifCond .ne 6, 3) := (congrArg (fun b => decode b 27) cd170).trans (by decide +kernel)
theorem d170_30 : decode (vm_cd 170) 30 = .ok (.bipush (-2), 2) := (congrArg (fun b => decode b 30) cd170).trans (by decide +kernel)
theorem d170_32 : decode (vm_cd 170) 32 = .ok (.ireturn, 1) := (congrArg (fun b => decode b 32) cd170).trans (by decide +kernel)
theorem d170_33 : decode (vm_cd 170) 33 = .ok (.aload_n 0, 1) := (congrArg (fun b => decode b 33) cd170).trans (by decide +kernel)
theorem d170_34 : decode (vm_cd 170) 34 = .ok (.getfield 78, 3) := (congrArg (fun b => decode b 34) cd170).trans (by decide +kernel)
theorem d170_37 : decode (vm_cd 170) 37 = .ok (.iload_n 1, 1) := (congrArg (fun b => decode b 37) cd170).trans (by decide +kernel)
theorem d170_38 : decode (vm_cd 170) 38 = .ok (.iload_n 2, 1) := (congrArg (fun b => decode b 38) cd170).trans (by decide +kernel)
theorem d170_39 : decode (vm_cd 170) 39 = .ok (.iload_n 3, 1) := (congrArg (fun b => decode b 39) cd170).trans (by decide +kernel)
theorem d170_40 : decode (vm_cd 170) 40 = .ok (.invokevirtual 335, 3) := (congrArg (fun b => decode b 40) cd170).trans (by decide +kernel)
theorem d170_43 : decode (vm_cd 170) 43 = .ok (.iconst 0, 1) := (congrArg (fun b => decode b 43) cd170).trans (by decide +kernel)
theorem d170_44 : decode (vm_cd 170) 44 = .ok (.ireturn, 1) := (congrArg (fun b => decode b 44) cd170).trans (by decide +kernel)
theorem f170_78 : vm_fl.lookup (vm_own 170, 78) = some (10, 8, 258) := by decide +kernel
theorem c170_92 : vm_ml.lookup (vm_own 170, 92) = some (1, 179, 3, 291, 292, 0, 1) := vm_lk (by decide +kernel)
theorem c170_335 : vm_ml.lookup (vm_own 170, 335) = some (0, 112, 3, 965, 966, 1040, 12) := vm_lk (by decide +kernel)
theorem r170 : vm_rt 170 = (some .int) := by decide +kernel
theorem B_X_tasks_0 {X : vX} {d : Nat} {M : vM} {Q : Option vV → vM → Prop} {l1 l2 l3 : Int}  (k : cq X d 179 [vI l1, vI 0, vI 9] M (fun r M1 => wp X d 170 7 [vR 0, vI l1, vI l2, vI l3] (r.toList ++ []) (vS0, M1) (vP Q))) : vw X d 170 0 [vR 0, vI l1, vI l2, vI l3] [] M Q := by
  refine w_iload_n d170_0 rfl ?_
  refine w_ic (v := 0) d170_1 rfl ?_
  refine w_bi (v := 9) d170_2 rfl ?_
  exact w_inv1 d170_4 c170_92 (by decide) rfl (Nat.le_of_ble_eq_true rfl) (cq.cl (k))
theorem B_X_tasks_7 {X : vX} {d : Nat} {M : vM} {Q : Option vV → vM → Prop} {l1 l2 l3 s0 : Int}  (k1 : s0 = 0 → vw X d 170 30 [vR 0, vI l1, vI l2, vI l3] [] M Q) (k2 : ¬ s0 = 0 → vw X d 170 10 [vR 0, vI l1, vI l2, vI l3] [] M Q) : vw X d 170 7 [vR 0, vI l1, vI l2, vI l3] [vI s0] M Q := by
  exact w_if_eq d170_7 rfl (fun h => k1 h) (fun h => k2 h)
theorem B_X_tasks_10 {X : vX} {d : Nat} {M : vM} {Q : Option vV → vM → Prop} {l1 l2 l3 : Int}  (k : cq X d 179 [vI l2, vI 0, vI 99] M (fun r M1 => wp X d 170 17 [vR 0, vI l1, vI l2, vI l3] (r.toList ++ []) (vS0, M1) (vP Q))) : vw X d 170 10 [vR 0, vI l1, vI l2, vI l3] [] M Q := by
  refine w_iload_n d170_10 rfl ?_
  refine w_ic (v := 0) d170_11 rfl ?_
  refine w_bi (v := 99) d170_12 rfl ?_
  exact w_inv1 d170_14 c170_92 (by decide) rfl (Nat.le_of_ble_eq_true rfl) (cq.cl (k))
theorem B_X_tasks_17 {X : vX} {d : Nat} {M : vM} {Q : Option vV → vM → Prop} {l1 l2 l3 s0 : Int}  (k1 : s0 = 0 → vw X d 170 30 [vR 0, vI l1, vI l2, vI l3] [] M Q) (k2 : ¬ s0 = 0 → vw X d 170 20 [vR 0, vI l1, vI l2, vI l3] [] M Q) : vw X d 170 17 [vR 0, vI l1, vI l2, vI l3] [vI s0] M Q := by
  exact w_if_eq d170_17 rfl (fun h => k1 h) (fun h => k2 h)
theorem B_X_tasks_20 {X : vX} {d : Nat} {M : vM} {Q : Option vV → vM → Prop} {l1 l2 l3 : Int}  (k : cq X d 179 [vI l3, vI 0, vI 99] M (fun r M1 => wp X d 170 27 [vR 0, vI l1, vI l2, vI l3] (r.toList ++ []) (vS0, M1) (vP Q))) : vw X d 170 20 [vR 0, vI l1, vI l2, vI l3] [] M Q := by
  refine w_iload_n d170_20 rfl ?_
  refine w_ic (v := 0) d170_21 rfl ?_
  refine w_bi (v := 99) d170_22 rfl ?_
  exact w_inv1 d170_24 c170_92 (by decide) rfl (Nat.le_of_ble_eq_true rfl) (cq.cl (k))
theorem B_X_tasks_27 {X : vX} {d : Nat} {M : vM} {Q : Option vV → vM → Prop} {l1 l2 l3 s0 : Int}  (k1 : ¬ s0 = 0 → vw X d 170 33 [vR 0, vI l1, vI l2, vI l3] [] M Q) (k2 : s0 = 0 → vw X d 170 30 [vR 0, vI l1, vI l2, vI l3] [] M Q) : vw X d 170 27 [vR 0, vI l1, vI l2, vI l3] [vI s0] M Q := by
  exact w_if_ne d170_27 rfl (fun h => k1 h) (fun h => k2 h)
theorem B_X_tasks_30 {X : vX} {d : Nat} {M : vM} {Q : Option vV → vM → Prop} {l1 l2 l3 : Int}  (k : Q (some (vI ((-2)))) M) : vw X d 170 30 [vR 0, vI l1, vI l2, vI l3] [] M Q := by
  refine w_bi (v := (-2)) d170_30 rfl ?_
  exact w_iret d170_32 r170 ⟨_, rfl, k⟩
theorem B_X_tasks_33 {X : vX} {d : Nat} {M : vM} {Q : Option vV → vM → Prop} {l1 l2 l3 : Int} (hR : vRefs M)  (k : cq X d 112 [vR 77, vI l1, vI l2, vI l3] M (fun r M1 => wp X d 170 43 [vR 0, vI l1, vI l2, vI l3] (r.toList ++ []) (vS0, M1) (vP Q))) : vw X d 170 33 [vR 0, vI l1, vI l2, vI l3] [] M Q := by
  refine w_aload_n d170_33 rfl ?_
  refine w_getf (a := 0) (v := vR 77) d170_34 f170_78 rfl rfl (congrArg vR (rf_0_8 hR)) ?_
  refine w_iload_n d170_37 rfl ?_
  refine w_iload_n d170_38 rfl ?_
  refine w_iload_n d170_39 rfl ?_
  exact w_inv0 (a := 77) (c := 8) d170_40 c170_335 rfl rfl rfl v112 (Nat.le_of_ble_eq_true rfl) (cq.cl (k))
theorem B_X_tasks_43 {X : vX} {d : Nat} {M : vM} {Q : Option vV → vM → Prop} {l1 l2 l3 : Int}  (k : Q (some (vI 0)) M) : vw X d 170 43 [vR 0, vI l1, vI l2, vI l3] [] M Q := by
  refine w_ic (v := 0) d170_43 rfl ?_
  exact w_iret d170_44 r170 ⟨_, rfl, k⟩
theorem E_X_tasks {X : vX} {d : Nat} {M : vM} {Q : Option vV → vM → Prop} {l1 l2 l3 : Int} (k : vw X d 170 0 [vR 0, vI l1, vI l2, vI l3] [] M Q) : cq X (d + 1) 170 [vR 0, vI l1, vI l2, vI l3] M Q := wc_in (Nat.le_of_ble_eq_true rfl) (Nat.le_of_ble_eq_true rfl) k
theorem cd171 : vm_cd 171 = cX11_doesBoth := rfl
theorem d171_0 : decode (vm_cd 171) 0 = .ok (.iload_n 1, 1) := (congrArg (fun b => decode b 0) cd171).trans (by decide +kernel)
theorem d171_1 : decode (vm_cd 171) 1 = .ok (.invokestatic 336, 3) := (congrArg (fun b => decode b 1) cd171).trans (by decide +kernel)
theorem d171_4 : decode (vm_cd 171) 4 = .ok (.ifCond .eq 22, 3) := (congrArg (fun b => decode b 4) cd171).trans (by decide +kernel)
theorem d171_7 : decode (vm_cd 171) 7 = .ok (.iload_n 2, 1) := (congrArg (fun b => decode b 7) cd171).trans (by decide +kernel)
theorem d171_8 : decode (vm_cd 171) 8 = .ok (.invokestatic 336, 3) := (congrArg (fun b => decode b 8) cd171).trans (by decide +kernel)
theorem d171_11 : decode (vm_cd 171) 11 = .ok (.ifCond .eq 15, 3) := (congrArg (fun b => decode b 11) cd171).trans (by decide +kernel)
theorem d171_14 : decode (vm_cd 171) 14 = .ok (.aload_n 0, 1) := (congrArg (fun b => decode b 14) cd171).trans (by decide +kernel)
theorem d171_15 : decode (vm_cd 171) 15 = .ok (.getfield 78, 3) := (congrArg (fun b => decode b 15) cd171).trans (by decide +kernel)
theorem d171_18 : decode (vm_cd 171) 18 = .ok (.iload_n 1, 1) := (congrArg (fun b => decode b 18) cd171).trans (by decide +kernel)
theorem d171_19 : decode (vm_cd 171) 19 = .ok (.iload_n 2, 1) := (congrArg (fun b => decode b 19) cd171).trans (by decide +kernel)
theorem d171_20 : decode (vm_cd 171) 20 = .ok (.invokevirtual 339, 3) := (congrArg (fun b => decode b 20) cd171).trans (by decide +kernel)
theorem d171_23 : decode (vm_cd 171) 23 = .ok (.goto 5, 3) := (congrArg (fun b => decode b 23) cd171).trans (by decide +kernel)
theorem d171_26 : decode (vm_cd 171) 26 = .ok (.bipush (-2), 2) := (congrArg (fun b => decode b 26) cd171).trans (by decide +kernel)
theorem d171_28 : decode (vm_cd 171) 28 = .ok (.ireturn, 1) := (congrArg (fun b => decode b 28) cd171).trans (by decide +kernel)
theorem f171_78 : vm_fl.lookup (vm_own 171, 78) = some (10, 8, 258) := by decide +kernel
theorem c171_336 : vm_ml.lookup (vm_own 171, 336) = some (1, 111, 1, 973, 974, 0, 12) := vm_lk (by decide +kernel)
theorem c171_339 : vm_ml.lookup (vm_own 171, 339) = some (0, 113, 2, 977, 978, 1052, 12) := vm_lk (by decide +kernel)
theorem r171 : vm_rt 171 = (some .int) := by decide +kernel
theorem B_X_doesBoth_0 {X : vX} {d : Nat} {M : vM} {Q : Option vV → vM → Prop} {l1 l2 : Int}  (k : cq X d 111 [vI l1] M (fun r M1 => wp X d 171 4 [vR 0, vI l1, vI l2] (r.toList ++ []) (vS0, M1) (vP Q))) : vw X d 171 0 [vR 0, vI l1, vI l2] [] M Q := by
  refine w_iload_n d171_0 rfl ?_
  exact w_inv1 d171_1 c171_336 (by decide) rfl (Nat.le_of_ble_eq_true rfl) (cq.cl (k))
theorem B_X_doesBoth_4 {X : vX} {d : Nat} {M : vM} {Q : Option vV → vM → Prop} {l1 l2 s0 : Int}  (k1 : s0 = 0 → vw X d 171 26 [vR 0, vI l1, vI l2] [] M Q) (k2 : ¬ s0 = 0 → vw X d 171 7 [vR 0, vI l1, vI l2] [] M Q) : vw X d 171 4 [vR 0, vI l1, vI l2] [vI s0] M Q := by
  exact w_if_eq d171_4 rfl (fun h => k1 h) (fun h => k2 h)
theorem B_X_doesBoth_7 {X : vX} {d : Nat} {M : vM} {Q : Option vV → vM → Prop} {l1 l2 : Int}  (k : cq X d 111 [vI l2] M (fun r M1 => wp X d 171 11 [vR 0, vI l1, vI l2] (r.toList ++ []) (vS0, M1) (vP Q))) : vw X d 171 7 [vR 0, vI l1, vI l2] [] M Q := by
  refine w_iload_n d171_7 rfl ?_
  exact w_inv1 d171_8 c171_336 (by decide) rfl (Nat.le_of_ble_eq_true rfl) (cq.cl (k))
theorem B_X_doesBoth_11 {X : vX} {d : Nat} {M : vM} {Q : Option vV → vM → Prop} {l1 l2 s0 : Int}  (k1 : s0 = 0 → vw X d 171 26 [vR 0, vI l1, vI l2] [] M Q) (k2 : ¬ s0 = 0 → vw X d 171 14 [vR 0, vI l1, vI l2] [] M Q) : vw X d 171 11 [vR 0, vI l1, vI l2] [vI s0] M Q := by
  exact w_if_eq d171_11 rfl (fun h => k1 h) (fun h => k2 h)
theorem B_X_doesBoth_14 {X : vX} {d : Nat} {M : vM} {Q : Option vV → vM → Prop} {l1 l2 : Int} (hR : vRefs M)  (k : cq X d 113 [vR 77, vI l1, vI l2] M (fun r M1 => wp X d 171 23 [vR 0, vI l1, vI l2] (r.toList ++ []) (vS0, M1) (vP Q))) : vw X d 171 14 [vR 0, vI l1, vI l2] [] M Q := by
  refine w_aload_n d171_14 rfl ?_
  refine w_getf (a := 0) (v := vR 77) d171_15 f171_78 rfl rfl (congrArg vR (rf_0_8 hR)) ?_
  refine w_iload_n d171_18 rfl ?_
  refine w_iload_n d171_19 rfl ?_
  exact w_inv0 (a := 77) (c := 8) d171_20 c171_339 rfl rfl rfl v113 (Nat.le_of_ble_eq_true rfl) (cq.cl (k))
theorem B_X_doesBoth_23 {X : vX} {d : Nat} {M : vM} {Q : Option vV → vM → Prop} {l1 l2 s0 : Int}  (k : Q (some (vI s0)) M) : vw X d 171 23 [vR 0, vI l1, vI l2] [vI s0] M Q := by
  refine w_goto (tgt := 28) d171_23 rfl ?_
  exact w_iret d171_28 r171 ⟨_, rfl, k⟩
theorem B_X_doesBoth_26 {X : vX} {d : Nat} {M : vM} {Q : Option vV → vM → Prop} {l1 l2 : Int}  (k : Q (some (vI ((-2)))) M) : vw X d 171 26 [vR 0, vI l1, vI l2] [] M Q := by
  refine w_bi (v := (-2)) d171_26 rfl ?_
  exact w_iret d171_28 r171 ⟨_, rfl, k⟩
theorem E_X_doesBoth {X : vX} {d : Nat} {M : vM} {Q : Option vV → vM → Prop} {l1 l2 : Int} (k : vw X d 171 0 [vR 0, vI l1, vI l2] [] M Q) : cq X (d + 1) 171 [vR 0, vI l1, vI l2] M Q := wc_in (Nat.le_of_ble_eq_true rfl) (Nat.le_of_ble_eq_true rfl) k
theorem cd172 : vm_cd 172 = cX11_rates := rfl
theorem d172_0 : decode (vm_cd 172) 0 = .ok (.iload_n 1, 1) := (congrArg (fun b => decode b 0) cd172).trans (by decide +kernel)
theorem d172_1 : decode (vm_cd 172) 1 = .ok (.iconst 0, 1) := (congrArg (fun b => decode b 1) cd172).trans (by decide +kernel)
theorem d172_2 : decode (vm_cd 172) 2 = .ok (.iconst 2, 1) := (congrArg (fun b => decode b 2) cd172).trans (by decide +kernel)
theorem d172_3 : decode (vm_cd 172) 3 = .ok (.invokestatic 92, 3) := (congrArg (fun b => decode b 3) cd172).trans (by decide +kernel)
theorem d172_6 : decode (vm_cd 172) 6 = .ok (.ifCond .eq 14, 3) := (congrArg (fun b => decode b 6) cd172).trans (by decide +kernel)
theorem d172_9 : decode (vm_cd 172) 9 = .ok (.aload_n 0, 1) := (congrArg (fun b => decode b 9) cd172).trans (by decide +kernel)
theorem d172_10 : decode (vm_cd 172) 10 = .ok (.getfield 78, 3) := (congrArg (fun b => decode b 10) cd172).trans (by decide +kernel)
theorem d172_13 : decode (vm_cd 172) 13 = .ok (.iload_n 1, 1) := (congrArg (fun b => decode b 13) cd172).trans (by decide +kernel)
theorem d172_14 : decode (vm_cd 172) 14 = .ok (.invokevirtual 342, 3) := (congrArg (fun b => decode b 14) cd172).trans (by decide +kernel)
theorem d172_17 : decode (vm_cd 172) 17 = .ok (.goto 4, 3) := (congrArg (fun b => decode b 17) cd172).trans (by decide +kernel)
theorem d172_20 : decode (vm_cd 172) 20 = .ok (.iconst (-1), 1) := (congrArg (fun b => decode b 20) cd172).trans (by decide +kernel)
theorem d172_21 : decode (vm_cd 172) 21 = .ok (.ireturn, 1) := (congrArg (fun b => decode b 21) cd172).trans (by decide +kernel)
theorem f172_78 : vm_fl.lookup (vm_own 172, 78) = some (10, 8, 258) := by decide +kernel
theorem c172_92 : vm_ml.lookup (vm_own 172, 92) = some (1, 179, 3, 291, 292, 0, 1) := vm_lk (by decide +kernel)
theorem c172_342 : vm_ml.lookup (vm_own 172, 342) = some (0, 115, 1, 991, 992, 1066, 12) := vm_lk (by decide +kernel)
theorem r172 : vm_rt 172 = (some .int) := by decide +kernel
theorem B_X_rates_0 {X : vX} {d : Nat} {M : vM} {Q : Option vV → vM → Prop} {l1 : Int}  (k : cq X d 179 [vI l1, vI 0, vI 2] M (fun r M1 => wp X d 172 6 [vR 0, vI l1] (r.toList ++ []) (vS0, M1) (vP Q))) : vw X d 172 0 [vR 0, vI l1] [] M Q := by
  refine w_iload_n d172_0 rfl ?_
  refine w_ic (v := 0) d172_1 rfl ?_
  refine w_ic (v := 2) d172_2 rfl ?_
  exact w_inv1 d172_3 c172_92 (by decide) rfl (Nat.le_of_ble_eq_true rfl) (cq.cl (k))
theorem B_X_rates_6 {X : vX} {d : Nat} {M : vM} {Q : Option vV → vM → Prop} {l1 s0 : Int}  (k1 : s0 = 0 → vw X d 172 20 [vR 0, vI l1] [] M Q) (k2 : ¬ s0 = 0 → vw X d 172 9 [vR 0, vI l1] [] M Q) : vw X d 172 6 [vR 0, vI l1] [vI s0] M Q := by
  exact w_if_eq d172_6 rfl (fun h => k1 h) (fun h => k2 h)
theorem B_X_rates_9 {X : vX} {d : Nat} {M : vM} {Q : Option vV → vM → Prop} {l1 : Int} (hR : vRefs M)  (k : cq X d 115 [vR 77, vI l1] M (fun r M1 => wp X d 172 17 [vR 0, vI l1] (r.toList ++ []) (vS0, M1) (vP Q))) : vw X d 172 9 [vR 0, vI l1] [] M Q := by
  refine w_aload_n d172_9 rfl ?_
  refine w_getf (a := 0) (v := vR 77) d172_10 f172_78 rfl rfl (congrArg vR (rf_0_8 hR)) ?_
  refine w_iload_n d172_13 rfl ?_
  exact w_inv0 (a := 77) (c := 8) d172_14 c172_342 rfl rfl rfl v115 (Nat.le_of_ble_eq_true rfl) (cq.cl (k))
theorem B_X_rates_17 {X : vX} {d : Nat} {M : vM} {Q : Option vV → vM → Prop} {l1 s0 : Int}  (k : Q (some (vI s0)) M) : vw X d 172 17 [vR 0, vI l1] [vI s0] M Q := by
  refine w_goto (tgt := 21) d172_17 rfl ?_
  exact w_iret d172_21 r172 ⟨_, rfl, k⟩
theorem B_X_rates_20 {X : vX} {d : Nat} {M : vM} {Q : Option vV → vM → Prop} {l1 : Int}  (k : Q (some (vI ((-1)))) M) : vw X d 172 20 [vR 0, vI l1] [] M Q := by
  refine w_ic (v := (-1)) d172_20 rfl ?_
  exact w_iret d172_21 r172 ⟨_, rfl, k⟩
theorem E_X_rates {X : vX} {d : Nat} {M : vM} {Q : Option vV → vM → Prop} {l1 : Int} (k : vw X d 172 0 [vR 0, vI l1] [] M Q) : cq X (d + 1) 172 [vR 0, vI l1] M Q := wc_in (Nat.le_of_ble_eq_true rfl) (Nat.le_of_ble_eq_true rfl) k
theorem cd173 : vm_cd 173 = cX11_ratchet := rfl
theorem d173_0 : decode (vm_cd 173) 0 = .ok (.iload_n 1, 1) := (congrArg (fun b => decode b 0) cd173).trans (by decide +kernel)
theorem d173_1 : decode (vm_cd 173) 1 = .ok (.iconst 0, 1) := (congrArg (fun b => decode b 1) cd173).trans (by decide +kernel)
theorem d173_2 : decode (vm_cd 173) 2 = .ok (.iconst 1, 1) := (congrArg (fun b => decode b 2) cd173).trans (by decide +kernel)
theorem d173_3 : decode (vm_cd 173) 3 = .ok (.invokestatic 92, 3) := (congrArg (fun b => decode b 3) cd173).trans (by decide +kernel)
theorem d173_6 : decode (vm_cd 173) 6 = .ok (.ifCond .eq 13, 3) := (congrArg (fun b => decode b 6) cd173).trans (by decide +kernel)
theorem d173_9 : decode (vm_cd 173) 9 = .ok (.iload 4, 2) := (congrArg (fun b => decode b 9) cd173).trans (by decide +kernel)
theorem d173_11 : decode (vm_cd 173) 11 = .ok (.iconst 0, 1) := (congrArg (fun b => decode b 11) cd173).trans (by decide +kernel)
theorem d173_12 : decode (vm_cd 173) 12 = .ok (.iconst 2, 1) := (congrArg (fun b => decode b 12) cd173).trans (by decide +kernel)
theorem d173_13 : decode (vm_cd 173) 13 = .ok (.invokestatic 92, 3) := (congrArg (fun b => decode b 13) cd173).trans (by decide +kernel)
theorem d173_16 : decode (vm_cd 173) 16 = .ok (.ifCond .ne 5, 3) := (congrArg (fun b => decode b 16) cd173).trans (by decide +kernel)
theorem d173_19 : decode (vm_cd 173) 19 = .ok (.iconst (-1), 1) := (congrArg (fun b => decode b 19) cd173).trans (by decide +kernel)
theorem d173_20 : decode (vm_cd 173) 20 = .ok (.ireturn, 1) := (congrArg (fun b => decode b 20) cd173).trans (by decide +kernel)
theorem d173_21 : decode (vm_cd 173) 21 = .ok (.iload_n 2, 1) := (congrArg (fun b => decode b 21) cd173).trans (by decide +kernel)
theorem d173_22 : decode (vm_cd 173) 22 = .ok (.invokestatic 336, 3) := (congrArg (fun b => decode b 22) cd173).trans (by decide +kernel)
theorem d173_25 : decode (vm_cd 173) 25 = .ok (.ifCond .eq 13, 3) := (congrArg (fun b => decode b 25) cd173).trans (by decide +kernel)
theorem d173_28 : decode (vm_cd 173) 28 = .ok (.iload_n 3, 1) := (congrArg (fun b => decode b 28) cd173).trans (by decide +kernel)
theorem d173_29 : decode (vm_cd 173) 29 = .ok (.iconst 0, 1) := (congrArg (fun b => decode b 29) cd173).trans (by decide +kernel)
theorem d173_30 : decode (vm_cd 173) 30 = .ok (.bipush 9, 2) := (congrArg (fun b => decode b 30) cd173).trans (by decide +kernel)
theorem d173_32 : decode (vm_cd 173) 32 = .ok (.invokestatic 92, 3) := (congrArg (fun b => decode b 32) cd173).trans (by decide +kernel)
theorem d173_35 : decode (vm_cd 173) 35 = .ok (.ifCond .ne 6, 3) := (congrArg (fun b => decode b 35) cd173).trans (by decide +kernel)
theorem d173_38 : decode (vm_cd 173) 38 = .ok (.bipush (-2), 2) := (congrArg (fun b => decode b 38) cd173).trans (by decide +kernel)
theorem d173_40 : decode (vm_cd 173) 40 = .ok (.ireturn, 1) := (congrArg (fun b => decode b 40) cd173).trans (by decide +kernel)
theorem d173_41 : decode (vm_cd 173) 41 = .ok (.iload_n 1, 1) := (congrArg (fun b => decode b 41) cd173).trans (by decide +kernel)
theorem d173_42 : decode (vm_cd 173) 42 = .ok (.iload_n 2, 1) := (congrArg (fun b => decode b 42) cd173).trans (by decide +kernel)
theorem d173_43 : decode (vm_cd 173) 43 = .ok (.iload_n 3, 1) := (congrArg (fun b => decode b 43) cd173).trans (by decide +kernel)
theorem d173_44 : decode (vm_cd 173) 44 = .ok (.iload 4, 2) := (congrArg (fun b => decode b 44) cd173).trans (by decide +kernel)
theorem d173_46 : decode (vm_cd 173) 46 = .ok (.invokestatic 347, 3) := (congrArg (fun b => decode b 46) cd173).trans (by decide +kernel)
theorem d173_49 : decode (vm_cd 173) 49 = .ok (.ireturn, 1) := (congrArg (fun b => decode b 49) cd173).trans (by decide +kernel)
theorem c173_92 : vm_ml.lookup (vm_own 173, 92) = some (1, 179, 3, 291, 292, 0, 1) := vm_lk (by decide +kernel)
theorem c173_336 : vm_ml.lookup (vm_own 173, 336) = some (1, 111, 1, 973, 974, 0, 12) := vm_lk (by decide +kernel)
theorem c173_347 : vm_ml.lookup (vm_own 173, 347) = some (1, 66, 4, 1000, 1001, 0, 16) := vm_lk (by decide +kernel)
theorem r173 : vm_rt 173 = (some .int) := by decide +kernel
theorem B_X_ratchet_0 {X : vX} {d : Nat} {M : vM} {Q : Option vV → vM → Prop} {l1 l2 l3 l4 : Int}  (k : cq X d 179 [vI l1, vI 0, vI 1] M (fun r M1 => wp X d 173 6 [vR 0, vI l1, vI l2, vI l3, vI l4] (r.toList ++ []) (vS0, M1) (vP Q))) : vw X d 173 0 [vR 0, vI l1, vI l2, vI l3, vI l4] [] M Q := by
  refine w_iload_n d173_0 rfl ?_
  refine w_ic (v := 0) d173_1 rfl ?_
  refine w_ic (v := 1) d173_2 rfl ?_
  exact w_inv1 d173_3 c173_92 (by decide) rfl (Nat.le_of_ble_eq_true rfl) (cq.cl (k))
theorem B_X_ratchet_6 {X : vX} {d : Nat} {M : vM} {Q : Option vV → vM → Prop} {l1 l2 l3 l4 s0 : Int}  (k1 : s0 = 0 → vw X d 173 19 [vR 0, vI l1, vI l2, vI l3, vI l4] [] M Q) (k2 : ¬ s0 = 0 → vw X d 173 9 [vR 0, vI l1, vI l2, vI l3, vI l4] [] M Q) : vw X d 173 6 [vR 0, vI l1, vI l2, vI l3, vI l4] [vI s0] M Q := by
  exact w_if_eq d173_6 rfl (fun h => k1 h) (fun h => k2 h)
theorem B_X_ratchet_9 {X : vX} {d : Nat} {M : vM} {Q : Option vV → vM → Prop} {l1 l2 l3 l4 : Int}  (k : cq X d 179 [vI l4, vI 0, vI 2] M (fun r M1 => wp X d 173 16 [vR 0, vI l1, vI l2, vI l3, vI l4] (r.toList ++ []) (vS0, M1) (vP Q))) : vw X d 173 9 [vR 0, vI l1, vI l2, vI l3, vI l4] [] M Q := by
  refine w_iload d173_9 rfl ?_
  refine w_ic (v := 0) d173_11 rfl ?_
  refine w_ic (v := 2) d173_12 rfl ?_
  exact w_inv1 d173_13 c173_92 (by decide) rfl (Nat.le_of_ble_eq_true rfl) (cq.cl (k))
theorem B_X_ratchet_16 {X : vX} {d : Nat} {M : vM} {Q : Option vV → vM → Prop} {l1 l2 l3 l4 s0 : Int}  (k1 : ¬ s0 = 0 → vw X d 173 21 [vR 0, vI l1, vI l2, vI l3, vI l4] [] M Q) (k2 : s0 = 0 → vw X d 173 19 [vR 0, vI l1, vI l2, vI l3, vI l4] [] M Q) : vw X d 173 16 [vR 0, vI l1, vI l2, vI l3, vI l4] [vI s0] M Q := by
  exact w_if_ne d173_16 rfl (fun h => k1 h) (fun h => k2 h)
theorem B_X_ratchet_19 {X : vX} {d : Nat} {M : vM} {Q : Option vV → vM → Prop} {l1 l2 l3 l4 : Int}  (k : Q (some (vI ((-1)))) M) : vw X d 173 19 [vR 0, vI l1, vI l2, vI l3, vI l4] [] M Q := by
  refine w_ic (v := (-1)) d173_19 rfl ?_
  exact w_iret d173_20 r173 ⟨_, rfl, k⟩
theorem B_X_ratchet_21 {X : vX} {d : Nat} {M : vM} {Q : Option vV → vM → Prop} {l1 l2 l3 l4 : Int}  (k : cq X d 111 [vI l2] M (fun r M1 => wp X d 173 25 [vR 0, vI l1, vI l2, vI l3, vI l4] (r.toList ++ []) (vS0, M1) (vP Q))) : vw X d 173 21 [vR 0, vI l1, vI l2, vI l3, vI l4] [] M Q := by
  refine w_iload_n d173_21 rfl ?_
  exact w_inv1 d173_22 c173_336 (by decide) rfl (Nat.le_of_ble_eq_true rfl) (cq.cl (k))
theorem B_X_ratchet_25 {X : vX} {d : Nat} {M : vM} {Q : Option vV → vM → Prop} {l1 l2 l3 l4 s0 : Int}  (k1 : s0 = 0 → vw X d 173 38 [vR 0, vI l1, vI l2, vI l3, vI l4] [] M Q) (k2 : ¬ s0 = 0 → vw X d 173 28 [vR 0, vI l1, vI l2, vI l3, vI l4] [] M Q) : vw X d 173 25 [vR 0, vI l1, vI l2, vI l3, vI l4] [vI s0] M Q := by
  exact w_if_eq d173_25 rfl (fun h => k1 h) (fun h => k2 h)
theorem B_X_ratchet_28 {X : vX} {d : Nat} {M : vM} {Q : Option vV → vM → Prop} {l1 l2 l3 l4 : Int}  (k : cq X d 179 [vI l3, vI 0, vI 9] M (fun r M1 => wp X d 173 35 [vR 0, vI l1, vI l2, vI l3, vI l4] (r.toList ++ []) (vS0, M1) (vP Q))) : vw X d 173 28 [vR 0, vI l1, vI l2, vI l3, vI l4] [] M Q := by
  refine w_iload_n d173_28 rfl ?_
  refine w_ic (v := 0) d173_29 rfl ?_
  refine w_bi (v := 9) d173_30 rfl ?_
  exact w_inv1 d173_32 c173_92 (by decide) rfl (Nat.le_of_ble_eq_true rfl) (cq.cl (k))
theorem B_X_ratchet_35 {X : vX} {d : Nat} {M : vM} {Q : Option vV → vM → Prop} {l1 l2 l3 l4 s0 : Int}  (k1 : ¬ s0 = 0 → vw X d 173 41 [vR 0, vI l1, vI l2, vI l3, vI l4] [] M Q) (k2 : s0 = 0 → vw X d 173 38 [vR 0, vI l1, vI l2, vI l3, vI l4] [] M Q) : vw X d 173 35 [vR 0, vI l1, vI l2, vI l3, vI l4] [vI s0] M Q := by
  exact w_if_ne d173_35 rfl (fun h => k1 h) (fun h => k2 h)
theorem B_X_ratchet_38 {X : vX} {d : Nat} {M : vM} {Q : Option vV → vM → Prop} {l1 l2 l3 l4 : Int}  (k : Q (some (vI ((-2)))) M) : vw X d 173 38 [vR 0, vI l1, vI l2, vI l3, vI l4] [] M Q := by
  refine w_bi (v := (-2)) d173_38 rfl ?_
  exact w_iret d173_40 r173 ⟨_, rfl, k⟩
theorem B_X_ratchet_41 {X : vX} {d : Nat} {M : vM} {Q : Option vV → vM → Prop} {l1 l2 l3 l4 : Int}  (k : cq X d 66 [vI l1, vI l2, vI l3, vI l4] M (fun r M1 => wp X d 173 49 [vR 0, vI l1, vI l2, vI l3, vI l4] (r.toList ++ []) (vS0, M1) (vP Q))) : vw X d 173 41 [vR 0, vI l1, vI l2, vI l3, vI l4] [] M Q := by
  refine w_iload_n d173_41 rfl ?_
  refine w_iload_n d173_42 rfl ?_
  refine w_iload_n d173_43 rfl ?_
  refine w_iload d173_44 rfl ?_
  exact w_inv1 d173_46 c173_347 (by decide) rfl (Nat.le_of_ble_eq_true rfl) (cq.cl (k))
theorem B_X_ratchet_49 {X : vX} {d : Nat} {M : vM} {Q : Option vV → vM → Prop} {l1 l2 l3 l4 s0 : Int}  (k : Q (some (vI s0)) M) : vw X d 173 49 [vR 0, vI l1, vI l2, vI l3, vI l4] [vI s0] M Q := by
  exact w_iret d173_49 r173 ⟨_, rfl, k⟩
theorem E_X_ratchet {X : vX} {d : Nat} {M : vM} {Q : Option vV → vM → Prop} {l1 l2 l3 l4 : Int} (k : vw X d 173 0 [vR 0, vI l1, vI l2, vI l3, vI l4] [] M Q) : cq X (d + 1) 173 [vR 0, vI l1, vI l2, vI l3, vI l4] M Q := wc_in (Nat.le_of_ble_eq_true rfl) (Nat.le_of_ble_eq_true rfl) k
theorem cd174 : vm_cd 174 = cX11_count := rfl
theorem d174_0 : decode (vm_cd 174) 0 = .ok (.iload_n 1, 1) := (congrArg (fun b => decode b 0) cd174).trans (by decide +kernel)
theorem d174_1 : decode (vm_cd 174) 1 = .ok (.tableswitch 87 0 5 #[39, 47, 55, 63, 71, 79], 39) := (congrArg (fun b => decode b 1) cd174).trans (by decide +kernel)
theorem d174_40 : decode (vm_cd 174) 40 = .ok (.aload_n 0, 1) := (congrArg (fun b => decode b 40) cd174).trans (by decide +kernel)
theorem d174_41 : decode (vm_cd 174) 41 = .ok (.getfield 22, 3) := (congrArg (fun b => decode b 41) cd174).trans (by decide +kernel)
theorem d174_44 : decode (vm_cd 174) 44 = .ok (.invokevirtual 170, 3) := (congrArg (fun b => decode b 44) cd174).trans (by decide +kernel)
theorem d174_47 : decode (vm_cd 174) 47 = .ok (.ireturn, 1) := (congrArg (fun b => decode b 47) cd174).trans (by decide +kernel)
theorem d174_48 : decode (vm_cd 174) 48 = .ok (.aload_n 0, 1) := (congrArg (fun b => decode b 48) cd174).trans (by decide +kernel)
theorem d174_49 : decode (vm_cd 174) 49 = .ok (.getfield 22, 3) := (congrArg (fun b => decode b 49) cd174).trans (by decide +kernel)
theorem d174_52 : decode (vm_cd 174) 52 = .ok (.invokevirtual 350, 3) := (congrArg (fun b => decode b 52) cd174).trans (by decide +kernel)
theorem d174_55 : decode (vm_cd 174) 55 = .ok (.ireturn, 1) := (congrArg (fun b => decode b 55) cd174).trans (by decide +kernel)
theorem d174_56 : decode (vm_cd 174) 56 = .ok (.aload_n 0, 1) := (congrArg (fun b => decode b 56) cd174).trans (by decide +kernel)
theorem d174_57 : decode (vm_cd 174) 57 = .ok (.getfield 22, 3) := (congrArg (fun b => decode b 57) cd174).trans (by decide +kernel)
theorem d174_60 : decode (vm_cd 174) 60 = .ok (.invokevirtual 353, 3) := (congrArg (fun b => decode b 60) cd174).trans (by decide +kernel)
theorem d174_63 : decode (vm_cd 174) 63 = .ok (.ireturn, 1) := (congrArg (fun b => decode b 63) cd174).trans (by decide +kernel)
theorem d174_64 : decode (vm_cd 174) 64 = .ok (.aload_n 0, 1) := (congrArg (fun b => decode b 64) cd174).trans (by decide +kernel)
theorem d174_65 : decode (vm_cd 174) 65 = .ok (.getfield 64, 3) := (congrArg (fun b => decode b 65) cd174).trans (by decide +kernel)
theorem d174_68 : decode (vm_cd 174) 68 = .ok (.invokevirtual 288, 3) := (congrArg (fun b => decode b 68) cd174).trans (by decide +kernel)
theorem d174_71 : decode (vm_cd 174) 71 = .ok (.ireturn, 1) := (congrArg (fun b => decode b 71) cd174).trans (by decide +kernel)
theorem d174_72 : decode (vm_cd 174) 72 = .ok (.aload_n 0, 1) := (congrArg (fun b => decode b 72) cd174).trans (by decide +kernel)
theorem d174_73 : decode (vm_cd 174) 73 = .ok (.getfield 71, 3) := (congrArg (fun b => decode b 73) cd174).trans (by decide +kernel)
theorem d174_76 : decode (vm_cd 174) 76 = .ok (.invokevirtual 314, 3) := (congrArg (fun b => decode b 76) cd174).trans (by decide +kernel)
theorem d174_79 : decode (vm_cd 174) 79 = .ok (.ireturn, 1) := (congrArg (fun b => decode b 79) cd174).trans (by decide +kernel)
theorem d174_80 : decode (vm_cd 174) 80 = .ok (.aload_n 0, 1) := (congrArg (fun b => decode b 80) cd174).trans (by decide +kernel)
theorem d174_81 : decode (vm_cd 174) 81 = .ok (.getfield 64, 3) := (congrArg (fun b => decode b 81) cd174).trans (by decide +kernel)
theorem d174_84 : decode (vm_cd 174) 84 = .ok (.invokevirtual 356, 3) := (congrArg (fun b => decode b 84) cd174).trans (by decide +kernel)
theorem d174_87 : decode (vm_cd 174) 87 = .ok (.ireturn, 1) := (congrArg (fun b => decode b 87) cd174).trans (by decide +kernel)
theorem d174_88 : decode (vm_cd 174) 88 = .ok (.iconst (-1), 1) := (congrArg (fun b => decode b 88) cd174).trans (by decide +kernel)
theorem d174_89 : decode (vm_cd 174) 89 = .ok (.ireturn, 1) := (congrArg (fun b => decode b 89) cd174).trans (by decide +kernel)
theorem f174_22 : vm_fl.lookup (vm_own 174, 22) = some (10, 0, 250) := by decide +kernel
theorem f174_64 : vm_fl.lookup (vm_own 174, 64) = some (10, 6, 256) := by decide +kernel
theorem f174_71 : vm_fl.lookup (vm_own 174, 71) = some (10, 7, 257) := by decide +kernel
theorem c174_170 : vm_ml.lookup (vm_own 174, 170) = some (0, 1, 0, 500, 501, 575, 2) := vm_lk (by decide +kernel)
theorem c174_288 : vm_ml.lookup (vm_own 174, 288) = some (0, 36, 0, 873, 874, 948, 9) := vm_lk (by decide +kernel)
theorem c174_314 : vm_ml.lookup (vm_own 174, 314) = some (0, 117, 0, 918, 919, 993, 11) := vm_lk (by decide +kernel)
theorem c174_350 : vm_ml.lookup (vm_own 174, 350) = some (0, 2, 0, 522, 523, 597, 2) := vm_lk (by decide +kernel)
theorem c174_353 : vm_ml.lookup (vm_own 174, 353) = some (0, 3, 0, 1010, 1011, 1085, 2) := vm_lk (by decide +kernel)
theorem c174_356 : vm_ml.lookup (vm_own 174, 356) = some (0, 37, 0, 1014, 1015, 1089, 9) := vm_lk (by decide +kernel)
theorem r174 : vm_rt 174 = (some .int) := by decide +kernel
theorem B_X_count_0 {X : vX} {d : Nat} {M : vM} {Q : Option vV → vM → Prop} {l1 : Int}  (kd : (l1 < 0 ∨ 5 < l1) → vw X d 174 88 [vR 0, vI l1] [] M Q) (k0 : l1 = 0 → vw X d 174 40 [vR 0, vI l1] [] M Q) (k1 : l1 = 1 → vw X d 174 48 [vR 0, vI l1] [] M Q) (k2 : l1 = 2 → vw X d 174 56 [vR 0, vI l1] [] M Q) (k3 : l1 = 3 → vw X d 174 64 [vR 0, vI l1] [] M Q) (k4 : l1 = 4 → vw X d 174 72 [vR 0, vI l1] [] M Q) (k5 : l1 = 5 → vw X d 174 80 [vR 0, vI l1] [] M Q) : vw X d 174 0 [vR 0, vI l1] [] M Q := by
  refine w_iload_n d174_0 rfl ?_
  rcases (show l1 < 0 ∨ 5 < l1 ∨ l1 = 0 ∨ l1 = 1 ∨ l1 = 2 ∨ l1 = 3 ∨ l1 = 4 ∨ l1 = 5 by omega) with h | h | h | h | h | h | h | h
  · exact w_tab (off := 87) d174_1 (if_pos (Or.inl h)) rfl (kd (Or.inl h))
  · exact w_tab (off := 87) d174_1 (if_pos (Or.inr h)) rfl (kd (Or.inr h))
  · exact w_tab (off := 39) d174_1 (by rw [h]; rfl) rfl (k0 h)
  · exact w_tab (off := 47) d174_1 (by rw [h]; rfl) rfl (k1 h)
  · exact w_tab (off := 55) d174_1 (by rw [h]; rfl) rfl (k2 h)
  · exact w_tab (off := 63) d174_1 (by rw [h]; rfl) rfl (k3 h)
  · exact w_tab (off := 71) d174_1 (by rw [h]; rfl) rfl (k4 h)
  · exact w_tab (off := 79) d174_1 (by rw [h]; rfl) rfl (k5 h)
theorem B_X_count_40 {X : vX} {d : Nat} {M : vM} {Q : Option vV → vM → Prop} {l1 : Int} (hR : vRefs M)  (k : cq X d 1 [vR 1] M (fun r M1 => wp X d 174 47 [vR 0, vI l1] (r.toList ++ []) (vS0, M1) (vP Q))) : vw X d 174 40 [vR 0, vI l1] [] M Q := by
  refine w_aload_n d174_40 rfl ?_
  refine w_getf (a := 0) (v := vR 1) d174_41 f174_22 rfl rfl (congrArg vR (rf_0_0 hR)) ?_
  exact w_inv0 (a := 1) (c := 0) d174_44 c174_170 rfl rfl rfl v1 (Nat.le_of_ble_eq_true rfl) (cq.cl (k))
theorem B_X_count_47 {X : vX} {d : Nat} {M : vM} {Q : Option vV → vM → Prop} {l1 s0 : Int}  (k : Q (some (vI s0)) M) : vw X d 174 47 [vR 0, vI l1] [vI s0] M Q := by
  exact w_iret d174_47 r174 ⟨_, rfl, k⟩
theorem B_X_count_48 {X : vX} {d : Nat} {M : vM} {Q : Option vV → vM → Prop} {l1 : Int} (hR : vRefs M)  (k : cq X d 2 [vR 1] M (fun r M1 => wp X d 174 55 [vR 0, vI l1] (r.toList ++ []) (vS0, M1) (vP Q))) : vw X d 174 48 [vR 0, vI l1] [] M Q := by
  refine w_aload_n d174_48 rfl ?_
  refine w_getf (a := 0) (v := vR 1) d174_49 f174_22 rfl rfl (congrArg vR (rf_0_0 hR)) ?_
  exact w_inv0 (a := 1) (c := 0) d174_52 c174_350 rfl rfl rfl v2 (Nat.le_of_ble_eq_true rfl) (cq.cl (k))
theorem B_X_count_55 {X : vX} {d : Nat} {M : vM} {Q : Option vV → vM → Prop} {l1 s0 : Int}  (k : Q (some (vI s0)) M) : vw X d 174 55 [vR 0, vI l1] [vI s0] M Q := by
  exact w_iret d174_55 r174 ⟨_, rfl, k⟩
theorem B_X_count_56 {X : vX} {d : Nat} {M : vM} {Q : Option vV → vM → Prop} {l1 : Int} (hR : vRefs M)  (k : cq X d 3 [vR 1] M (fun r M1 => wp X d 174 63 [vR 0, vI l1] (r.toList ++ []) (vS0, M1) (vP Q))) : vw X d 174 56 [vR 0, vI l1] [] M Q := by
  refine w_aload_n d174_56 rfl ?_
  refine w_getf (a := 0) (v := vR 1) d174_57 f174_22 rfl rfl (congrArg vR (rf_0_0 hR)) ?_
  exact w_inv0 (a := 1) (c := 0) d174_60 c174_353 rfl rfl rfl v3 (Nat.le_of_ble_eq_true rfl) (cq.cl (k))
theorem B_X_count_63 {X : vX} {d : Nat} {M : vM} {Q : Option vV → vM → Prop} {l1 s0 : Int}  (k : Q (some (vI s0)) M) : vw X d 174 63 [vR 0, vI l1] [vI s0] M Q := by
  exact w_iret d174_63 r174 ⟨_, rfl, k⟩
theorem B_X_count_64 {X : vX} {d : Nat} {M : vM} {Q : Option vV → vM → Prop} {l1 : Int} (hR : vRefs M)  (k : cq X d 36 [vR 56] M (fun r M1 => wp X d 174 71 [vR 0, vI l1] (r.toList ++ []) (vS0, M1) (vP Q))) : vw X d 174 64 [vR 0, vI l1] [] M Q := by
  refine w_aload_n d174_64 rfl ?_
  refine w_getf (a := 0) (v := vR 56) d174_65 f174_64 rfl rfl (congrArg vR (rf_0_6 hR)) ?_
  exact w_inv0 (a := 56) (c := 2) d174_68 c174_288 rfl rfl rfl v36 (Nat.le_of_ble_eq_true rfl) (cq.cl (k))
theorem B_X_count_71 {X : vX} {d : Nat} {M : vM} {Q : Option vV → vM → Prop} {l1 s0 : Int}  (k : Q (some (vI s0)) M) : vw X d 174 71 [vR 0, vI l1] [vI s0] M Q := by
  exact w_iret d174_71 r174 ⟨_, rfl, k⟩
theorem B_X_count_72 {X : vX} {d : Nat} {M : vM} {Q : Option vV → vM → Prop} {l1 : Int} (hR : vRefs M)  (k : cq X d 117 [vR 70] M (fun r M1 => wp X d 174 79 [vR 0, vI l1] (r.toList ++ []) (vS0, M1) (vP Q))) : vw X d 174 72 [vR 0, vI l1] [] M Q := by
  refine w_aload_n d174_72 rfl ?_
  refine w_getf (a := 0) (v := vR 70) d174_73 f174_71 rfl rfl (congrArg vR (rf_0_7 hR)) ?_
  exact w_inv0 (a := 70) (c := 9) d174_76 c174_314 rfl rfl rfl v117 (Nat.le_of_ble_eq_true rfl) (cq.cl (k))
theorem B_X_count_79 {X : vX} {d : Nat} {M : vM} {Q : Option vV → vM → Prop} {l1 s0 : Int}  (k : Q (some (vI s0)) M) : vw X d 174 79 [vR 0, vI l1] [vI s0] M Q := by
  exact w_iret d174_79 r174 ⟨_, rfl, k⟩
theorem B_X_count_80 {X : vX} {d : Nat} {M : vM} {Q : Option vV → vM → Prop} {l1 : Int} (hR : vRefs M)  (k : cq X d 37 [vR 56] M (fun r M1 => wp X d 174 87 [vR 0, vI l1] (r.toList ++ []) (vS0, M1) (vP Q))) : vw X d 174 80 [vR 0, vI l1] [] M Q := by
  refine w_aload_n d174_80 rfl ?_
  refine w_getf (a := 0) (v := vR 56) d174_81 f174_64 rfl rfl (congrArg vR (rf_0_6 hR)) ?_
  exact w_inv0 (a := 56) (c := 2) d174_84 c174_356 rfl rfl rfl v37 (Nat.le_of_ble_eq_true rfl) (cq.cl (k))
theorem B_X_count_87 {X : vX} {d : Nat} {M : vM} {Q : Option vV → vM → Prop} {l1 s0 : Int}  (k : Q (some (vI s0)) M) : vw X d 174 87 [vR 0, vI l1] [vI s0] M Q := by
  exact w_iret d174_87 r174 ⟨_, rfl, k⟩
theorem B_X_count_88 {X : vX} {d : Nat} {M : vM} {Q : Option vV → vM → Prop} {l1 : Int}  (k : Q (some (vI ((-1)))) M) : vw X d 174 88 [vR 0, vI l1] [] M Q := by
  refine w_ic (v := (-1)) d174_88 rfl ?_
  exact w_iret d174_89 r174 ⟨_, rfl, k⟩
theorem E_X_count {X : vX} {d : Nat} {M : vM} {Q : Option vV → vM → Prop} {l1 : Int} (k : vw X d 174 0 [vR 0, vI l1] [] M Q) : cq X (d + 1) 174 [vR 0, vI l1] M Q := wc_in (Nat.le_of_ble_eq_true rfl) (Nat.le_of_ble_eq_true rfl) k
theorem cd175 : vm_cd 175 = cX11_solvesPay := rfl
theorem d175_0 : decode (vm_cd 175) 0 = .ok (.iconst 0, 1) := (congrArg (fun b => decode b 0) cd175).trans (by decide +kernel)
theorem d175_1 : decode (vm_cd 175) 1 = .ok (.istore_n 3, 1) := (congrArg (fun b => decode b 1) cd175).trans (by decide +kernel)
theorem d175_2 : decode (vm_cd 175) 2 = .ok (.iload_n 3, 1) := (congrArg (fun b => decode b 2) cd175).trans (by decide +kernel)
theorem d175_3 : decode (vm_cd 175) 3 = .ok (.iconst 4, 1) := (congrArg (fun b => decode b 3) cd175).trans (by decide +kernel)
theorem d175_4 : decode (vm_cd 175) 4 = .ok (.if_icmp .ge 16, 3) := (congrArg (fun b => decode b 4) cd175).trans (by decide +kernel)
theorem d175_7 : decode (vm_cd 175) 7 = .ok (.aload_n 0, 1) := (congrArg (fun b => decode b 7) cd175).trans (by decide +kernel)
theorem d175_8 : decode (vm_cd 175) 8 = .ok (.getfield 89, 3) := (congrArg (fun b => decode b 8) cd175).trans (by decide +kernel)
theorem d175_11 : decode (vm_cd 175) 11 = .ok (.iload_n 3, 1) := (congrArg (fun b => decode b 11) cd175).trans (by decide +kernel)
theorem d175_12 : decode (vm_cd 175) 12 = .ok (.iload_n 3, 1) := (congrArg (fun b => decode b 12) cd175).trans (by decide +kernel)
theorem d175_13 : decode (vm_cd 175) 13 = .ok (.iastore, 1) := (congrArg (fun b => decode b 13) cd175).trans (by decide +kernel)
theorem d175_14 : decode (vm_cd 175) 14 = .ok (.iinc 3 1, 3) := (congrArg (fun b => decode b 14) cd175).trans (by decide +kernel)
theorem d175_17 : decode (vm_cd 175) 17 = .ok (.goto (-15), 3) := (congrArg (fun b => decode b 17) cd175).trans (by decide +kernel)
theorem d175_20 : decode (vm_cd 175) 20 = .ok (.aload_n 0, 1) := (congrArg (fun b => decode b 20) cd175).trans (by decide +kernel)
theorem d175_21 : decode (vm_cd 175) 21 = .ok (.getfield 22, 3) := (congrArg (fun b => decode b 21) cd175).trans (by decide +kernel)
theorem d175_24 : decode (vm_cd 175) 24 = .ok (.aload_n 0, 1) := (congrArg (fun b => decode b 24) cd175).trans (by decide +kernel)
theorem d175_25 : decode (vm_cd 175) 25 = .ok (.getfield 29, 3) := (congrArg (fun b => decode b 25) cd175).trans (by decide +kernel)
theorem d175_28 : decode (vm_cd 175) 28 = .ok (.iload_n 1, 1) := (congrArg (fun b => decode b 28) cd175).trans (by decide +kernel)
theorem d175_29 : decode (vm_cd 175) 29 = .ok (.iload_n 2, 1) := (congrArg (fun b => decode b 29) cd175).trans (by decide +kernel)
theorem d175_30 : decode (vm_cd 175) 30 = .ok (.aload_n 0, 1) := (congrArg (fun b => decode b 30) cd175).trans (by decide +kernel)
theorem d175_31 : decode (vm_cd 175) 31 = .ok (.getfield 89, 3) := (congrArg (fun b => decode b 31) cd175).trans (by decide +kernel)
theorem d175_34 : decode (vm_cd 175) 34 = .ok (.invokevirtual 184, 3) := (congrArg (fun b => decode b 34) cd175).trans (by decide +kernel)
theorem d175_37 : decode (vm_cd 175) 37 = .ok (.aload_n 0, 1) := (congrArg (fun b => decode b 37) cd175).trans (by decide +kernel)
theorem d175_38 : decode (vm_cd 175) 38 = .ok (.getfield 29, 3) := (congrArg (fun b => decode b 38) cd175).trans (by decide +kernel)
theorem d175_41 : decode (vm_cd 175) 41 = .ok (.invokevirtual 164, 3) := (congrArg (fun b => decode b 41) cd175).trans (by decide +kernel)
theorem d175_44 : decode (vm_cd 175) 44 = .ok (.ireturn, 1) := (congrArg (fun b => decode b 44) cd175).trans (by decide +kernel)
theorem f175_22 : vm_fl.lookup (vm_own 175, 22) = some (10, 0, 250) := by decide +kernel
theorem f175_29 : vm_fl.lookup (vm_own 175, 29) = some (10, 1, 251) := by decide +kernel
theorem f175_89 : vm_fl.lookup (vm_own 175, 89) = some (10, 11, 261) := by decide +kernel
theorem c175_164 : vm_ml.lookup (vm_own 175, 164) = some (0, 90, 0, 433, 434, 508, 4) := vm_lk (by decide +kernel)
theorem c175_184 : vm_ml.lookup (vm_own 175, 184) = some (0, 22, 4, 398, 399, 473, 2) := vm_lk (by decide +kernel)
theorem r175 : vm_rt 175 = (some .boolean) := by decide +kernel
theorem B_X_solvesPay_0 {X : vX} {d : Nat} {M : vM} {Q : Option vV → vM → Prop} {l1 l2 : Int}  (k : vw X d 175 2 [vR 0, vI l1, vI l2, vI 0] [] M Q) : vw X d 175 0 [vR 0, vI l1, vI l2, vN] [] M Q := by
  refine w_ic (v := 0) d175_0 rfl ?_
  refine w_istore_nE (ls' := [vR 0, vI l1, vI l2, vI 0]) d175_1 (Nat.le_of_ble_eq_true rfl) rfl ?_
  exact k
theorem B_X_solvesPay_2 {X : vX} {d : Nat} {M : vM} {Q : Option vV → vM → Prop} {l1 l2 l3 : Int}  (k1 : 4 ≤ l3 → vw X d 175 20 [vR 0, vI l1, vI l2, vI l3] [] M Q) (k2 : l3 < 4 → vw X d 175 7 [vR 0, vI l1, vI l2, vI l3] [] M Q) : vw X d 175 2 [vR 0, vI l1, vI l2, vI l3] [] M Q := by
  refine w_iload_n d175_2 rfl ?_
  refine w_ic (v := 4) d175_3 rfl ?_
  exact w_icmp_ge d175_4 rfl (fun h => k1 h) (fun h => k2 h)
theorem B_X_solvesPay_7 {X : vX} {d : Nat} {M : vM} {Q : Option vV → vM → Prop} {l1 l2 l3 : Int} (hR : vRefs M) (h1 : 0 ≤ l3 ∧ l3 < (4 : Nat)) (k : vRefs (vm_up M 80 l3.toNat l3) → vw X d 175 2 [vR 0, vI l1, vI l2, vI (w32 (l3 + 1))] [] (vm_up M 80 l3.toNat l3) Q) : vw X d 175 7 [vR 0, vI l1, vI l2, vI l3] [] M Q := by
  refine w_aload_n d175_7 rfl ?_
  refine w_getf (a := 0) (v := vR 80) d175_8 f175_89 rfl rfl (congrArg vR (rf_0_11 hR)) ?_
  refine w_iload_n d175_11 rfl ?_
  refine w_iload_n d175_12 rfl ?_
  refine w_iast (a := 80) d175_13 rfl rfl h1 ?_
  refine w_iincE (ls' := [vR 0, vI l1, vI l2, vI (w32 (l3 + 1))]) d175_14 rfl rfl ?_
  refine w_goto (tgt := 2) d175_17 rfl ?_
  exact k (vRefs_free hR ⟨by decide, by decide⟩)
theorem B_X_solvesPay_20 {X : vX} {d : Nat} {M : vM} {Q : Option vV → vM → Prop} {l1 l2 l3 : Int} (hR : vRefs M)  (k : cq X d 22 [vR 1, vR 13, vI l1, vI l2, vR 80] M (fun r M1 => wp X d 175 37 [vR 0, vI l1, vI l2, vI l3] (r.toList ++ []) (vS0, M1) (vP Q))) : vw X d 175 20 [vR 0, vI l1, vI l2, vI l3] [] M Q := by
  refine w_aload_n d175_20 rfl ?_
  refine w_getf (a := 0) (v := vR 1) d175_21 f175_22 rfl rfl (congrArg vR (rf_0_0 hR)) ?_
  refine w_aload_n d175_24 rfl ?_
  refine w_getf (a := 0) (v := vR 13) d175_25 f175_29 rfl rfl (congrArg vR (rf_0_1 hR)) ?_
  refine w_iload_n d175_28 rfl ?_
  refine w_iload_n d175_29 rfl ?_
  refine w_aload_n d175_30 rfl ?_
  refine w_getf (a := 0) (v := vR 80) d175_31 f175_89 rfl rfl (congrArg vR (rf_0_11 hR)) ?_
  exact w_inv0 (a := 1) (c := 0) d175_34 c175_184 rfl rfl rfl v22 (Nat.le_of_ble_eq_true rfl) (cq.cl (k))
theorem B_X_solvesPay_37 {X : vX} {d : Nat} {M : vM} {Q : Option vV → vM → Prop} {l1 l2 l3 : Int} (hR : vRefs M)  (k : cq X d 90 [vR 13] M (fun r M1 => wp X d 175 44 [vR 0, vI l1, vI l2, vI l3] (r.toList ++ []) (vS0, M1) (vP Q))) : vw X d 175 37 [vR 0, vI l1, vI l2, vI l3] [] M Q := by
  refine w_aload_n d175_37 rfl ?_
  refine w_getf (a := 0) (v := vR 13) d175_38 f175_29 rfl rfl (congrArg vR (rf_0_1 hR)) ?_
  exact w_inv0 (a := 13) (c := 6) d175_41 c175_164 rfl rfl rfl v90 (Nat.le_of_ble_eq_true rfl) (cq.cl (k))
theorem B_X_solvesPay_44 {X : vX} {d : Nat} {M : vM} {Q : Option vV → vM → Prop} {l1 l2 l3 s0 : Int} (h1 : s0 = 0 ∨ s0 = 1) (k : Q (some (vI s0)) M) : vw X d 175 44 [vR 0, vI l1, vI l2, vI l3] [vI s0] M Q := by
  exact w_zret d175_44 r175 h1 ⟨_, rfl, k⟩
theorem E_X_solvesPay {X : vX} {d : Nat} {M : vM} {Q : Option vV → vM → Prop} {l1 l2 : Int} (k : vw X d 175 0 [vR 0, vI l1, vI l2, vN] [] M Q) : cq X (d + 1) 175 [vR 0, vI l1, vI l2] M Q := wc_in (Nat.le_of_ble_eq_true rfl) (Nat.le_of_ble_eq_true rfl) k
theorem cd176 : vm_cd 176 = cX11_keptOfLeast := rfl
theorem d176_0 : decode (vm_cd 176) 0 = .ok (.aload_n 0, 1) := (congrArg (fun b => decode b 0) cd176).trans (by decide +kernel)
theorem d176_1 : decode (vm_cd 176) 1 = .ok (.getfield 22, 3) := (congrArg (fun b => decode b 1) cd176).trans (by decide +kernel)
theorem d176_4 : decode (vm_cd 176) 4 = .ok (.iload_n 1, 1) := (congrArg (fun b => decode b 4) cd176).trans (by decide +kernel)
theorem d176_5 : decode (vm_cd 176) 5 = .ok (.iload_n 2, 1) := (congrArg (fun b => decode b 5) cd176).trans (by decide +kernel)
theorem d176_6 : decode (vm_cd 176) 6 = .ok (.invokevirtual 359, 3) := (congrArg (fun b => decode b 6) cd176).trans (by decide +kernel)
theorem d176_9 : decode (vm_cd 176) 9 = .ok (.aload_n 0, 1) := (congrArg (fun b => decode b 9) cd176).trans (by decide +kernel)
theorem d176_10 : decode (vm_cd 176) 10 = .ok (.getfield 29, 3) := (congrArg (fun b => decode b 10) cd176).trans (by decide +kernel)
theorem d176_13 : decode (vm_cd 176) 13 = .ok (.invokevirtual 149, 3) := (congrArg (fun b => decode b 13) cd176).trans (by decide +kernel)
theorem d176_16 : decode (vm_cd 176) 16 = .ok (.lmul, 1) := (congrArg (fun b => decode b 16) cd176).trans (by decide +kernel)
theorem d176_17 : decode (vm_cd 176) 17 = .ok (.aload_n 0, 1) := (congrArg (fun b => decode b 17) cd176).trans (by decide +kernel)
theorem d176_18 : decode (vm_cd 176) 18 = .ok (.getfield 29, 3) := (congrArg (fun b => decode b 18) cd176).trans (by decide +kernel)
theorem d176_21 : decode (vm_cd 176) 21 = .ok (.invokevirtual 143, 3) := (congrArg (fun b => decode b 21) cd176).trans (by decide +kernel)
theorem d176_24 : decode (vm_cd 176) 24 = .ok (.lsub, 1) := (congrArg (fun b => decode b 24) cd176).trans (by decide +kernel)
theorem d176_25 : decode (vm_cd 176) 25 = .ok (.lreturn, 1) := (congrArg (fun b => decode b 25) cd176).trans (by decide +kernel)
theorem f176_22 : vm_fl.lookup (vm_own 176, 22) = some (10, 0, 250) := by decide +kernel
theorem f176_29 : vm_fl.lookup (vm_own 176, 29) = some (10, 1, 251) := by decide +kernel
theorem c176_143 : vm_ml.lookup (vm_own 176, 143) = some (0, 95, 0, 458, 459, 533, 4) := vm_lk (by decide +kernel)
theorem c176_149 : vm_ml.lookup (vm_own 176, 149) = some (0, 97, 0, 463, 464, 538, 4) := vm_lk (by decide +kernel)
theorem c176_359 : vm_ml.lookup (vm_own 176, 359) = some (0, 15, 2, 508, 384, 458, 2) := vm_lk (by decide +kernel)
theorem r176 : vm_rt 176 = (some .long) := by decide +kernel
theorem B_X_keptOfLeast_0 {X : vX} {d : Nat} {M : vM} {Q : Option vV → vM → Prop} {l1 l2 : Int} (hR : vRefs M)  (k : cq X d 15 [vR 1, vI l1, vI l2] M (fun r M1 => wp X d 176 9 [vR 0, vI l1, vI l2] (r.toList ++ []) (vS0, M1) (vP Q))) : vw X d 176 0 [vR 0, vI l1, vI l2] [] M Q := by
  refine w_aload_n d176_0 rfl ?_
  refine w_getf (a := 0) (v := vR 1) d176_1 f176_22 rfl rfl (congrArg vR (rf_0_0 hR)) ?_
  refine w_iload_n d176_4 rfl ?_
  refine w_iload_n d176_5 rfl ?_
  exact w_inv0 (a := 1) (c := 0) d176_6 c176_359 rfl rfl rfl v15 (Nat.le_of_ble_eq_true rfl) (cq.cl (k))
theorem B_X_keptOfLeast_9 {X : vX} {d : Nat} {M : vM} {Q : Option vV → vM → Prop} {l1 l2 s0 : Int} (hR : vRefs M)  (k : cq X d 97 [vR 13] M (fun r M1 => wp X d 176 16 [vR 0, vI l1, vI l2] (r.toList ++ [vL s0]) (vS0, M1) (vP Q))) : vw X d 176 9 [vR 0, vI l1, vI l2] [vL s0] M Q := by
  refine w_aload_n d176_9 rfl ?_
  refine w_getf (a := 0) (v := vR 13) d176_10 f176_29 rfl rfl (congrArg vR (rf_0_1 hR)) ?_
  exact w_inv0 (a := 13) (c := 6) d176_13 c176_149 rfl rfl rfl v97 (Nat.le_of_ble_eq_true rfl) (cq.cl (k))
theorem B_X_keptOfLeast_16 {X : vX} {d : Nat} {M : vM} {Q : Option vV → vM → Prop} {l1 l2 s0 s1 : Int} (hR : vRefs M)  (k : cq X d 95 [vR 13] M (fun r M1 => wp X d 176 24 [vR 0, vI l1, vI l2] (r.toList ++ [vL (w64 (s0 * s1))]) (vS0, M1) (vP Q))) : vw X d 176 16 [vR 0, vI l1, vI l2] [vL s1, vL s0] M Q := by
  refine w_lmul d176_16 ?_
  refine w_aload_n d176_17 rfl ?_
  refine w_getf (a := 0) (v := vR 13) d176_18 f176_29 rfl rfl (congrArg vR (rf_0_1 hR)) ?_
  exact w_inv0 (a := 13) (c := 6) d176_21 c176_143 rfl rfl rfl v95 (Nat.le_of_ble_eq_true rfl) (cq.cl (k))
theorem B_X_keptOfLeast_24 {X : vX} {d : Nat} {M : vM} {Q : Option vV → vM → Prop} {l1 l2 s0 s1 : Int}  (k : Q (some (vL (w64 (s0 - s1)))) M) : vw X d 176 24 [vR 0, vI l1, vI l2] [vL s1, vL s0] M Q := by
  refine w_lsub d176_24 ?_
  exact w_lret d176_25 r176 ⟨_, rfl, k⟩
theorem E_X_keptOfLeast {X : vX} {d : Nat} {M : vM} {Q : Option vV → vM → Prop} {l1 l2 : Int} (k : vw X d 176 0 [vR 0, vI l1, vI l2] [] M Q) : cq X (d + 1) 176 [vR 0, vI l1, vI l2] M Q := wc_in (Nat.le_of_ble_eq_true rfl) (Nat.le_of_ble_eq_true rfl) k
theorem cd177 : vm_cd 177 = cX11_readsJoins := rfl
theorem d177_0 : decode (vm_cd 177) 0 = .ok (.aload_n 0, 1) := (congrArg (fun b => decode b 0) cd177).trans (by decide +kernel)
theorem d177_1 : decode (vm_cd 177) 1 = .ok (.getfield 22, 3) := (congrArg (fun b => decode b 1) cd177).trans (by decide +kernel)
theorem d177_4 : decode (vm_cd 177) 4 = .ok (.invokevirtual 350, 3) := (congrArg (fun b => decode b 4) cd177).trans (by decide +kernel)
theorem d177_7 : decode (vm_cd 177) 7 = .ok (.istore_n 2, 1) := (congrArg (fun b => decode b 7) cd177).trans (by decide +kernel)
theorem d177_8 : decode (vm_cd 177) 8 = .ok (.iload_n 1, 1) := (congrArg (fun b => decode b 8) cd177).trans (by decide +kernel)
theorem d177_9 : decode (vm_cd 177) 9 = .ok (.iconst 4, 1) := (congrArg (fun b => decode b 9) cd177).trans (by decide +kernel)
theorem d177_10 : decode (vm_cd 177) 10 = .ok (.iload_n 2, 1) := (congrArg (fun b => decode b 10) cd177).trans (by decide +kernel)
theorem d177_11 : decode (vm_cd 177) 11 = .ok (.imul, 1) := (congrArg (fun b => decode b 11) cd177).trans (by decide +kernel)
theorem d177_12 : decode (vm_cd 177) 12 = .ok (.iushr, 1) := (congrArg (fun b => decode b 12) cd177).trans (by decide +kernel)
theorem d177_13 : decode (vm_cd 177) 13 = .ok (.ifCond .eq 5, 3) := (congrArg (fun b => decode b 13) cd177).trans (by decide +kernel)
theorem d177_16 : decode (vm_cd 177) 16 = .ok (.iconst 0, 1) := (congrArg (fun b => decode b 16) cd177).trans (by decide +kernel)
theorem d177_17 : decode (vm_cd 177) 17 = .ok (.ireturn, 1) := (congrArg (fun b => decode b 17) cd177).trans (by decide +kernel)
theorem d177_18 : decode (vm_cd 177) 18 = .ok (.iconst 0, 1) := (congrArg (fun b => decode b 18) cd177).trans (by decide +kernel)
theorem d177_19 : decode (vm_cd 177) 19 = .ok (.istore_n 3, 1) := (congrArg (fun b => decode b 19) cd177).trans (by decide +kernel)
theorem d177_20 : decode (vm_cd 177) 20 = .ok (.iload_n 3, 1) := (congrArg (fun b => decode b 20) cd177).trans (by decide +kernel)
theorem d177_21 : decode (vm_cd 177) 21 = .ok (.iload_n 2, 1) := (congrArg (fun b => decode b 21) cd177).trans (by decide +kernel)
theorem d177_22 : decode (vm_cd 177) 22 = .ok (.if_icmp .ge 41, 3) := (congrArg (fun b => decode b 22) cd177).trans (by decide +kernel)
theorem d177_25 : decode (vm_cd 177) 25 = .ok (.aload_n 0, 1) := (congrArg (fun b => decode b 25) cd177).trans (by decide +kernel)
theorem d177_26 : decode (vm_cd 177) 26 = .ok (.getfield 89, 3) := (congrArg (fun b => decode b 26) cd177).trans (by decide +kernel)
theorem d177_29 : decode (vm_cd 177) 29 = .ok (.iload_n 3, 1) := (congrArg (fun b => decode b 29) cd177).trans (by decide +kernel)
theorem d177_30 : decode (vm_cd 177) 30 = .ok (.iload_n 1, 1) := (congrArg (fun b => decode b 30) cd177).trans (by decide +kernel)
theorem d177_31 : decode (vm_cd 177) 31 = .ok (.iconst 4, 1) := (congrArg (fun b => decode b 31) cd177).trans (by decide +kernel)
theorem d177_32 : decode (vm_cd 177) 32 = .ok (.iload_n 3, 1) := (congrArg (fun b => decode b 32) cd177).trans (by decide +kernel)
theorem d177_33 : decode (vm_cd 177) 33 = .ok (.imul, 1) := (congrArg (fun b => decode b 33) cd177).trans (by decide +kernel)
theorem d177_34 : decode (vm_cd 177) 34 = .ok (.iushr, 1) := (congrArg (fun b => decode b 34) cd177).trans (by decide +kernel)
theorem d177_35 : decode (vm_cd 177) 35 = .ok (.bipush 15, 2) := (congrArg (fun b => decode b 35) cd177).trans (by decide +kernel)
theorem d177_37 : decode (vm_cd 177) 37 = .ok (.iand, 1) := (congrArg (fun b => decode b 37) cd177).trans (by decide +kernel)
theorem d177_38 : decode (vm_cd 177) 38 = .ok (.iastore, 1) := (congrArg (fun b => decode b 38) cd177).trans (by decide +kernel)
theorem d177_39 : decode (vm_cd 177) 39 = .ok (.aload_n 0, 1) := (congrArg (fun b => decode b 39) cd177).trans (by decide +kernel)
theorem d177_40 : decode (vm_cd 177) 40 = .ok (.getfield 22, 3) := (congrArg (fun b => decode b 40) cd177).trans (by decide +kernel)
theorem d177_43 : decode (vm_cd 177) 43 = .ok (.aload_n 0, 1) := (congrArg (fun b => decode b 43) cd177).trans (by decide +kernel)
theorem d177_44 : decode (vm_cd 177) 44 = .ok (.getfield 89, 3) := (congrArg (fun b => decode b 44) cd177).trans (by decide +kernel)
theorem d177_47 : decode (vm_cd 177) 47 = .ok (.iload_n 3, 1) := (congrArg (fun b => decode b 47) cd177).trans (by decide +kernel)
theorem d177_48 : decode (vm_cd 177) 48 = .ok (.iaload, 1) := (congrArg (fun b => decode b 48) cd177).trans (by decide +kernel)
theorem d177_49 : decode (vm_cd 177) 49 = .ok (.invokevirtual 117, 3) := (congrArg (fun b => decode b 49) cd177).trans (by decide +kernel)
theorem d177_52 : decode (vm_cd 177) 52 = .ok (.ifCond .ne 5, 3) := (congrArg (fun b => decode b 52) cd177).trans (by decide +kernel)
theorem d177_55 : decode (vm_cd 177) 55 = .ok (.iconst 0, 1) := (congrArg (fun b => decode b 55) cd177).trans (by decide +kernel)
theorem d177_56 : decode (vm_cd 177) 56 = .ok (.ireturn, 1) := (congrArg (fun b => decode b 56) cd177).trans (by decide +kernel)
theorem d177_57 : decode (vm_cd 177) 57 = .ok (.iinc 3 1, 3) := (congrArg (fun b => decode b 57) cd177).trans (by decide +kernel)
theorem d177_60 : decode (vm_cd 177) 60 = .ok (.goto (-40), 3) := (congrArg (fun b => decode b 60) cd177).trans (by decide +kernel)
theorem d177_63 : decode (vm_cd 177) 63 = .ok (.iconst 1, 1) := (congrArg (fun b => decode b 63) cd177).trans (by decide +kernel)
theorem d177_64 : decode (vm_cd 177) 64 = .ok (.ireturn, 1) := (congrArg (fun b => decode b 64) cd177).trans (by decide +kernel)
theorem f177_22 : vm_fl.lookup (vm_own 177, 22) = some (10, 0, 250) := by decide +kernel
theorem f177_89 : vm_fl.lookup (vm_own 177, 89) = some (10, 11, 261) := by decide +kernel
theorem c177_117 : vm_ml.lookup (vm_own 177, 117) = some (0, 6, 1, 329, 330, 404, 2) := vm_lk (by decide +kernel)
theorem c177_350 : vm_ml.lookup (vm_own 177, 350) = some (0, 2, 0, 522, 523, 597, 2) := vm_lk (by decide +kernel)
theorem r177 : vm_rt 177 = (some .boolean) := by decide +kernel
theorem B_X_readsJoins_0 {X : vX} {d : Nat} {M : vM} {Q : Option vV → vM → Prop} {l1 : Int} (hR : vRefs M)  (k : cq X d 2 [vR 1] M (fun r M1 => wp X d 177 7 [vR 0, vI l1, vN, vN] (r.toList ++ []) (vS0, M1) (vP Q))) : vw X d 177 0 [vR 0, vI l1, vN, vN] [] M Q := by
  refine w_aload_n d177_0 rfl ?_
  refine w_getf (a := 0) (v := vR 1) d177_1 f177_22 rfl rfl (congrArg vR (rf_0_0 hR)) ?_
  exact w_inv0 (a := 1) (c := 0) d177_4 c177_350 rfl rfl rfl v2 (Nat.le_of_ble_eq_true rfl) (cq.cl (k))
theorem B_X_readsJoins_7 {X : vX} {d : Nat} {M : vM} {Q : Option vV → vM → Prop} {l1 s0 : Int}  (k1 : (j_iushr l1 (w32 (4 * s0))) = 0 → vw X d 177 18 [vR 0, vI l1, vI s0, vN] [] M Q) (k2 : ¬ (j_iushr l1 (w32 (4 * s0))) = 0 → vw X d 177 16 [vR 0, vI l1, vI s0, vN] [] M Q) : vw X d 177 7 [vR 0, vI l1, vN, vN] [vI s0] M Q := by
  refine w_istore_nE (ls' := [vR 0, vI l1, vI s0, vN]) d177_7 (Nat.le_of_ble_eq_true rfl) rfl ?_
  refine w_iload_n d177_8 rfl ?_
  refine w_ic (v := 4) d177_9 rfl ?_
  refine w_iload_n d177_10 rfl ?_
  refine w_imul d177_11 ?_
  refine w_iushr d177_12 ?_
  exact w_if_eq d177_13 rfl (fun h => k1 h) (fun h => k2 h)
theorem B_X_readsJoins_16 {X : vX} {d : Nat} {M : vM} {Q : Option vV → vM → Prop} {l1 l2 : Int}  (k : Q (some (vI 0)) M) : vw X d 177 16 [vR 0, vI l1, vI l2, vN] [] M Q := by
  refine w_ic (v := 0) d177_16 rfl ?_
  exact w_zret d177_17 r177 (by decide) ⟨_, rfl, k⟩
theorem B_X_readsJoins_18 {X : vX} {d : Nat} {M : vM} {Q : Option vV → vM → Prop} {l1 l2 : Int}  (k : vw X d 177 20 [vR 0, vI l1, vI l2, vI 0] [] M Q) : vw X d 177 18 [vR 0, vI l1, vI l2, vN] [] M Q := by
  refine w_ic (v := 0) d177_18 rfl ?_
  refine w_istore_nE (ls' := [vR 0, vI l1, vI l2, vI 0]) d177_19 (Nat.le_of_ble_eq_true rfl) rfl ?_
  exact k
theorem B_X_readsJoins_20 {X : vX} {d : Nat} {M : vM} {Q : Option vV → vM → Prop} {l1 l2 l3 : Int}  (k1 : l2 ≤ l3 → vw X d 177 63 [vR 0, vI l1, vI l2, vI l3] [] M Q) (k2 : l3 < l2 → vw X d 177 25 [vR 0, vI l1, vI l2, vI l3] [] M Q) : vw X d 177 20 [vR 0, vI l1, vI l2, vI l3] [] M Q := by
  refine w_iload_n d177_20 rfl ?_
  refine w_iload_n d177_21 rfl ?_
  exact w_icmp_ge d177_22 rfl (fun h => k1 h) (fun h => k2 h)
theorem B_X_readsJoins_25 {X : vX} {d : Nat} {M : vM} {Q : Option vV → vM → Prop} {l1 l2 l3 : Int} (hR : vRefs M) (h1 : 0 ≤ l3 ∧ l3 < (4 : Nat)) (h2 : 0 ≤ l3 ∧ l3 < (4 : Nat)) (k : vRefs (vm_up M 80 l3.toNat (j_iand (j_iushr l1 (w32 (4 * l3))) 15)) → cq X d 6 [vR 1, vI ((vm_up M 80 l3.toNat (j_iand (j_iushr l1 (w32 (4 * l3))) 15)) 80 l3.toNat)] (vm_up M 80 l3.toNat (j_iand (j_iushr l1 (w32 (4 * l3))) 15)) (fun r M1 => wp X d 177 52 [vR 0, vI l1, vI l2, vI l3] (r.toList ++ []) (vS0, M1) (vP Q))) : vw X d 177 25 [vR 0, vI l1, vI l2, vI l3] [] M Q := by
  refine w_aload_n d177_25 rfl ?_
  refine w_getf (a := 0) (v := vR 80) d177_26 f177_89 rfl rfl (congrArg vR (rf_0_11 hR)) ?_
  refine w_iload_n d177_29 rfl ?_
  refine w_iload_n d177_30 rfl ?_
  refine w_ic (v := 4) d177_31 rfl ?_
  refine w_iload_n d177_32 rfl ?_
  refine w_imul d177_33 ?_
  refine w_iushr d177_34 ?_
  refine w_bi (v := 15) d177_35 rfl ?_
  refine w_iand d177_37 ?_
  refine w_iast (a := 80) d177_38 rfl rfl h1 ?_
  refine w_aload_n d177_39 rfl ?_
  refine w_getf (a := 0) (v := vR 1) d177_40 f177_22 rfl rfl (congrArg vR (rf_0_0 (vRefs_free hR ⟨by decide, by decide⟩))) ?_
  refine w_aload_n d177_43 rfl ?_
  refine w_getf (a := 0) (v := vR 80) d177_44 f177_89 rfl rfl (congrArg vR (rf_0_11 (vRefs_free hR ⟨by decide, by decide⟩))) ?_
  refine w_iload_n d177_47 rfl ?_
  refine w_iaload (a := 80) d177_48 rfl rfl h2 ?_
  exact w_inv0 (a := 1) (c := 0) d177_49 c177_117 rfl rfl rfl v6 (Nat.le_of_ble_eq_true rfl) (cq.cl (k (vRefs_free hR ⟨by decide, by decide⟩)))
theorem B_X_readsJoins_52 {X : vX} {d : Nat} {M : vM} {Q : Option vV → vM → Prop} {l1 l2 l3 s0 : Int}  (k1 : ¬ s0 = 0 → vw X d 177 57 [vR 0, vI l1, vI l2, vI l3] [] M Q) (k2 : s0 = 0 → vw X d 177 55 [vR 0, vI l1, vI l2, vI l3] [] M Q) : vw X d 177 52 [vR 0, vI l1, vI l2, vI l3] [vI s0] M Q := by
  exact w_if_ne d177_52 rfl (fun h => k1 h) (fun h => k2 h)
theorem B_X_readsJoins_55 {X : vX} {d : Nat} {M : vM} {Q : Option vV → vM → Prop} {l1 l2 l3 : Int}  (k : Q (some (vI 0)) M) : vw X d 177 55 [vR 0, vI l1, vI l2, vI l3] [] M Q := by
  refine w_ic (v := 0) d177_55 rfl ?_
  exact w_zret d177_56 r177 (by decide) ⟨_, rfl, k⟩
theorem B_X_readsJoins_57 {X : vX} {d : Nat} {M : vM} {Q : Option vV → vM → Prop} {l1 l2 l3 : Int}  (k : vw X d 177 20 [vR 0, vI l1, vI l2, vI (w32 (l3 + 1))] [] M Q) : vw X d 177 57 [vR 0, vI l1, vI l2, vI l3] [] M Q := by
  refine w_iincE (ls' := [vR 0, vI l1, vI l2, vI (w32 (l3 + 1))]) d177_57 rfl rfl ?_
  refine w_goto (tgt := 20) d177_60 rfl ?_
  exact k
theorem B_X_readsJoins_63 {X : vX} {d : Nat} {M : vM} {Q : Option vV → vM → Prop} {l1 l2 l3 : Int}  (k : Q (some (vI 1)) M) : vw X d 177 63 [vR 0, vI l1, vI l2, vI l3] [] M Q := by
  refine w_ic (v := 1) d177_63 rfl ?_
  exact w_zret d177_64 r177 (by decide) ⟨_, rfl, k⟩
theorem E_X_readsJoins {X : vX} {d : Nat} {M : vM} {Q : Option vV → vM → Prop} {l1 : Int} (k : vw X d 177 0 [vR 0, vI l1, vN, vN] [] M Q) : cq X (d + 1) 177 [vR 0, vI l1] M Q := wc_in (Nat.le_of_ble_eq_true rfl) (Nat.le_of_ble_eq_true rfl) k
theorem cd178 : vm_cd 178 = cX11_writePay := rfl
theorem d178_0 : decode (vm_cd 178) 0 = .ok (.iconst 0, 1) := (congrArg (fun b => decode b 0) cd178).trans (by decide +kernel)
theorem d178_1 : decode (vm_cd 178) 1 = .ok (.istore_n 3, 1) := (congrArg (fun b => decode b 1) cd178).trans (by decide +kernel)
theorem d178_2 : decode (vm_cd 178) 2 = .ok (.iload_n 3, 1) := (congrArg (fun b => decode b 2) cd178).trans (by decide +kernel)
theorem d178_3 : decode (vm_cd 178) 3 = .ok (.aload_n 0, 1) := (congrArg (fun b => decode b 3) cd178).trans (by decide +kernel)
theorem d178_4 : decode (vm_cd 178) 4 = .ok (.getfield 22, 3) := (congrArg (fun b => decode b 4) cd178).trans (by decide +kernel)
theorem d178_7 : decode (vm_cd 178) 7 = .ok (.invokevirtual 350, 3) := (congrArg (fun b => decode b 7) cd178).trans (by decide +kernel)
theorem d178_10 : decode (vm_cd 178) 10 = .ok (.if_icmp .ge 29, 3) := (congrArg (fun b => decode b 10) cd178).trans (by decide +kernel)
theorem d178_13 : decode (vm_cd 178) 13 = .ok (.aload_n 2, 1) := (congrArg (fun b => decode b 13) cd178).trans (by decide +kernel)
theorem d178_14 : decode (vm_cd 178) 14 = .ok (.iload_n 3, 1) := (congrArg (fun b => decode b 14) cd178).trans (by decide +kernel)
theorem d178_15 : decode (vm_cd 178) 15 = .ok (.aload_n 0, 1) := (congrArg (fun b => decode b 15) cd178).trans (by decide +kernel)
theorem d178_16 : decode (vm_cd 178) 16 = .ok (.getfield 64, 3) := (congrArg (fun b => decode b 16) cd178).trans (by decide +kernel)
theorem d178_19 : decode (vm_cd 178) 19 = .ok (.iload_n 1, 1) := (congrArg (fun b => decode b 19) cd178).trans (by decide +kernel)
theorem d178_20 : decode (vm_cd 178) 20 = .ok (.iload_n 3, 1) := (congrArg (fun b => decode b 20) cd178).trans (by decide +kernel)
theorem d178_21 : decode (vm_cd 178) 21 = .ok (.aload_n 0, 1) := (congrArg (fun b => decode b 21) cd178).trans (by decide +kernel)
theorem d178_22 : decode (vm_cd 178) 22 = .ok (.getfield 22, 3) := (congrArg (fun b => decode b 22) cd178).trans (by decide +kernel)
theorem d178_25 : decode (vm_cd 178) 25 = .ok (.iload_n 3, 1) := (congrArg (fun b => decode b 25) cd178).trans (by decide +kernel)
theorem d178_26 : decode (vm_cd 178) 26 = .ok (.invokevirtual 278, 3) := (congrArg (fun b => decode b 26) cd178).trans (by decide +kernel)
theorem d178_29 : decode (vm_cd 178) 29 = .ok (.invokevirtual 281, 3) := (congrArg (fun b => decode b 29) cd178).trans (by decide +kernel)
theorem d178_32 : decode (vm_cd 178) 32 = .ok (.iastore, 1) := (congrArg (fun b => decode b 32) cd178).trans (by decide +kernel)
theorem d178_33 : decode (vm_cd 178) 33 = .ok (.iinc 3 1, 3) := (congrArg (fun b => decode b 33) cd178).trans (by decide +kernel)
theorem d178_36 : decode (vm_cd 178) 36 = .ok (.goto (-34), 3) := (congrArg (fun b => decode b 36) cd178).trans (by decide +kernel)
theorem d178_39 : decode (vm_cd 178) 39 = .ok (.return_, 1) := (congrArg (fun b => decode b 39) cd178).trans (by decide +kernel)
theorem f178_22 : vm_fl.lookup (vm_own 178, 22) = some (10, 0, 250) := by decide +kernel
theorem f178_64 : vm_fl.lookup (vm_own 178, 64) = some (10, 6, 256) := by decide +kernel
theorem c178_278 : vm_ml.lookup (vm_own 178, 278) = some (0, 12, 1, 850, 851, 925, 2) := vm_lk (by decide +kernel)
theorem c178_281 : vm_ml.lookup (vm_own 178, 281) = some (0, 43, 3, 854, 855, 929, 9) := vm_lk (by decide +kernel)
theorem c178_350 : vm_ml.lookup (vm_own 178, 350) = some (0, 2, 0, 522, 523, 597, 2) := vm_lk (by decide +kernel)
theorem r178 : vm_rt 178 = none := by decide +kernel
theorem B_X_writePay_0 {X : vX} {d : Nat} {M : vM} {Q : Option vV → vM → Prop} {l1 : Int} {q2 : Nat}  (k : vw X d 178 2 [vR 0, vI l1, vR (q2 : Int), vI 0] [] M Q) : vw X d 178 0 [vR 0, vI l1, vR (q2 : Int), vN] [] M Q := by
  refine w_ic (v := 0) d178_0 rfl ?_
  refine w_istore_nE (ls' := [vR 0, vI l1, vR (q2 : Int), vI 0]) d178_1 (Nat.le_of_ble_eq_true rfl) rfl ?_
  exact k
theorem B_X_writePay_2 {X : vX} {d : Nat} {M : vM} {Q : Option vV → vM → Prop} {l1 l3 : Int} {q2 : Nat} (hR : vRefs M)  (k : cq X d 2 [vR 1] M (fun r M1 => wp X d 178 10 [vR 0, vI l1, vR (q2 : Int), vI l3] (r.toList ++ [vI l3]) (vS0, M1) (vP Q))) : vw X d 178 2 [vR 0, vI l1, vR (q2 : Int), vI l3] [] M Q := by
  refine w_iload_n d178_2 rfl ?_
  refine w_aload_n d178_3 rfl ?_
  refine w_getf (a := 0) (v := vR 1) d178_4 f178_22 rfl rfl (congrArg vR (rf_0_0 hR)) ?_
  exact w_inv0 (a := 1) (c := 0) d178_7 c178_350 rfl rfl rfl v2 (Nat.le_of_ble_eq_true rfl) (cq.cl (k))
theorem B_X_writePay_10 {X : vX} {d : Nat} {M : vM} {Q : Option vV → vM → Prop} {l1 l3 s0 s1 : Int} {q2 : Nat}  (k1 : s1 ≤ s0 → vw X d 178 39 [vR 0, vI l1, vR (q2 : Int), vI l3] [] M Q) (k2 : s0 < s1 → vw X d 178 13 [vR 0, vI l1, vR (q2 : Int), vI l3] [] M Q) : vw X d 178 10 [vR 0, vI l1, vR (q2 : Int), vI l3] [vI s1, vI s0] M Q := by
  exact w_icmp_ge d178_10 rfl (fun h => k1 h) (fun h => k2 h)
theorem B_X_writePay_13 {X : vX} {d : Nat} {M : vM} {Q : Option vV → vM → Prop} {l1 l3 : Int} {q2 : Nat} (hR : vRefs M)  (k : cq X d 12 [vR 1, vI l3] M (fun r M1 => wp X d 178 29 [vR 0, vI l1, vR (q2 : Int), vI l3] (r.toList ++ [vI l3, vI l1, vR 56, vI l3, vR (q2 : Int)]) (vS0, M1) (vP Q))) : vw X d 178 13 [vR 0, vI l1, vR (q2 : Int), vI l3] [] M Q := by
  refine w_aload_n d178_13 rfl ?_
  refine w_iload_n d178_14 rfl ?_
  refine w_aload_n d178_15 rfl ?_
  refine w_getf (a := 0) (v := vR 56) d178_16 f178_64 rfl rfl (congrArg vR (rf_0_6 hR)) ?_
  refine w_iload_n d178_19 rfl ?_
  refine w_iload_n d178_20 rfl ?_
  refine w_aload_n d178_21 rfl ?_
  refine w_getf (a := 0) (v := vR 1) d178_22 f178_22 rfl rfl (congrArg vR (rf_0_0 hR)) ?_
  refine w_iload_n d178_25 rfl ?_
  exact w_inv0 (a := 1) (c := 0) d178_26 c178_278 rfl rfl rfl v12 (Nat.le_of_ble_eq_true rfl) (cq.cl (k))
theorem B_X_writePay_29 {X : vX} {d : Nat} {M : vM} {Q : Option vV → vM → Prop} {l1 l3 s1 s3 s4 s5 : Int} {q2 : Nat}  (k : cq X d 43 [vR 56, vI s3, vI s4, vI s5] M (fun r M1 => wp X d 178 32 [vR 0, vI l1, vR (q2 : Int), vI l3] (r.toList ++ [vI s1, vR (q2 : Int)]) (vS0, M1) (vP Q))) : vw X d 178 29 [vR 0, vI l1, vR (q2 : Int), vI l3] [vI s5, vI s4, vI s3, vR 56, vI s1, vR (q2 : Int)] M Q := by
  exact w_inv0 (a := 56) (c := 2) d178_29 c178_281 rfl rfl rfl v43 (Nat.le_of_ble_eq_true rfl) (cq.cl (k))
theorem B_X_writePay_32 {X : vX} {d : Nat} {M : vM} {Q : Option vV → vM → Prop} {l1 l3 s1 s2 : Int} {q2 : Nat} (hq2 : vS0[q2]? = some (.inr (0, 4))) (hqf2 : vFree q2) (hR : vRefs M) (h1 : 0 ≤ s1 ∧ s1 < (4 : Nat)) (k : vRefs (vm_up M q2 s1.toNat s2) → vw X d 178 2 [vR 0, vI l1, vR (q2 : Int), vI (w32 (l3 + 1))] [] (vm_up M q2 s1.toNat s2) Q) : vw X d 178 32 [vR 0, vI l1, vR (q2 : Int), vI l3] [vI s2, vI s1, vR (q2 : Int)] M Q := by
  refine w_iast (a := q2) d178_32 rfl hq2 h1 ?_
  refine w_iincE (ls' := [vR 0, vI l1, vR (q2 : Int), vI (w32 (l3 + 1))]) d178_33 rfl rfl ?_
  refine w_goto (tgt := 2) d178_36 rfl ?_
  exact k (vRefs_free hR hqf2)
theorem B_X_writePay_39 {X : vX} {d : Nat} {M : vM} {Q : Option vV → vM → Prop} {l1 l3 : Int} {q2 : Nat}  (k : Q none M) : vw X d 178 39 [vR 0, vI l1, vR (q2 : Int), vI l3] [] M Q := by
  exact w_vret d178_39 r178 ⟨_, rfl, k⟩
theorem E_X_writePay {X : vX} {d : Nat} {M : vM} {Q : Option vV → vM → Prop} {l1 : Int} {q2 : Nat} (k : vw X d 178 0 [vR 0, vI l1, vR (q2 : Int), vN] [] M Q) : cq X (d + 1) 178 [vR 0, vI l1, vR (q2 : Int)] M Q := wc_in (Nat.le_of_ble_eq_true rfl) (Nat.le_of_ble_eq_true rfl) k
theorem cd179 : vm_cd 179 = cX11_within := rfl
theorem d179_0 : decode (vm_cd 179) 0 = .ok (.iload_n 0, 1) := (congrArg (fun b => decode b 0) cd179).trans (by decide +kernel)
theorem d179_1 : decode (vm_cd 179) 1 = .ok (.iload_n 1, 1) := (congrArg (fun b => decode b 1) cd179).trans (by decide +kernel)
theorem d179_2 : decode (vm_cd 179) 2 = .ok (.if_icmp .lt 12, 3) := (congrArg (fun b => decode b 2) cd179).trans (by decide +kernel)
theorem d179_5 : decode (vm_cd 179) 5 = .ok (.iload_n 0, 1) := (congrArg (fun b => decode b 5) cd179).trans (by decide +kernel)
theorem d179_6 : decode (vm_cd 179) 6 = .ok (.iload_n 2, 1) := (congrArg (fun b => decode b 6) cd179).trans (by decide +kernel)
theorem d179_7 : decode (vm_cd 179) 7 = .ok (.if_icmp .gt 7, 3) := (congrArg (fun b => decode b 7) cd179).trans (by decide +kernel)
theorem d179_10 : decode (vm_cd 179) 10 = .ok (.iconst 1, 1) := (congrArg (fun b => decode b 10) cd179).trans (by decide +kernel)
theorem d179_11 : decode (vm_cd 179) 11 = .ok (.goto 4, 3) := (congrArg (fun b => decode b 11) cd179).trans (by decide +kernel)
theorem d179_14 : decode (vm_cd 179) 14 = .ok (.iconst 0, 1) := (congrArg (fun b => decode b 14) cd179).trans (by decide +kernel)
theorem d179_15 : decode (vm_cd 179) 15 = .ok (.ireturn, 1) := (congrArg (fun b => decode b 15) cd179).trans (by decide +kernel)
theorem r179 : vm_rt 179 = (some .boolean) := by decide +kernel
theorem B_X_within_0 {X : vX} {d : Nat} {M : vM} {Q : Option vV → vM → Prop} {l0 l1 l2 : Int}  (k1 : l0 < l1 → vw X d 179 14 [vI l0, vI l1, vI l2] [] M Q) (k2 : l1 ≤ l0 → vw X d 179 5 [vI l0, vI l1, vI l2] [] M Q) : vw X d 179 0 [vI l0, vI l1, vI l2] [] M Q := by
  refine w_iload_n d179_0 rfl ?_
  refine w_iload_n d179_1 rfl ?_
  exact w_icmp_lt d179_2 rfl (fun h => k1 h) (fun h => k2 h)
theorem B_X_within_5 {X : vX} {d : Nat} {M : vM} {Q : Option vV → vM → Prop} {l0 l1 l2 : Int}  (k1 : l2 < l0 → vw X d 179 14 [vI l0, vI l1, vI l2] [] M Q) (k2 : l0 ≤ l2 → vw X d 179 10 [vI l0, vI l1, vI l2] [] M Q) : vw X d 179 5 [vI l0, vI l1, vI l2] [] M Q := by
  refine w_iload_n d179_5 rfl ?_
  refine w_iload_n d179_6 rfl ?_
  exact w_icmp_gt d179_7 rfl (fun h => k1 h) (fun h => k2 h)
theorem B_X_within_10 {X : vX} {d : Nat} {M : vM} {Q : Option vV → vM → Prop} {l0 l1 l2 : Int}  (k : Q (some (vI 1)) M) : vw X d 179 10 [vI l0, vI l1, vI l2] [] M Q := by
  refine w_ic (v := 1) d179_10 rfl ?_
  refine w_goto (tgt := 15) d179_11 rfl ?_
  exact w_zret d179_15 r179 (by decide) ⟨_, rfl, k⟩
theorem B_X_within_14 {X : vX} {d : Nat} {M : vM} {Q : Option vV → vM → Prop} {l0 l1 l2 : Int}  (k : Q (some (vI 0)) M) : vw X d 179 14 [vI l0, vI l1, vI l2] [] M Q := by
  refine w_ic (v := 0) d179_14 rfl ?_
  exact w_zret d179_15 r179 (by decide) ⟨_, rfl, k⟩
theorem E_X_within {X : vX} {d : Nat} {M : vM} {Q : Option vV → vM → Prop} {l0 l1 l2 : Int} (k : vw X d 179 0 [vI l0, vI l1, vI l2] [] M Q) : cq X (d + 1) 179 [vI l0, vI l1, vI l2] M Q := wc_in (Nat.le_of_ble_eq_true rfl) (Nat.le_of_ble_eq_true rfl) k
theorem cd180 : vm_cd 180 = cX11_isWorld := rfl
theorem d180_0 : decode (vm_cd 180) 0 = .ok (.iload_n 0, 1) := (congrArg (fun b => decode b 0) cd180).trans (by decide +kernel)
theorem d180_1 : decode (vm_cd 180) 1 = .ok (.iconst 0, 1) := (congrArg (fun b => decode b 1) cd180).trans (by decide +kernel)
theorem d180_2 : decode (vm_cd 180) 2 = .ok (.iconst 1, 1) := (congrArg (fun b => decode b 2) cd180).trans (by decide +kernel)
theorem d180_3 : decode (vm_cd 180) 3 = .ok (.invokestatic 92, 3) := (congrArg (fun b => decode b 3) cd180).trans (by decide +kernel)
theorem d180_6 : decode (vm_cd 180) 6 = .ok (.ireturn, 1) := (congrArg (fun b => decode b 6) cd180).trans (by decide +kernel)
theorem c180_92 : vm_ml.lookup (vm_own 180, 92) = some (1, 179, 3, 291, 292, 0, 1) := vm_lk (by decide +kernel)
theorem r180 : vm_rt 180 = (some .boolean) := by decide +kernel
theorem B_X_isWorld_0 {X : vX} {d : Nat} {M : vM} {Q : Option vV → vM → Prop} {l0 : Int}  (k : cq X d 179 [vI l0, vI 0, vI 1] M (fun r M1 => wp X d 180 6 [vI l0] (r.toList ++ []) (vS0, M1) (vP Q))) : vw X d 180 0 [vI l0] [] M Q := by
  refine w_iload_n d180_0 rfl ?_
  refine w_ic (v := 0) d180_1 rfl ?_
  refine w_ic (v := 1) d180_2 rfl ?_
  exact w_inv1 d180_3 c180_92 (by decide) rfl (Nat.le_of_ble_eq_true rfl) (cq.cl (k))
theorem B_X_isWorld_6 {X : vX} {d : Nat} {M : vM} {Q : Option vV → vM → Prop} {l0 s0 : Int} (h1 : s0 = 0 ∨ s0 = 1) (k : Q (some (vI s0)) M) : vw X d 180 6 [vI l0] [vI s0] M Q := by
  exact w_zret d180_6 r180 h1 ⟨_, rfl, k⟩
theorem E_X_isWorld {X : vX} {d : Nat} {M : vM} {Q : Option vV → vM → Prop} {l0 : Int} (k : vw X d 180 0 [vI l0] [] M Q) : cq X (d + 1) 180 [vI l0] M Q := wc_in (Nat.le_of_ble_eq_true rfl) (Nat.le_of_ble_eq_true rfl) k
theorem cd181 : vm_cd 181 = cX11_isWorldSet := rfl
theorem d181_0 : decode (vm_cd 181) 0 = .ok (.iload_n 0, 1) := (congrArg (fun b => decode b 0) cd181).trans (by decide +kernel)
theorem d181_1 : decode (vm_cd 181) 1 = .ok (.iconst 1, 1) := (congrArg (fun b => decode b 1) cd181).trans (by decide +kernel)
theorem d181_2 : decode (vm_cd 181) 2 = .ok (.iconst 3, 1) := (congrArg (fun b => decode b 2) cd181).trans (by decide +kernel)
theorem d181_3 : decode (vm_cd 181) 3 = .ok (.invokestatic 92, 3) := (congrArg (fun b => decode b 3) cd181).trans (by decide +kernel)
theorem d181_6 : decode (vm_cd 181) 6 = .ok (.ireturn, 1) := (congrArg (fun b => decode b 6) cd181).trans (by decide +kernel)
theorem c181_92 : vm_ml.lookup (vm_own 181, 92) = some (1, 179, 3, 291, 292, 0, 1) := vm_lk (by decide +kernel)
theorem r181 : vm_rt 181 = (some .boolean) := by decide +kernel
theorem B_X_isWorldSet_0 {X : vX} {d : Nat} {M : vM} {Q : Option vV → vM → Prop} {l0 : Int}  (k : cq X d 179 [vI l0, vI 1, vI 3] M (fun r M1 => wp X d 181 6 [vI l0] (r.toList ++ []) (vS0, M1) (vP Q))) : vw X d 181 0 [vI l0] [] M Q := by
  refine w_iload_n d181_0 rfl ?_
  refine w_ic (v := 1) d181_1 rfl ?_
  refine w_ic (v := 3) d181_2 rfl ?_
  exact w_inv1 d181_3 c181_92 (by decide) rfl (Nat.le_of_ble_eq_true rfl) (cq.cl (k))
theorem B_X_isWorldSet_6 {X : vX} {d : Nat} {M : vM} {Q : Option vV → vM → Prop} {l0 s0 : Int} (h1 : s0 = 0 ∨ s0 = 1) (k : Q (some (vI s0)) M) : vw X d 181 6 [vI l0] [vI s0] M Q := by
  exact w_zret d181_6 r181 h1 ⟨_, rfl, k⟩
theorem E_X_isWorldSet {X : vX} {d : Nat} {M : vM} {Q : Option vV → vM → Prop} {l0 : Int} (k : vw X d 181 0 [vI l0] [] M Q) : cq X (d + 1) 181 [vI l0] M Q := wc_in (Nat.le_of_ble_eq_true rfl) (Nat.le_of_ble_eq_true rfl) k
theorem cd182 : vm_cd 182 = cX11_part := rfl
theorem d182_0 : decode (vm_cd 182) 0 = .ok (.lload_n 0, 1) := (congrArg (fun b => decode b 0) cd182).trans (by decide +kernel)
theorem d182_1 : decode (vm_cd 182) 1 = .ok (.invokestatic 362, 3) := (congrArg (fun b => decode b 1) cd182).trans (by decide +kernel)
theorem d182_4 : decode (vm_cd 182) 4 = .ok (.lload_n 2, 1) := (congrArg (fun b => decode b 4) cd182).trans (by decide +kernel)
theorem d182_5 : decode (vm_cd 182) 5 = .ok (.invokestatic 366, 3) := (congrArg (fun b => decode b 5) cd182).trans (by decide +kernel)
theorem d182_8 : decode (vm_cd 182) 8 = .ok (.lstore 5, 2) := (congrArg (fun b => decode b 8) cd182).trans (by decide +kernel)
theorem d182_10 : decode (vm_cd 182) 10 = .ok (.iload 4, 2) := (congrArg (fun b => decode b 10) cd182).trans (by decide +kernel)
theorem d182_12 : decode (vm_cd 182) 12 = .ok (.iconst 0, 1) := (congrArg (fun b => decode b 12) cd182).trans (by decide +kernel)
theorem d182_13 : decode (vm_cd 182) 13 = .ok (.iconst 1, 1) := (congrArg (fun b => decode b 13) cd182).trans (by decide +kernel)
theorem d182_14 : decode (vm_cd 182) 14 = .ok (.invokestatic 92, 3) := (congrArg (fun b => decode b 14) cd182).trans (by decide +kernel)
theorem d182_17 : decode (vm_cd 182) 17 = .ok (.ifCond .eq 16, 3) := (congrArg (fun b => decode b 17) cd182).trans (by decide +kernel)
theorem d182_20 : decode (vm_cd 182) 20 = .ok (.lload_n 2, 1) := (congrArg (fun b => decode b 20) cd182).trans (by decide +kernel)
theorem d182_21 : decode (vm_cd 182) 21 = .ok (.lconst 0, 1) := (congrArg (fun b => decode b 21) cd182).trans (by decide +kernel)
theorem d182_22 : decode (vm_cd 182) 22 = .ok (.lcmp, 1) := (congrArg (fun b => decode b 22) cd182).trans (by decide +kernel)
theorem d182_23 : decode (vm_cd 182) 23 = .ok (.ifCond .le 10, 3) := (congrArg (fun b => decode b 23) cd182).trans (by decide +kernel)
theorem d182_26 : decode (vm_cd 182) 26 = .ok (.lload 5, 2) := (congrArg (fun b => decode b 26) cd182).trans (by decide +kernel)
theorem d182_28 : decode (vm_cd 182) 28 = .ok (.lconst 0, 1) := (congrArg (fun b => decode b 28) cd182).trans (by decide +kernel)
theorem d182_29 : decode (vm_cd 182) 29 = .ok (.lcmp, 1) := (congrArg (fun b => decode b 29) cd182).trans (by decide +kernel)
theorem d182_30 : decode (vm_cd 182) 30 = .ok (.ifCond .gt 7, 3) := (congrArg (fun b => decode b 30) cd182).trans (by decide +kernel)
theorem d182_33 : decode (vm_cd 182) 33 = .ok (.ldc2_w 130, 3) := (congrArg (fun b => decode b 33) cd182).trans (by decide +kernel)
theorem d182_36 : decode (vm_cd 182) 36 = .ok (.lreturn, 1) := (congrArg (fun b => decode b 36) cd182).trans (by decide +kernel)
theorem d182_37 : decode (vm_cd 182) 37 = .ok (.iload 4, 2) := (congrArg (fun b => decode b 37) cd182).trans (by decide +kernel)
theorem d182_39 : decode (vm_cd 182) 39 = .ok (.ifCond .ne 7, 3) := (congrArg (fun b => decode b 39) cd182).trans (by decide +kernel)
theorem d182_42 : decode (vm_cd 182) 42 = .ok (.lload_n 0, 1) := (congrArg (fun b => decode b 42) cd182).trans (by decide +kernel)
theorem d182_43 : decode (vm_cd 182) 43 = .ok (.goto 4, 3) := (congrArg (fun b => decode b 43) cd182).trans (by decide +kernel)
theorem d182_46 : decode (vm_cd 182) 46 = .ok (.lload_n 2, 1) := (congrArg (fun b => decode b 46) cd182).trans (by decide +kernel)
theorem d182_47 : decode (vm_cd 182) 47 = .ok (.lload 5, 2) := (congrArg (fun b => decode b 47) cd182).trans (by decide +kernel)
theorem d182_49 : decode (vm_cd 182) 49 = .ok (.ldiv, 1) := (congrArg (fun b => decode b 49) cd182).trans (by decide +kernel)
theorem d182_50 : decode (vm_cd 182) 50 = .ok (.lreturn, 1) := (congrArg (fun b => decode b 50) cd182).trans (by decide +kernel)
theorem c182_92 : vm_ml.lookup (vm_own 182, 92) = some (1, 179, 3, 291, 292, 0, 1) := vm_lk (by decide +kernel)
theorem c182_362 : vm_ml.lookup (vm_own 182, 362) = some (1, 283, 1, 470, 471, 0, 3) := vm_lk (by decide +kernel)
theorem c182_366 : vm_ml.lookup (vm_own 182, 366) = some (1, 183, 2, 473, 474, 0, 1) := vm_lk (by decide +kernel)
theorem g182_130 : vm_cn.lookup (vm_own 182, 130) = some ((1), (-9223372036854775808), (365)) := by decide +kernel
theorem r182 : vm_rt 182 = (some .long) := by decide +kernel
theorem B_X_part_0 {X : vX} {d : Nat} {M : vM} {Q : Option vV → vM → Prop} {l0 l2 l4 : Int}  (k : cq X d 283 [vL l0] M (fun r M1 => wp X d 182 4 [vL l0, vN, vL l2, vN, vI l4, vN, vN] (r.toList ++ []) (vS0, M1) (vP Q))) : vw X d 182 0 [vL l0, vN, vL l2, vN, vI l4, vN, vN] [] M Q := by
  refine w_lload_n d182_0 rfl ?_
  exact w_inv1 d182_1 c182_362 (by decide) rfl (Nat.le_of_ble_eq_true rfl) (cq.cl (k))
theorem B_X_part_4 {X : vX} {d : Nat} {M : vM} {Q : Option vV → vM → Prop} {l0 l2 l4 s0 : Int}  (k : cq X d 183 [vL s0, vL l2] M (fun r M1 => wp X d 182 8 [vL l0, vN, vL l2, vN, vI l4, vN, vN] (r.toList ++ []) (vS0, M1) (vP Q))) : vw X d 182 4 [vL l0, vN, vL l2, vN, vI l4, vN, vN] [vL s0] M Q := by
  refine w_lload_n d182_4 rfl ?_
  exact w_inv1 d182_5 c182_366 (by decide) rfl (Nat.le_of_ble_eq_true rfl) (cq.cl (k))
theorem B_X_part_8 {X : vX} {d : Nat} {M : vM} {Q : Option vV → vM → Prop} {l0 l2 l4 s0 : Int}  (k : cq X d 179 [vI l4, vI 0, vI 1] M (fun r M1 => wp X d 182 17 [vL l0, vN, vL l2, vN, vI l4, vL s0, vN] (r.toList ++ []) (vS0, M1) (vP Q))) : vw X d 182 8 [vL l0, vN, vL l2, vN, vI l4, vN, vN] [vL s0] M Q := by
  refine w_lstoreE (ls' := [vL l0, vN, vL l2, vN, vI l4, vL s0, vN]) d182_8 (Nat.le_of_ble_eq_true rfl) rfl ?_
  refine w_iload d182_10 rfl ?_
  refine w_ic (v := 0) d182_12 rfl ?_
  refine w_ic (v := 1) d182_13 rfl ?_
  exact w_inv1 d182_14 c182_92 (by decide) rfl (Nat.le_of_ble_eq_true rfl) (cq.cl (k))
theorem B_X_part_17 {X : vX} {d : Nat} {M : vM} {Q : Option vV → vM → Prop} {l0 l2 l4 l5 s0 : Int}  (k1 : s0 = 0 → vw X d 182 33 [vL l0, vN, vL l2, vN, vI l4, vL l5, vN] [] M Q) (k2 : ¬ s0 = 0 → vw X d 182 20 [vL l0, vN, vL l2, vN, vI l4, vL l5, vN] [] M Q) : vw X d 182 17 [vL l0, vN, vL l2, vN, vI l4, vL l5, vN] [vI s0] M Q := by
  exact w_if_eq d182_17 rfl (fun h => k1 h) (fun h => k2 h)
theorem B_X_part_20 {X : vX} {d : Nat} {M : vM} {Q : Option vV → vM → Prop} {l0 l2 l4 l5 : Int}  (k1 : l2 ≤ 0 → vw X d 182 33 [vL l0, vN, vL l2, vN, vI l4, vL l5, vN] [] M Q) (k2 : 0 < l2 → vw X d 182 26 [vL l0, vN, vL l2, vN, vI l4, vL l5, vN] [] M Q) : vw X d 182 20 [vL l0, vN, vL l2, vN, vI l4, vL l5, vN] [] M Q := by
  refine w_lload_n d182_20 rfl ?_
  refine w_lc (v := 0) d182_21 rfl ?_
  exact w_lc_le d182_22 d182_23 rfl (fun h => k1 h) (fun h => k2 h)
theorem B_X_part_26 {X : vX} {d : Nat} {M : vM} {Q : Option vV → vM → Prop} {l0 l2 l4 l5 : Int}  (k1 : 0 < l5 → vw X d 182 37 [vL l0, vN, vL l2, vN, vI l4, vL l5, vN] [] M Q) (k2 : l5 ≤ 0 → vw X d 182 33 [vL l0, vN, vL l2, vN, vI l4, vL l5, vN] [] M Q) : vw X d 182 26 [vL l0, vN, vL l2, vN, vI l4, vL l5, vN] [] M Q := by
  refine w_lload d182_26 rfl ?_
  refine w_lc (v := 0) d182_28 rfl ?_
  exact w_lc_gt d182_29 d182_30 rfl (fun h => k1 h) (fun h => k2 h)
theorem B_X_part_33 {X : vX} {d : Nat} {M : vM} {Q : Option vV → vM → Prop} {l0 l2 l4 l5 : Int}  (k : Q (some (vL ((-9223372036854775808)))) M) : vw X d 182 33 [vL l0, vN, vL l2, vN, vI l4, vL l5, vN] [] M Q := by
  refine w_ldc2_w (v := (-9223372036854775808)) d182_33 g182_130 rfl ?_
  exact w_lret d182_36 r182 ⟨_, rfl, k⟩
theorem B_X_part_37 {X : vX} {d : Nat} {M : vM} {Q : Option vV → vM → Prop} {l0 l2 l4 l5 : Int}  (k1 : ¬ l4 = 0 → vw X d 182 46 [vL l0, vN, vL l2, vN, vI l4, vL l5, vN] [] M Q) (k2 : l4 = 0 → vw X d 182 42 [vL l0, vN, vL l2, vN, vI l4, vL l5, vN] [] M Q) : vw X d 182 37 [vL l0, vN, vL l2, vN, vI l4, vL l5, vN] [] M Q := by
  refine w_iload d182_37 rfl ?_
  exact w_if_ne d182_39 rfl (fun h => k1 h) (fun h => k2 h)
theorem B_X_part_42 {X : vX} {d : Nat} {M : vM} {Q : Option vV → vM → Prop} {l0 l2 l4 l5 : Int} (h1 : l5 ≠ 0) (k : Q (some (vL (j_ldiv l0 l5))) M) : vw X d 182 42 [vL l0, vN, vL l2, vN, vI l4, vL l5, vN] [] M Q := by
  refine w_lload_n d182_42 rfl ?_
  refine w_goto (tgt := 47) d182_43 rfl ?_
  refine w_lload d182_47 rfl ?_
  refine w_ldiv d182_49 h1 ?_
  exact w_lret d182_50 r182 ⟨_, rfl, k⟩
theorem B_X_part_46 {X : vX} {d : Nat} {M : vM} {Q : Option vV → vM → Prop} {l0 l2 l4 l5 : Int} (h1 : l5 ≠ 0) (k : Q (some (vL (j_ldiv l2 l5))) M) : vw X d 182 46 [vL l0, vN, vL l2, vN, vI l4, vL l5, vN] [] M Q := by
  refine w_lload_n d182_46 rfl ?_
  refine w_lload d182_47 rfl ?_
  refine w_ldiv d182_49 h1 ?_
  exact w_lret d182_50 r182 ⟨_, rfl, k⟩
theorem E_X_part {X : vX} {d : Nat} {M : vM} {Q : Option vV → vM → Prop} {l0 l2 l4 : Int} (k : vw X d 182 0 [vL l0, vN, vL l2, vN, vI l4, vN, vN] [] M Q) : cq X (d + 1) 182 [vL l0, vL l2, vI l4] M Q := wc_in (Nat.le_of_ble_eq_true rfl) (Nat.le_of_ble_eq_true rfl) k
theorem cd183 : vm_cd 183 = cX11_commonDivisor := rfl
theorem d183_0 : decode (vm_cd 183) 0 = .ok (.lload_n 0, 1) := (congrArg (fun b => decode b 0) cd183).trans (by decide +kernel)
theorem d183_1 : decode (vm_cd 183) 1 = .ok (.lstore 4, 2) := (congrArg (fun b => decode b 1) cd183).trans (by decide +kernel)
theorem d183_3 : decode (vm_cd 183) 3 = .ok (.lload_n 2, 1) := (congrArg (fun b => decode b 3) cd183).trans (by decide +kernel)
theorem d183_4 : decode (vm_cd 183) 4 = .ok (.lstore 6, 2) := (congrArg (fun b => decode b 4) cd183).trans (by decide +kernel)
theorem d183_6 : decode (vm_cd 183) 6 = .ok (.iconst 0, 1) := (congrArg (fun b => decode b 6) cd183).trans (by decide +kernel)
theorem d183_7 : decode (vm_cd 183) 7 = .ok (.istore 8, 2) := (congrArg (fun b => decode b 7) cd183).trans (by decide +kernel)
theorem d183_9 : decode (vm_cd 183) 9 = .ok (.iload 8, 2) := (congrArg (fun b => decode b 9) cd183).trans (by decide +kernel)
theorem d183_11 : decode (vm_cd 183) 11 = .ok (.sipush 1000, 3) := (congrArg (fun b => decode b 11) cd183).trans (by decide +kernel)
theorem d183_14 : decode (vm_cd 183) 14 = .ok (.if_icmp .ge 31, 3) := (congrArg (fun b => decode b 14) cd183).trans (by decide +kernel)
theorem d183_17 : decode (vm_cd 183) 17 = .ok (.lload 6, 2) := (congrArg (fun b => decode b 17) cd183).trans (by decide +kernel)
theorem d183_19 : decode (vm_cd 183) 19 = .ok (.lconst 0, 1) := (congrArg (fun b => decode b 19) cd183).trans (by decide +kernel)
theorem d183_20 : decode (vm_cd 183) 20 = .ok (.lcmp, 1) := (congrArg (fun b => decode b 20) cd183).trans (by decide +kernel)
theorem d183_21 : decode (vm_cd 183) 21 = .ok (.ifCond .eq 24, 3) := (congrArg (fun b => decode b 21) cd183).trans (by decide +kernel)
theorem d183_24 : decode (vm_cd 183) 24 = .ok (.lload 4, 2) := (congrArg (fun b => decode b 24) cd183).trans (by decide +kernel)
theorem d183_26 : decode (vm_cd 183) 26 = .ok (.lload 6, 2) := (congrArg (fun b => decode b 26) cd183).trans (by decide +kernel)
theorem d183_28 : decode (vm_cd 183) 28 = .ok (.lrem, 1) := (congrArg (fun b => decode b 28) cd183).trans (by decide +kernel)
theorem d183_29 : decode (vm_cd 183) 29 = .ok (.lstore 9, 2) := (congrArg (fun b => decode b 29) cd183).trans (by decide +kernel)
theorem d183_31 : decode (vm_cd 183) 31 = .ok (.lload 6, 2) := (congrArg (fun b => decode b 31) cd183).trans (by decide +kernel)
theorem d183_33 : decode (vm_cd 183) 33 = .ok (.lstore 4, 2) := (congrArg (fun b => decode b 33) cd183).trans (by decide +kernel)
theorem d183_35 : decode (vm_cd 183) 35 = .ok (.lload 9, 2) := (congrArg (fun b => decode b 35) cd183).trans (by decide +kernel)
theorem d183_37 : decode (vm_cd 183) 37 = .ok (.lstore 6, 2) := (congrArg (fun b => decode b 37) cd183).trans (by decide +kernel)
theorem d183_39 : decode (vm_cd 183) 39 = .ok (.iinc 8 1, 3) := (congrArg (fun b => decode b 39) cd183).trans (by decide +kernel)
theorem d183_42 : decode (vm_cd 183) 42 = .ok (.goto (-33), 3) := (congrArg (fun b => decode b 42) cd183).trans (by decide +kernel)
theorem d183_45 : decode (vm_cd 183) 45 = .ok (.lload 4, 2) := (congrArg (fun b => decode b 45) cd183).trans (by decide +kernel)
theorem d183_47 : decode (vm_cd 183) 47 = .ok (.lreturn, 1) := (congrArg (fun b => decode b 47) cd183).trans (by decide +kernel)
theorem r183 : vm_rt 183 = (some .long) := by decide +kernel
theorem B_X_commonDivisor_0 {X : vX} {d : Nat} {M : vM} {Q : Option vV → vM → Prop} {l0 l2 : Int}  (k : vw X d 183 9 [vL l0, vN, vL l2, vN, vL l0, vN, vL l2, vN, vI 0, vN, vN] [] M Q) : vw X d 183 0 [vL l0, vN, vL l2, vN, vN, vN, vN, vN, vN, vN, vN] [] M Q := by
  refine w_lload_n d183_0 rfl ?_
  refine w_lstoreE (ls' := [vL l0, vN, vL l2, vN, vL l0, vN, vN, vN, vN, vN, vN]) d183_1 (Nat.le_of_ble_eq_true rfl) rfl ?_
  refine w_lload_n d183_3 rfl ?_
  refine w_lstoreE (ls' := [vL l0, vN, vL l2, vN, vL l0, vN, vL l2, vN, vN, vN, vN]) d183_4 (Nat.le_of_ble_eq_true rfl) rfl ?_
  refine w_ic (v := 0) d183_6 rfl ?_
  refine w_istoreE (ls' := [vL l0, vN, vL l2, vN, vL l0, vN, vL l2, vN, vI 0, vN, vN]) d183_7 (Nat.le_of_ble_eq_true rfl) rfl ?_
  exact k
theorem B_X_commonDivisor_9 {X : vX} {d : Nat} {M : vM} {Q : Option vV → vM → Prop} {l0 l2 l4 l6 l8 : Int} {w9 : vV}  (k1 : 1000 ≤ l8 → vw X d 183 45 [vL l0, vN, vL l2, vN, vL l4, vN, vL l6, vN, vI l8, w9, vN] [] M Q) (k2 : l8 < 1000 → vw X d 183 17 [vL l0, vN, vL l2, vN, vL l4, vN, vL l6, vN, vI l8, w9, vN] [] M Q) : vw X d 183 9 [vL l0, vN, vL l2, vN, vL l4, vN, vL l6, vN, vI l8, w9, vN] [] M Q := by
  refine w_iload d183_9 rfl ?_
  refine w_si (v := 1000) d183_11 rfl ?_
  exact w_icmp_ge d183_14 rfl (fun h => k1 h) (fun h => k2 h)
theorem B_X_commonDivisor_17 {X : vX} {d : Nat} {M : vM} {Q : Option vV → vM → Prop} {l0 l2 l4 l6 l8 : Int} {w9 : vV}  (k1 : l6 = 0 → vw X d 183 45 [vL l0, vN, vL l2, vN, vL l4, vN, vL l6, vN, vI l8, w9, vN] [] M Q) (k2 : ¬ l6 = 0 → vw X d 183 24 [vL l0, vN, vL l2, vN, vL l4, vN, vL l6, vN, vI l8, w9, vN] [] M Q) : vw X d 183 17 [vL l0, vN, vL l2, vN, vL l4, vN, vL l6, vN, vI l8, w9, vN] [] M Q := by
  refine w_lload d183_17 rfl ?_
  refine w_lc (v := 0) d183_19 rfl ?_
  exact w_lc_eq d183_20 d183_21 rfl (fun h => k1 h) (fun h => k2 h)
theorem B_X_commonDivisor_24 {X : vX} {d : Nat} {M : vM} {Q : Option vV → vM → Prop} {l0 l2 l4 l6 l8 : Int} {w9 : vV} (h1 : l6 ≠ 0) (k : vw X d 183 9 [vL l0, vN, vL l2, vN, vL l6, vN, vL (j_lrem l4 l6), vN, vI (w32 (l8 + 1)), vL (j_lrem l4 l6), vN] [] M Q) : vw X d 183 24 [vL l0, vN, vL l2, vN, vL l4, vN, vL l6, vN, vI l8, w9, vN] [] M Q := by
  refine w_lload d183_24 rfl ?_
  refine w_lload d183_26 rfl ?_
  refine w_lrem d183_28 h1 ?_
  refine w_lstoreE (ls' := [vL l0, vN, vL l2, vN, vL l4, vN, vL l6, vN, vI l8, vL (j_lrem l4 l6), vN]) d183_29 (Nat.le_of_ble_eq_true rfl) rfl ?_
  refine w_lload d183_31 rfl ?_
  refine w_lstoreE (ls' := [vL l0, vN, vL l2, vN, vL l6, vN, vL l6, vN, vI l8, vL (j_lrem l4 l6), vN]) d183_33 (Nat.le_of_ble_eq_true rfl) rfl ?_
  refine w_lload d183_35 rfl ?_
  refine w_lstoreE (ls' := [vL l0, vN, vL l2, vN, vL l6, vN, vL (j_lrem l4 l6), vN, vI l8, vL (j_lrem l4 l6), vN]) d183_37 (Nat.le_of_ble_eq_true rfl) rfl ?_
  refine w_iincE (ls' := [vL l0, vN, vL l2, vN, vL l6, vN, vL (j_lrem l4 l6), vN, vI (w32 (l8 + 1)), vL (j_lrem l4 l6), vN]) d183_39 rfl rfl ?_
  refine w_goto (tgt := 9) d183_42 rfl ?_
  exact k
theorem B_X_commonDivisor_45 {X : vX} {d : Nat} {M : vM} {Q : Option vV → vM → Prop} {l0 l2 l4 l6 l8 : Int} {w9 : vV}  (k : Q (some (vL l4)) M) : vw X d 183 45 [vL l0, vN, vL l2, vN, vL l4, vN, vL l6, vN, vI l8, w9, vN] [] M Q := by
  refine w_lload d183_45 rfl ?_
  exact w_lret d183_47 r183 ⟨_, rfl, k⟩
theorem E_X_commonDivisor {X : vX} {d : Nat} {M : vM} {Q : Option vV → vM → Prop} {l0 l2 : Int} (k : vw X d 183 0 [vL l0, vN, vL l2, vN, vN, vN, vN, vN, vN, vN, vN] [] M Q) : cq X (d + 1) 183 [vL l0, vL l2] M Q := wc_in (Nat.le_of_ble_eq_true rfl) (Nat.le_of_ble_eq_true rfl) k
