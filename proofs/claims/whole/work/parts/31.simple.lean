/-! OPERATIONS that have no loop: both sides, path by path (gen5.py) -/
theorem op_cost {X : vX} {d : Nat} {M : vM} {a0 a1 : Int} (hr : Rel M) : cq X (d + 40) 129 [vR 0, vI a0, vI a1] M (fun v M1 => cq X (d + 40) 191 [vR 81, vI a0, vI a1] M1 (fun v2 M2 => v2 = v ∧ Rel M2)) := by
  obtain ⟨hR, hA, -⟩ := id hr
  obtain ⟨⟨as1, as2⟩, as3, ⟨an1, an2⟩, an3, ⟨ar1, ar2⟩, ar3, -⟩ := hA
  have := w32_id (x := M 81 1 - 1) (by omega) (by omega)
  have := w32_id (x := M 81 0 - 1) (by omega) (by omega)
  refine E_X_cost ?_
  refine B_X_cost_0 hR ?_
  refine E_Ac_isAct ?_
  refine B_Ac_isAct_0 (fun h1 => ?_) (fun h2 => ?_)
  · refine B_Ac_isAct_16 ?_
    refine B_X_cost_8 (fun h3 => by exfalso; omega) (fun h3 => ?_)
    refine B_X_cost_11 ?_
    refine E_R_cost ?_
    refine B_R_cost_0 ?_
    refine E_R_isAct ?_
    refine B_R_isAct_0 ?_
    refine E_R_in ?_
    refine B_R_in_0 (fun h4 => ?_) (fun h4 => by exfalso; omega)
    refine B_R_in_17 ?_
    refine B_R_isAct_13 (by omega) ?_
    refine B_R_cost_5 (fun h5 => by exfalso; omega) (fun h5 => ?_)
    refine B_R_cost_8 ?_
    exact ⟨rfl, hr⟩
  · refine B_Ac_isAct_4 (fun h6 => ?_) (fun h7 => ?_)
    · refine B_Ac_isAct_16 ?_
      refine B_X_cost_8 (fun h8 => by exfalso; omega) (fun h8 => ?_)
      refine B_X_cost_11 ?_
      refine E_R_cost ?_
      refine B_R_cost_0 ?_
      refine E_R_isAct ?_
      refine B_R_isAct_0 ?_
      refine E_R_in ?_
      refine B_R_in_0 (fun h9 => by exfalso; omega) (fun h9 => ?_)
      refine B_R_in_6 (fun h10 => ?_) (fun h11 => ?_)
      · refine B_R_in_17 ?_
        refine B_R_isAct_13 (by omega) ?_
        refine B_R_cost_5 (fun h12 => by exfalso; omega) (fun h12 => ?_)
        refine B_R_cost_8 ?_
        exact ⟨rfl, hr⟩
      · refine B_R_in_13 ?_
        refine B_R_isAct_13 (by omega) ?_
        refine B_R_cost_5 (fun h13 => ?_) (fun h13 => by exfalso; omega)
        refine B_R_cost_10 ?_
        refine E_R_in ?_
        refine B_R_in_0 (fun h14 => ?_) (fun h15 => ?_)
        · refine B_R_in_17 ?_
          refine B_R_cost_19 (fun h16 => by exfalso; omega) (fun h16 => ?_)
          refine B_R_cost_22 ?_
          exfalso; omega
        · refine B_R_in_6 (fun h17 => ?_) (fun h18 => ?_)
          · refine B_R_in_17 ?_
            refine B_R_cost_19 (fun h19 => by exfalso; omega) (fun h19 => ?_)
            refine B_R_cost_22 ?_
            exfalso; omega
          · refine B_R_in_13 ?_
            refine B_R_cost_19 (fun h20 => ?_) (fun h20 => by exfalso; omega)
            refine B_R_cost_25 hR (by omega) (by omega) (fun hR21 => ?_)
            exfalso; omega
    · refine B_Ac_isAct_12 ?_
      refine B_X_cost_8 (fun h22 => ?_) (fun h22 => by exfalso; omega)
      refine B_X_cost_13 ?_
      refine E_X_within ?_
      refine B_X_within_0 (fun h23 => ?_) (fun h24 => ?_)
      · refine B_X_within_14 ?_
        refine B_X_cost_20 (fun h25 => ?_) (fun h25 => by exfalso; omega)
        refine B_X_cost_35 ?_
        refine E_R_cost ?_
        refine B_R_cost_0 ?_
        refine E_R_isAct ?_
        refine B_R_isAct_0 ?_
        refine E_R_in ?_
        refine B_R_in_0 (fun h26 => by exfalso; omega) (fun h26 => ?_)
        refine B_R_in_6 (fun h27 => ?_) (fun h28 => ?_)
        · refine B_R_in_17 ?_
          refine B_R_isAct_13 (by omega) ?_
          refine B_R_cost_5 (fun h29 => by exfalso; omega) (fun h29 => ?_)
          refine B_R_cost_8 ?_
          exfalso; omega
        · refine B_R_in_13 ?_
          refine B_R_isAct_13 (by omega) ?_
          refine B_R_cost_5 (fun h30 => ?_) (fun h30 => by exfalso; omega)
          refine B_R_cost_10 ?_
          refine E_R_in ?_
          refine B_R_in_0 (fun h31 => ?_) (fun h31 => by exfalso; omega)
          refine B_R_in_17 ?_
          refine B_R_cost_19 (fun h32 => by exfalso; omega) (fun h32 => ?_)
          refine B_R_cost_22 ?_
          exact ⟨rfl, hr⟩
      · refine B_X_within_5 (fun h33 => ?_) (fun h34 => ?_)
        · refine B_X_within_14 ?_
          refine B_X_cost_20 (fun h35 => ?_) (fun h35 => by exfalso; omega)
          refine B_X_cost_35 ?_
          refine E_R_cost ?_
          refine B_R_cost_0 ?_
          refine E_R_isAct ?_
          refine B_R_isAct_0 ?_
          refine E_R_in ?_
          refine B_R_in_0 (fun h36 => by exfalso; omega) (fun h36 => ?_)
          refine B_R_in_6 (fun h37 => ?_) (fun h38 => ?_)
          · refine B_R_in_17 ?_
            refine B_R_isAct_13 (by omega) ?_
            refine B_R_cost_5 (fun h39 => by exfalso; omega) (fun h39 => ?_)
            refine B_R_cost_8 ?_
            exfalso; omega
          · refine B_R_in_13 ?_
            refine B_R_isAct_13 (by omega) ?_
            refine B_R_cost_5 (fun h40 => ?_) (fun h40 => by exfalso; omega)
            refine B_R_cost_10 ?_
            refine E_R_in ?_
            refine B_R_in_0 (fun h41 => by exfalso; omega) (fun h41 => ?_)
            refine B_R_in_6 (fun h42 => ?_) (fun h42 => by exfalso; omega)
            refine B_R_in_17 ?_
            refine B_R_cost_19 (fun h43 => by exfalso; omega) (fun h43 => ?_)
            refine B_R_cost_22 ?_
            exact ⟨rfl, hr⟩
        · refine B_X_within_10 ?_
          refine B_X_cost_20 (fun h44 => by exfalso; omega) (fun h44 => ?_)
          refine B_X_cost_23 hR ?_
          refine E_Ac_setCost ?_
          refine B_Ac_setCost_0 hR (by omega) (by omega) (fun hR45 => ?_)
          refine B_X_cost_32 ?_
          generalize hM1 : vm_up M 2 a0.toNat a1 = M1 at hR45 ⊢
          have hf : ∀ b, 81 ≤ b → M1 b = M b := fun b hb => by
            rw [← hM1]
            repeat rw [vm_up_o (by omega)]
          have e81_0 : M1 81 0 = M 81 0 := by rw [hf 81 (by omega)]
          have e81_1 : M1 81 1 = M 81 1 := by rw [hf 81 (by omega)]
          have e81_6 : M1 81 6 = M 81 6 := by rw [hf 81 (by omega)]
          have := w32_id (x := M1 81 1 - 1) (by omega) (by omega)
          have := w32_id (x := M1 81 0 - 1) (by omega) (by omega)
          refine E_R_cost ?_
          refine B_R_cost_0 ?_
          refine E_R_isAct ?_
          refine B_R_isAct_0 ?_
          refine E_R_in ?_
          refine B_R_in_0 (fun h46 => by exfalso; omega) (fun h46 => ?_)
          refine B_R_in_6 (fun h47 => ?_) (fun h48 => ?_)
          · refine B_R_in_17 ?_
            refine B_R_isAct_13 (by omega) ?_
            refine B_R_cost_5 (fun h49 => by exfalso; omega) (fun h49 => ?_)
            refine B_R_cost_8 ?_
            exfalso; omega
          · refine B_R_in_13 ?_
            refine B_R_isAct_13 (by omega) ?_
            refine B_R_cost_5 (fun h50 => ?_) (fun h50 => by exfalso; omega)
            refine B_R_cost_10 ?_
            refine E_R_in ?_
            refine B_R_in_0 (fun h51 => by exfalso; omega) (fun h51 => ?_)
            refine B_R_in_6 (fun h52 => by exfalso; omega) (fun h52 => ?_)
            refine B_R_in_13 ?_
            refine B_R_cost_19 (fun h53 => ?_) (fun h53 => by exfalso; omega)
            refine B_R_cost_25 hR45 (by omega) (by omega) (fun hR54 => ?_)
            subst hM1; exact lf_cost hr (by omega) (by omega)
theorem op_value {X : vX} {d : Nat} {M : vM} {a0 a1 : Int} (hr : Rel M) : cq X (d + 40) 131 [vR 0, vI a0, vI a1] M (fun v M1 => cq X (d + 40) 193 [vR 81, vI a0, vI a1] M1 (fun v2 M2 => v2 = v ∧ Rel M2)) := by
  obtain ⟨hR, hA, -⟩ := id hr
  obtain ⟨⟨as1, as2⟩, as3, ⟨an1, an2⟩, an3, ⟨ar1, ar2⟩, ar3, -⟩ := hA
  have := w32_id (x := M 81 1 - 1) (by omega) (by omega)
  have := w32_id (x := M 81 0 - 1) (by omega) (by omega)
  refine E_X_value ?_
  refine B_X_value_0 hR ?_
  refine E_Ac_isSight ?_
  refine B_Ac_isSight_0 (fun h1 => ?_) (fun h2 => ?_)
  · refine B_Ac_isSight_16 ?_
    refine B_X_value_8 (fun h3 => ?_) (fun h3 => by exfalso; omega)
    refine B_X_value_22 ?_
    refine E_R_value ?_
    refine B_R_value_0 ?_
    refine E_R_isSight ?_
    refine B_R_isSight_0 ?_
    refine E_R_in ?_
    refine B_R_in_0 (fun h4 => ?_) (fun h4 => by exfalso; omega)
    refine B_R_in_17 ?_
    refine B_R_isSight_13 (by omega) ?_
    refine B_R_value_5 (fun h5 => ?_) (fun h5 => by exfalso; omega)
    refine B_R_value_22 ?_
    exact ⟨rfl, hr⟩
  · refine B_Ac_isSight_4 (fun h6 => ?_) (fun h7 => ?_)
    · refine B_Ac_isSight_16 ?_
      refine B_X_value_8 (fun h8 => ?_) (fun h8 => by exfalso; omega)
      refine B_X_value_22 ?_
      refine E_R_value ?_
      refine B_R_value_0 ?_
      refine E_R_isSight ?_
      refine B_R_isSight_0 ?_
      refine E_R_in ?_
      refine B_R_in_0 (fun h9 => by exfalso; omega) (fun h9 => ?_)
      refine B_R_in_6 (fun h10 => ?_) (fun h11 => ?_)
      · refine B_R_in_17 ?_
        refine B_R_isSight_13 (by omega) ?_
        refine B_R_value_5 (fun h12 => ?_) (fun h12 => by exfalso; omega)
        refine B_R_value_22 ?_
        exact ⟨rfl, hr⟩
      · refine B_R_in_13 ?_
        refine B_R_isSight_13 (by omega) ?_
        refine B_R_value_5 (fun h13 => by exfalso; omega) (fun h13 => ?_)
        refine B_R_value_8 ?_
        refine E_R_in ?_
        refine B_R_in_0 (fun h14 => ?_) (fun h15 => ?_)
        · refine B_R_in_17 ?_
          refine B_R_value_19 (fun h16 => by exfalso; omega) (fun h16 => ?_)
          refine B_R_value_22 ?_
          exact ⟨rfl, hr⟩
        · refine B_R_in_6 (fun h17 => ?_) (fun h18 => ?_)
          · refine B_R_in_17 ?_
            refine B_R_value_19 (fun h19 => by exfalso; omega) (fun h19 => ?_)
            refine B_R_value_22 ?_
            exact ⟨rfl, hr⟩
          · refine B_R_in_13 ?_
            refine B_R_value_19 (fun h20 => ?_) (fun h20 => by exfalso; omega)
            refine B_R_value_26 hR (by omega) (by omega) (fun hR21 => ?_)
            exfalso; omega
    · refine B_Ac_isSight_12 ?_
      refine B_X_value_8 (fun h22 => by exfalso; omega) (fun h22 => ?_)
      refine B_X_value_11 ?_
      refine E_X_within ?_
      refine B_X_within_0 (fun h23 => ?_) (fun h24 => ?_)
      · refine B_X_within_14 ?_
        refine B_X_value_19 (fun h25 => by exfalso; omega) (fun h25 => ?_)
        refine B_X_value_22 ?_
        refine E_R_value ?_
        refine B_R_value_0 ?_
        refine E_R_isSight ?_
        refine B_R_isSight_0 ?_
        refine E_R_in ?_
        refine B_R_in_0 (fun h26 => by exfalso; omega) (fun h26 => ?_)
        refine B_R_in_6 (fun h27 => ?_) (fun h28 => ?_)
        · refine B_R_in_17 ?_
          refine B_R_isSight_13 (by omega) ?_
          refine B_R_value_5 (fun h29 => ?_) (fun h29 => by exfalso; omega)
          refine B_R_value_22 ?_
          exact ⟨rfl, hr⟩
        · refine B_R_in_13 ?_
          refine B_R_isSight_13 (by omega) ?_
          refine B_R_value_5 (fun h30 => by exfalso; omega) (fun h30 => ?_)
          refine B_R_value_8 ?_
          refine E_R_in ?_
          refine B_R_in_0 (fun h31 => ?_) (fun h31 => by exfalso; omega)
          refine B_R_in_17 ?_
          refine B_R_value_19 (fun h32 => by exfalso; omega) (fun h32 => ?_)
          refine B_R_value_22 ?_
          exact ⟨rfl, hr⟩
      · refine B_X_within_5 (fun h33 => ?_) (fun h34 => ?_)
        · refine B_X_within_14 ?_
          refine B_X_value_19 (fun h35 => by exfalso; omega) (fun h35 => ?_)
          refine B_X_value_22 ?_
          refine E_R_value ?_
          refine B_R_value_0 ?_
          refine E_R_isSight ?_
          refine B_R_isSight_0 ?_
          refine E_R_in ?_
          refine B_R_in_0 (fun h36 => by exfalso; omega) (fun h36 => ?_)
          refine B_R_in_6 (fun h37 => ?_) (fun h38 => ?_)
          · refine B_R_in_17 ?_
            refine B_R_isSight_13 (by omega) ?_
            refine B_R_value_5 (fun h39 => ?_) (fun h39 => by exfalso; omega)
            refine B_R_value_22 ?_
            exact ⟨rfl, hr⟩
          · refine B_R_in_13 ?_
            refine B_R_isSight_13 (by omega) ?_
            refine B_R_value_5 (fun h40 => by exfalso; omega) (fun h40 => ?_)
            refine B_R_value_8 ?_
            refine E_R_in ?_
            refine B_R_in_0 (fun h41 => by exfalso; omega) (fun h41 => ?_)
            refine B_R_in_6 (fun h42 => ?_) (fun h42 => by exfalso; omega)
            refine B_R_in_17 ?_
            refine B_R_value_19 (fun h43 => by exfalso; omega) (fun h43 => ?_)
            refine B_R_value_22 ?_
            exact ⟨rfl, hr⟩
        · refine B_X_within_10 ?_
          refine B_X_value_19 (fun h44 => ?_) (fun h44 => by exfalso; omega)
          refine B_X_value_26 hR ?_
          refine E_Ac_setValue ?_
          refine B_Ac_setValue_0 hR (by omega) (by omega) (fun hR45 => ?_)
          refine B_X_value_35 ?_
          generalize hM1 : vm_up M 12 a0.toNat a1 = M1 at hR45 ⊢
          have hf : ∀ b, 81 ≤ b → M1 b = M b := fun b hb => by
            rw [← hM1]
            repeat rw [vm_up_o (by omega)]
          have e81_0 : M1 81 0 = M 81 0 := by rw [hf 81 (by omega)]
          have e81_1 : M1 81 1 = M 81 1 := by rw [hf 81 (by omega)]
          have e81_6 : M1 81 6 = M 81 6 := by rw [hf 81 (by omega)]
          have := w32_id (x := M1 81 1 - 1) (by omega) (by omega)
          have := w32_id (x := M1 81 0 - 1) (by omega) (by omega)
          refine E_R_value ?_
          refine B_R_value_0 ?_
          refine E_R_isSight ?_
          refine B_R_isSight_0 ?_
          refine E_R_in ?_
          refine B_R_in_0 (fun h46 => by exfalso; omega) (fun h46 => ?_)
          refine B_R_in_6 (fun h47 => ?_) (fun h48 => ?_)
          · refine B_R_in_17 ?_
            refine B_R_isSight_13 (by omega) ?_
            refine B_R_value_5 (fun h49 => ?_) (fun h49 => by exfalso; omega)
            refine B_R_value_22 ?_
            exfalso; omega
          · refine B_R_in_13 ?_
            refine B_R_isSight_13 (by omega) ?_
            refine B_R_value_5 (fun h50 => by exfalso; omega) (fun h50 => ?_)
            refine B_R_value_8 ?_
            refine E_R_in ?_
            refine B_R_in_0 (fun h51 => by exfalso; omega) (fun h51 => ?_)
            refine B_R_in_6 (fun h52 => by exfalso; omega) (fun h52 => ?_)
            refine B_R_in_13 ?_
            refine B_R_value_19 (fun h53 => ?_) (fun h53 => by exfalso; omega)
            refine B_R_value_26 hR45 (by omega) (by omega) (fun hR54 => ?_)
            subst hM1; exact lf_value hr (by omega) (by omega)
theorem op_reserve {X : vX} {d : Nat} {M : vM} {a0 : Int} (hr : Rel M) : cq X (d + 40) 132 [vR 0, vI a0] M (fun v M1 => cq X (d + 40) 194 [vR 81, vI a0] M1 (fun v2 M2 => v2 = v ∧ Rel M2)) := by
  obtain ⟨hR, hA, -⟩ := id hr
  obtain ⟨⟨as1, as2⟩, as3, ⟨an1, an2⟩, an3, ⟨ar1, ar2⟩, ar3, -⟩ := hA
  have := w32_id (x := M 81 1 - 1) (by omega) (by omega)
  have := w32_id (x := M 81 0 - 1) (by omega) (by omega)
  refine E_X_reserve ?_
  refine B_X_reserve_0 ?_
  refine E_X_within ?_
  refine B_X_within_0 (fun h1 => ?_) (fun h2 => ?_)
  · refine B_X_within_14 ?_
    refine B_X_reserve_7 (fun h3 => ?_) (fun h3 => by exfalso; omega)
    refine B_X_reserve_21 ?_
    refine E_R_reserve ?_
    refine B_R_reserve_0 ?_
    refine E_R_in ?_
    refine B_R_in_0 (fun h4 => ?_) (fun h4 => by exfalso; omega)
    refine B_R_in_17 ?_
    refine B_R_reserve_9 (fun h5 => by exfalso; omega) (fun h5 => ?_)
    refine B_R_reserve_12 ?_
    exact ⟨rfl, hr⟩
  · refine B_X_within_5 (fun h6 => ?_) (fun h7 => ?_)
    · refine B_X_within_14 ?_
      refine B_X_reserve_7 (fun h8 => ?_) (fun h8 => by exfalso; omega)
      refine B_X_reserve_21 ?_
      refine E_R_reserve ?_
      refine B_R_reserve_0 ?_
      refine E_R_in ?_
      refine B_R_in_0 (fun h9 => by exfalso; omega) (fun h9 => ?_)
      refine B_R_in_6 (fun h10 => ?_) (fun h10 => by exfalso; omega)
      refine B_R_in_17 ?_
      refine B_R_reserve_9 (fun h11 => by exfalso; omega) (fun h11 => ?_)
      refine B_R_reserve_12 ?_
      exact ⟨rfl, hr⟩
    · refine B_X_within_10 ?_
      refine B_X_reserve_7 (fun h12 => by exfalso; omega) (fun h12 => ?_)
      refine B_X_reserve_10 hR ?_
      refine E_Ac_setReserve ?_
      refine B_Ac_setReserve_0 hR (fun hR13 => ?_)
      refine B_X_reserve_18 ?_
      generalize hM1 : vm_up M 1 5 a0 = M1 at hR13 ⊢
      have hf : ∀ b, 81 ≤ b → M1 b = M b := fun b hb => by
        rw [← hM1]
        repeat rw [vm_up_o (by omega)]
      have e81_0 : M1 81 0 = M 81 0 := by rw [hf 81 (by omega)]
      have e81_1 : M1 81 1 = M 81 1 := by rw [hf 81 (by omega)]
      have e81_6 : M1 81 6 = M 81 6 := by rw [hf 81 (by omega)]
      have := w32_id (x := M1 81 1 - 1) (by omega) (by omega)
      have := w32_id (x := M1 81 0 - 1) (by omega) (by omega)
      refine E_R_reserve ?_
      refine B_R_reserve_0 ?_
      refine E_R_in ?_
      refine B_R_in_0 (fun h14 => by exfalso; omega) (fun h14 => ?_)
      refine B_R_in_6 (fun h15 => by exfalso; omega) (fun h15 => ?_)
      refine B_R_in_13 ?_
      refine B_R_reserve_9 (fun h16 => ?_) (fun h16 => by exfalso; omega)
      refine B_R_reserve_15 hR13 (fun hR17 => ?_)
      subst hM1; exact lf_reserve hr (by omega)
theorem op_pay {X : vX} {d : Nat} {M : vM} {a0 a1 : Int} (hr : Rel M) : cq X (d + 40) 133 [vR 0, vI a0, vI a1] M (fun v M1 => cq X (d + 40) 195 [vR 81, vI a0, vI a1] M1 (fun v2 M2 => v2 = v ∧ Rel M2)) := by
  obtain ⟨hR, hA, -⟩ := id hr
  obtain ⟨⟨as1, as2⟩, as3, ⟨an1, an2⟩, an3, ⟨ar1, ar2⟩, ar3, -⟩ := hA
  have := w32_id (x := M 81 1 - 1) (by omega) (by omega)
  have := w32_id (x := M 81 0 - 1) (by omega) (by omega)
  refine E_X_pay ?_
  refine B_X_pay_0 hR ?_
  refine E_Ac_isSight ?_
  refine B_Ac_isSight_0 (fun h1 => ?_) (fun h2 => ?_)
  · refine B_Ac_isSight_16 ?_
    refine B_X_pay_8 (fun h3 => by exfalso; omega) (fun h3 => ?_)
    refine B_X_pay_11 ?_
    refine E_R_pay ?_
    refine B_R_pay_0 ?_
    refine E_R_isSight ?_
    refine B_R_isSight_0 ?_
    refine E_R_in ?_
    refine B_R_in_0 (fun h4 => ?_) (fun h4 => by exfalso; omega)
    refine B_R_in_17 ?_
    refine B_R_isSight_13 (by omega) ?_
    refine B_R_pay_5 (fun h5 => by exfalso; omega) (fun h5 => ?_)
    refine B_R_pay_8 ?_
    exact ⟨rfl, hr⟩
  · refine B_Ac_isSight_4 (fun h6 => ?_) (fun h7 => ?_)
    · refine B_Ac_isSight_16 ?_
      refine B_X_pay_8 (fun h8 => by exfalso; omega) (fun h8 => ?_)
      refine B_X_pay_11 ?_
      refine E_R_pay ?_
      refine B_R_pay_0 ?_
      refine E_R_isSight ?_
      refine B_R_isSight_0 ?_
      refine E_R_in ?_
      refine B_R_in_0 (fun h9 => by exfalso; omega) (fun h9 => ?_)
      refine B_R_in_6 (fun h10 => ?_) (fun h11 => ?_)
      · refine B_R_in_17 ?_
        refine B_R_isSight_13 (by omega) ?_
        refine B_R_pay_5 (fun h12 => by exfalso; omega) (fun h12 => ?_)
        refine B_R_pay_8 ?_
        exact ⟨rfl, hr⟩
      · refine B_R_in_13 ?_
        refine B_R_isSight_13 (by omega) ?_
        refine B_R_pay_5 (fun h13 => ?_) (fun h13 => by exfalso; omega)
        refine B_R_pay_10 ?_
        refine E_R_in ?_
        refine B_R_in_0 (fun h14 => ?_) (fun h15 => ?_)
        · refine B_R_in_17 ?_
          refine B_R_pay_19 (fun h16 => by exfalso; omega) (fun h16 => ?_)
          refine B_R_pay_22 ?_
          exfalso; omega
        · refine B_R_in_6 (fun h17 => ?_) (fun h18 => ?_)
          · refine B_R_in_17 ?_
            refine B_R_pay_19 (fun h19 => by exfalso; omega) (fun h19 => ?_)
            refine B_R_pay_22 ?_
            exfalso; omega
          · refine B_R_in_13 ?_
            refine B_R_pay_19 (fun h20 => ?_) (fun h20 => by exfalso; omega)
            refine B_R_pay_25 hR (by omega) (by omega) (fun hR21 => ?_)
            exfalso; omega
    · refine B_Ac_isSight_12 ?_
      refine B_X_pay_8 (fun h22 => ?_) (fun h22 => by exfalso; omega)
      refine B_X_pay_13 ?_
      refine E_X_within ?_
      refine B_X_within_0 (fun h23 => ?_) (fun h24 => ?_)
      · refine B_X_within_14 ?_
        refine B_X_pay_21 (fun h25 => by exfalso; omega) (fun h25 => ?_)
        refine B_X_pay_24 ?_
        refine E_R_pay ?_
        refine B_R_pay_0 ?_
        refine E_R_isSight ?_
        refine B_R_isSight_0 ?_
        refine E_R_in ?_
        refine B_R_in_0 (fun h26 => by exfalso; omega) (fun h26 => ?_)
        refine B_R_in_6 (fun h27 => ?_) (fun h28 => ?_)
        · refine B_R_in_17 ?_
          refine B_R_isSight_13 (by omega) ?_
          refine B_R_pay_5 (fun h29 => by exfalso; omega) (fun h29 => ?_)
          refine B_R_pay_8 ?_
          exfalso; omega
        · refine B_R_in_13 ?_
          refine B_R_isSight_13 (by omega) ?_
          refine B_R_pay_5 (fun h30 => ?_) (fun h30 => by exfalso; omega)
          refine B_R_pay_10 ?_
          refine E_R_in ?_
          refine B_R_in_0 (fun h31 => ?_) (fun h31 => by exfalso; omega)
          refine B_R_in_17 ?_
          refine B_R_pay_19 (fun h32 => by exfalso; omega) (fun h32 => ?_)
          refine B_R_pay_22 ?_
          exact ⟨rfl, hr⟩
      · refine B_X_within_5 (fun h33 => ?_) (fun h34 => ?_)
        · refine B_X_within_14 ?_
          refine B_X_pay_21 (fun h35 => by exfalso; omega) (fun h35 => ?_)
          refine B_X_pay_24 ?_
          refine E_R_pay ?_
          refine B_R_pay_0 ?_
          refine E_R_isSight ?_
          refine B_R_isSight_0 ?_
          refine E_R_in ?_
          refine B_R_in_0 (fun h36 => by exfalso; omega) (fun h36 => ?_)
          refine B_R_in_6 (fun h37 => ?_) (fun h38 => ?_)
          · refine B_R_in_17 ?_
            refine B_R_isSight_13 (by omega) ?_
            refine B_R_pay_5 (fun h39 => by exfalso; omega) (fun h39 => ?_)
            refine B_R_pay_8 ?_
            exfalso; omega
          · refine B_R_in_13 ?_
            refine B_R_isSight_13 (by omega) ?_
            refine B_R_pay_5 (fun h40 => ?_) (fun h40 => by exfalso; omega)
            refine B_R_pay_10 ?_
            refine E_R_in ?_
            refine B_R_in_0 (fun h41 => by exfalso; omega) (fun h41 => ?_)
            refine B_R_in_6 (fun h42 => ?_) (fun h42 => by exfalso; omega)
            refine B_R_in_17 ?_
            refine B_R_pay_19 (fun h43 => by exfalso; omega) (fun h43 => ?_)
            refine B_R_pay_22 ?_
            exact ⟨rfl, hr⟩
        · refine B_X_within_10 ?_
          refine B_X_pay_21 (fun h44 => ?_) (fun h44 => by exfalso; omega)
          refine B_X_pay_27 hR (by omega) (by omega) (fun hR45 => ?_)
          generalize hM1 : vm_up M 78 a0.toNat a1 = M1 at hR45 ⊢
          have hf : ∀ b, 81 ≤ b → M1 b = M b := fun b hb => by
            rw [← hM1]
            repeat rw [vm_up_o (by omega)]
          have e81_0 : M1 81 0 = M 81 0 := by rw [hf 81 (by omega)]
          have e81_1 : M1 81 1 = M 81 1 := by rw [hf 81 (by omega)]
          have e81_6 : M1 81 6 = M 81 6 := by rw [hf 81 (by omega)]
          have := w32_id (x := M1 81 1 - 1) (by omega) (by omega)
          have := w32_id (x := M1 81 0 - 1) (by omega) (by omega)
          refine E_R_pay ?_
          refine B_R_pay_0 ?_
          refine E_R_isSight ?_
          refine B_R_isSight_0 ?_
          refine E_R_in ?_
          refine B_R_in_0 (fun h46 => by exfalso; omega) (fun h46 => ?_)
          refine B_R_in_6 (fun h47 => ?_) (fun h48 => ?_)
          · refine B_R_in_17 ?_
            refine B_R_isSight_13 (by omega) ?_
            refine B_R_pay_5 (fun h49 => by exfalso; omega) (fun h49 => ?_)
            refine B_R_pay_8 ?_
            exfalso; omega
          · refine B_R_in_13 ?_
            refine B_R_isSight_13 (by omega) ?_
            refine B_R_pay_5 (fun h50 => ?_) (fun h50 => by exfalso; omega)
            refine B_R_pay_10 ?_
            refine E_R_in ?_
            refine B_R_in_0 (fun h51 => by exfalso; omega) (fun h51 => ?_)
            refine B_R_in_6 (fun h52 => by exfalso; omega) (fun h52 => ?_)
            refine B_R_in_13 ?_
            refine B_R_pay_19 (fun h53 => ?_) (fun h53 => by exfalso; omega)
            refine B_R_pay_25 hR45 (by omega) (by omega) (fun hR54 => ?_)
            subst hM1; exact lf_pay hr (by omega) (by omega)
theorem op_work {X : vX} {d : Nat} {M : vM} {a0 a1 : Int} (hr : Rel M) : cq X (d + 40) 142 [vR 0, vI a0, vI a1] M (fun v M1 => cq X (d + 40) 221 [vR 81, vI a0, vI a1] M1 (fun v2 M2 => v2 = v ∧ Rel M2)) := by
  have hR := hr.1
  refine E_X_work ?_
  refine B_X_work_0 ?_
  refine E_X_within ?_
  refine B_X_within_0 (fun h1 => ?_) (fun h2 => ?_)
  · refine B_X_within_14 ?_
    refine B_X_work_7 (fun h3 => by exfalso; omega) (fun h3 => ?_)
    refine B_X_work_10 ?_
    refine E_R_work ?_
    refine B_R_work_0 ?_
    refine E_R_in ?_
    refine B_R_in_0 (fun h4 => ?_) (fun h4 => by exfalso; omega)
    refine B_R_in_17 ?_
    refine B_R_work_9 (fun h5 => by exfalso; omega) (fun h5 => ?_)
    refine B_R_work_12 ?_
    exact ⟨rfl, hr⟩
  · refine B_X_within_5 (fun h6 => ?_) (fun h7 => ?_)
    · refine B_X_within_14 ?_
      refine B_X_work_7 (fun h8 => by exfalso; omega) (fun h8 => ?_)
      refine B_X_work_10 ?_
      refine E_R_work ?_
      refine B_R_work_0 ?_
      refine E_R_in ?_
      refine B_R_in_0 (fun h9 => by exfalso; omega) (fun h9 => ?_)
      refine B_R_in_6 (fun h10 => ?_) (fun h10 => by exfalso; omega)
      refine B_R_in_17 ?_
      refine B_R_work_9 (fun h11 => by exfalso; omega) (fun h11 => ?_)
      refine B_R_work_12 ?_
      exact ⟨rfl, hr⟩
    · refine B_X_within_10 ?_
      refine B_X_work_7 (fun h12 => ?_) (fun h12 => by exfalso; omega)
      refine B_X_work_12 ?_
      refine E_X_within ?_
      refine B_X_within_0 (fun h13 => ?_) (fun h14 => ?_)
      · refine B_X_within_14 ?_
        refine B_X_work_20 (fun h15 => ?_) (fun h15 => by exfalso; omega)
        refine B_X_work_35 ?_
        refine E_R_work ?_
        refine B_R_work_0 ?_
        refine E_R_in ?_
        refine B_R_in_0 (fun h16 => by exfalso; omega) (fun h16 => ?_)
        refine B_R_in_6 (fun h17 => by exfalso; omega) (fun h17 => ?_)
        refine B_R_in_13 ?_
        refine B_R_work_9 (fun h18 => ?_) (fun h18 => by exfalso; omega)
        refine B_R_work_14 ?_
        refine E_R_in ?_
        refine B_R_in_0 (fun h19 => ?_) (fun h19 => by exfalso; omega)
        refine B_R_in_17 ?_
        refine B_R_work_23 (fun h20 => by exfalso; omega) (fun h20 => ?_)
        refine B_R_work_26 ?_
        exact ⟨rfl, hr⟩
      · refine B_X_within_5 (fun h21 => ?_) (fun h22 => ?_)
        · refine B_X_within_14 ?_
          refine B_X_work_20 (fun h23 => ?_) (fun h23 => by exfalso; omega)
          refine B_X_work_35 ?_
          refine E_R_work ?_
          refine B_R_work_0 ?_
          refine E_R_in ?_
          refine B_R_in_0 (fun h24 => by exfalso; omega) (fun h24 => ?_)
          refine B_R_in_6 (fun h25 => by exfalso; omega) (fun h25 => ?_)
          refine B_R_in_13 ?_
          refine B_R_work_9 (fun h26 => ?_) (fun h26 => by exfalso; omega)
          refine B_R_work_14 ?_
          refine E_R_in ?_
          refine B_R_in_0 (fun h27 => by exfalso; omega) (fun h27 => ?_)
          refine B_R_in_6 (fun h28 => ?_) (fun h28 => by exfalso; omega)
          refine B_R_in_17 ?_
          refine B_R_work_23 (fun h29 => by exfalso; omega) (fun h29 => ?_)
          refine B_R_work_26 ?_
          exact ⟨rfl, hr⟩
        · refine B_X_within_10 ?_
          refine B_X_work_20 (fun h30 => by exfalso; omega) (fun h30 => ?_)
          refine B_X_work_23 hR ?_
          refine E_Me_setValue ?_
          refine B_Me_setValue_0 hR (by omega) (by omega) (fun hR31 => ?_)
          refine B_X_work_32 ?_
          generalize hM1 : vm_up M 29 a0.toNat a1 = M1 at hR31 ⊢
          have hf : ∀ b, 81 ≤ b → M1 b = M b := fun b hb => by
            rw [← hM1]
            repeat rw [vm_up_o (by omega)]
          refine E_R_work ?_
          refine B_R_work_0 ?_
          refine E_R_in ?_
          refine B_R_in_0 (fun h32 => by exfalso; omega) (fun h32 => ?_)
          refine B_R_in_6 (fun h33 => by exfalso; omega) (fun h33 => ?_)
          refine B_R_in_13 ?_
          refine B_R_work_9 (fun h34 => ?_) (fun h34 => by exfalso; omega)
          refine B_R_work_14 ?_
          refine E_R_in ?_
          refine B_R_in_0 (fun h35 => by exfalso; omega) (fun h35 => ?_)
          refine B_R_in_6 (fun h36 => by exfalso; omega) (fun h36 => ?_)
          refine B_R_in_13 ?_
          refine B_R_work_23 (fun h37 => ?_) (fun h37 => by exfalso; omega)
          refine B_R_work_29 hR31 (by omega) (by omega) (fun hR38 => ?_)
          subst hM1; exact lf_work hr (by omega) (by omega)
theorem op_may {X : vX} {d : Nat} {M : vM} {a0 a1 a2 a3 a4 a5 : Int} (hr : Rel M) : cq X (d + 40) 144 [vR 0, vI a0, vI a1, vI a2, vI a3, vI a4, vI a5] M (fun v M1 => cq X (d + 40) 224 [vR 81, vI a0, vI a1, vI a2, vI a3, vI a4, vI a5] M1 (fun v2 M2 => v2 = v ∧ Rel M2)) := by
  have hR := hr.1
  refine E_X_may ?_
  refine B_X_may_0 ?_
  refine E_Me_areRates ?_
  refine B_Me_areRates_0 (fun h1 => ?_) (fun h2 => ?_)
  · refine B_Me_areRates_20 ?_
    refine B_X_may_5 (fun h3 => ?_) (fun h3 => by exfalso; omega)
    refine B_X_may_27 ?_
    refine E_R_may ?_
    refine B_R_may_0 ?_
    refine E_R_areRates ?_
    refine B_R_areRates_0 (fun h4 => ?_) (fun h4 => by exfalso; omega)
    refine B_R_areRates_20 ?_
    refine B_R_may_5 (fun h5 => ?_) (fun h5 => by exfalso; omega)
    refine B_R_may_59 ?_
    exact ⟨rfl, hr⟩
  · refine B_Me_areRates_5 (fun h6 => ?_) (fun h7 => ?_)
    · refine B_Me_areRates_20 ?_
      refine B_X_may_5 (fun h8 => ?_) (fun h8 => by exfalso; omega)
      refine B_X_may_27 ?_
      refine E_R_may ?_
      refine B_R_may_0 ?_
      refine E_R_areRates ?_
      refine B_R_areRates_0 (fun h9 => by exfalso; omega) (fun h9 => ?_)
      refine B_R_areRates_5 (fun h10 => ?_) (fun h10 => by exfalso; omega)
      refine B_R_areRates_20 ?_
      refine B_R_may_5 (fun h11 => ?_) (fun h11 => by exfalso; omega)
      refine B_R_may_59 ?_
      exact ⟨rfl, hr⟩
    · refine B_Me_areRates_10 (fun h12 => ?_) (fun h13 => ?_)
      · refine B_Me_areRates_20 ?_
        refine B_X_may_5 (fun h14 => ?_) (fun h14 => by exfalso; omega)
        refine B_X_may_27 ?_
        refine E_R_may ?_
        refine B_R_may_0 ?_
        refine E_R_areRates ?_
        refine B_R_areRates_0 (fun h15 => by exfalso; omega) (fun h15 => ?_)
        refine B_R_areRates_5 (fun h16 => by exfalso; omega) (fun h16 => ?_)
        refine B_R_areRates_10 (fun h17 => ?_) (fun h17 => by exfalso; omega)
        refine B_R_areRates_20 ?_
        refine B_R_may_5 (fun h18 => ?_) (fun h18 => by exfalso; omega)
        refine B_R_may_59 ?_
        exact ⟨rfl, hr⟩
      · refine B_Me_areRates_16 ?_
        refine B_X_may_5 (fun h19 => by exfalso; omega) (fun h19 => ?_)
        refine B_X_may_8 ?_
        refine E_Me_isOffer ?_
        refine B_Me_isOffer_0 ?_
        refine E_X_within ?_
        refine B_X_within_0 (fun h20 => ?_) (fun h21 => ?_)
        · refine B_X_within_14 ?_
          refine B_Me_isOffer_7 (fun h22 => ?_) (fun h22 => by exfalso; omega)
          refine B_Me_isOffer_25 ?_
          refine B_X_may_14 (fun h23 => ?_) (fun h23 => by exfalso; omega)
          refine B_X_may_27 ?_
          refine E_R_may ?_
          refine B_R_may_0 ?_
          refine E_R_areRates ?_
          refine B_R_areRates_0 (fun h24 => by exfalso; omega) (fun h24 => ?_)
          refine B_R_areRates_5 (fun h25 => by exfalso; omega) (fun h25 => ?_)
          refine B_R_areRates_10 (fun h26 => by exfalso; omega) (fun h26 => ?_)
          refine B_R_areRates_16 ?_
          refine B_R_may_5 (fun h27 => by exfalso; omega) (fun h27 => ?_)
          refine B_R_may_8 ?_
          refine E_R_in ?_
          refine B_R_in_0 (fun h28 => ?_) (fun h28 => by exfalso; omega)
          refine B_R_in_17 ?_
          refine B_R_may_17 (fun h29 => ?_) (fun h29 => by exfalso; omega)
          refine B_R_may_59 ?_
          exact ⟨rfl, hr⟩
        · refine B_X_within_5 (fun h30 => ?_) (fun h31 => ?_)
          · refine B_X_within_14 ?_
            refine B_Me_isOffer_7 (fun h32 => ?_) (fun h32 => by exfalso; omega)
            refine B_Me_isOffer_25 ?_
            refine B_X_may_14 (fun h33 => ?_) (fun h33 => by exfalso; omega)
            refine B_X_may_27 ?_
            refine E_R_may ?_
            refine B_R_may_0 ?_
            refine E_R_areRates ?_
            refine B_R_areRates_0 (fun h34 => by exfalso; omega) (fun h34 => ?_)
            refine B_R_areRates_5 (fun h35 => by exfalso; omega) (fun h35 => ?_)
            refine B_R_areRates_10 (fun h36 => by exfalso; omega) (fun h36 => ?_)
            refine B_R_areRates_16 ?_
            refine B_R_may_5 (fun h37 => by exfalso; omega) (fun h37 => ?_)
            refine B_R_may_8 ?_
            refine E_R_in ?_
            refine B_R_in_0 (fun h38 => by exfalso; omega) (fun h38 => ?_)
            refine B_R_in_6 (fun h39 => ?_) (fun h39 => by exfalso; omega)
            refine B_R_in_17 ?_
            refine B_R_may_17 (fun h40 => ?_) (fun h40 => by exfalso; omega)
            refine B_R_may_59 ?_
            exact ⟨rfl, hr⟩
          · refine B_X_within_10 ?_
            refine B_Me_isOffer_7 (fun h41 => by exfalso; omega) (fun h41 => ?_)
            refine B_Me_isOffer_10 ?_
            refine E_X_within ?_
            refine B_X_within_0 (fun h42 => ?_) (fun h43 => ?_)
            · refine B_X_within_14 ?_
              refine B_Me_isOffer_18 (fun h44 => ?_) (fun h44 => by exfalso; omega)
              refine B_Me_isOffer_25 ?_
              refine B_X_may_14 (fun h45 => ?_) (fun h45 => by exfalso; omega)
              refine B_X_may_27 ?_
              refine E_R_may ?_
              refine B_R_may_0 ?_
              refine E_R_areRates ?_
              refine B_R_areRates_0 (fun h46 => by exfalso; omega) (fun h46 => ?_)
              refine B_R_areRates_5 (fun h47 => by exfalso; omega) (fun h47 => ?_)
              refine B_R_areRates_10 (fun h48 => by exfalso; omega) (fun h48 => ?_)
              refine B_R_areRates_16 ?_
              refine B_R_may_5 (fun h49 => by exfalso; omega) (fun h49 => ?_)
              refine B_R_may_8 ?_
              refine E_R_in ?_
              refine B_R_in_0 (fun h50 => by exfalso; omega) (fun h50 => ?_)
              refine B_R_in_6 (fun h51 => by exfalso; omega) (fun h51 => ?_)
              refine B_R_in_13 ?_
              refine B_R_may_17 (fun h52 => by exfalso; omega) (fun h52 => ?_)
              refine B_R_may_20 ?_
              refine E_R_in ?_
              refine B_R_in_0 (fun h53 => ?_) (fun h54 => ?_)
              · refine B_R_in_17 ?_
                refine B_R_may_30 (fun h55 => ?_) (fun h55 => by exfalso; omega)
                refine B_R_may_59 ?_
                exact ⟨rfl, hr⟩
              · refine B_R_in_6 (fun h56 => ?_) (fun h57 => ?_)
                · refine B_R_in_17 ?_
                  refine B_R_may_30 (fun h58 => ?_) (fun h58 => by exfalso; omega)
                  refine B_R_may_59 ?_
                  exact ⟨rfl, hr⟩
                · refine B_R_in_13 ?_
                  refine B_R_may_30 (fun h59 => by exfalso; omega) (fun h59 => ?_)
                  refine B_R_may_33 ?_
                  refine E_R_in ?_
                  refine B_R_in_0 (fun h60 => ?_) (fun h60 => by exfalso; omega)
                  refine B_R_in_17 ?_
                  refine B_R_may_43 (fun h61 => ?_) (fun h61 => by exfalso; omega)
                  refine B_R_may_59 ?_
                  exact ⟨rfl, hr⟩
            · refine B_X_within_5 (fun h62 => ?_) (fun h63 => ?_)
              · refine B_X_within_14 ?_
                refine B_Me_isOffer_18 (fun h64 => ?_) (fun h64 => by exfalso; omega)
                refine B_Me_isOffer_25 ?_
                refine B_X_may_14 (fun h65 => ?_) (fun h65 => by exfalso; omega)
                refine B_X_may_27 ?_
                refine E_R_may ?_
                refine B_R_may_0 ?_
                refine E_R_areRates ?_
                refine B_R_areRates_0 (fun h66 => by exfalso; omega) (fun h66 => ?_)
                refine B_R_areRates_5 (fun h67 => by exfalso; omega) (fun h67 => ?_)
                refine B_R_areRates_10 (fun h68 => by exfalso; omega) (fun h68 => ?_)
                refine B_R_areRates_16 ?_
                refine B_R_may_5 (fun h69 => by exfalso; omega) (fun h69 => ?_)
                refine B_R_may_8 ?_
                refine E_R_in ?_
                refine B_R_in_0 (fun h70 => by exfalso; omega) (fun h70 => ?_)
                refine B_R_in_6 (fun h71 => by exfalso; omega) (fun h71 => ?_)
                refine B_R_in_13 ?_
                refine B_R_may_17 (fun h72 => by exfalso; omega) (fun h72 => ?_)
                refine B_R_may_20 ?_
                refine E_R_in ?_
                refine B_R_in_0 (fun h73 => ?_) (fun h74 => ?_)
                · refine B_R_in_17 ?_
                  refine B_R_may_30 (fun h75 => ?_) (fun h75 => by exfalso; omega)
                  refine B_R_may_59 ?_
                  exact ⟨rfl, hr⟩
                · refine B_R_in_6 (fun h76 => ?_) (fun h77 => ?_)
                  · refine B_R_in_17 ?_
                    refine B_R_may_30 (fun h78 => ?_) (fun h78 => by exfalso; omega)
                    refine B_R_may_59 ?_
                    exact ⟨rfl, hr⟩
                  · refine B_R_in_13 ?_
                    refine B_R_may_30 (fun h79 => by exfalso; omega) (fun h79 => ?_)
                    refine B_R_may_33 ?_
                    refine E_R_in ?_
                    refine B_R_in_0 (fun h80 => by exfalso; omega) (fun h80 => ?_)
                    refine B_R_in_6 (fun h81 => ?_) (fun h81 => by exfalso; omega)
                    refine B_R_in_17 ?_
                    refine B_R_may_43 (fun h82 => ?_) (fun h82 => by exfalso; omega)
                    refine B_R_may_59 ?_
                    exact ⟨rfl, hr⟩
              · refine B_X_within_10 ?_
                refine B_Me_isOffer_18 (fun h83 => by exfalso; omega) (fun h83 => ?_)
                refine B_Me_isOffer_21 ?_
                refine B_X_may_14 (fun h84 => by exfalso; omega) (fun h84 => ?_)
                refine B_X_may_17 ?_
                refine E_Me_isOffer ?_
                refine B_Me_isOffer_0 ?_
                refine E_X_within ?_
                refine B_X_within_0 (fun h85 => ?_) (fun h86 => ?_)
                · refine B_X_within_14 ?_
                  refine B_Me_isOffer_7 (fun h87 => ?_) (fun h87 => by exfalso; omega)
                  refine B_Me_isOffer_25 ?_
                  refine B_X_may_24 (fun h88 => by exfalso; omega) (fun h88 => ?_)
                  refine B_X_may_27 ?_
                  refine E_R_may ?_
                  refine B_R_may_0 ?_
                  refine E_R_areRates ?_
                  refine B_R_areRates_0 (fun h89 => by exfalso; omega) (fun h89 => ?_)
                  refine B_R_areRates_5 (fun h90 => by exfalso; omega) (fun h90 => ?_)
                  refine B_R_areRates_10 (fun h91 => by exfalso; omega) (fun h91 => ?_)
                  refine B_R_areRates_16 ?_
                  refine B_R_may_5 (fun h92 => by exfalso; omega) (fun h92 => ?_)
                  refine B_R_may_8 ?_
                  refine E_R_in ?_
                  refine B_R_in_0 (fun h93 => by exfalso; omega) (fun h93 => ?_)
                  refine B_R_in_6 (fun h94 => by exfalso; omega) (fun h94 => ?_)
                  refine B_R_in_13 ?_
                  refine B_R_may_17 (fun h95 => by exfalso; omega) (fun h95 => ?_)
                  refine B_R_may_20 ?_
                  refine E_R_in ?_
                  refine B_R_in_0 (fun h96 => ?_) (fun h96 => by exfalso; omega)
                  refine B_R_in_17 ?_
                  refine B_R_may_30 (fun h97 => ?_) (fun h97 => by exfalso; omega)
                  refine B_R_may_59 ?_
                  exact ⟨rfl, hr⟩
                · refine B_X_within_5 (fun h98 => ?_) (fun h99 => ?_)
                  · refine B_X_within_14 ?_
                    refine B_Me_isOffer_7 (fun h100 => ?_) (fun h100 => by exfalso; omega)
                    refine B_Me_isOffer_25 ?_
                    refine B_X_may_24 (fun h101 => by exfalso; omega) (fun h101 => ?_)
                    refine B_X_may_27 ?_
                    refine E_R_may ?_
                    refine B_R_may_0 ?_
                    refine E_R_areRates ?_
                    refine B_R_areRates_0 (fun h102 => by exfalso; omega) (fun h102 => ?_)
                    refine B_R_areRates_5 (fun h103 => by exfalso; omega) (fun h103 => ?_)
                    refine B_R_areRates_10 (fun h104 => by exfalso; omega) (fun h104 => ?_)
                    refine B_R_areRates_16 ?_
                    refine B_R_may_5 (fun h105 => by exfalso; omega) (fun h105 => ?_)
                    refine B_R_may_8 ?_
                    refine E_R_in ?_
                    refine B_R_in_0 (fun h106 => by exfalso; omega) (fun h106 => ?_)
                    refine B_R_in_6 (fun h107 => by exfalso; omega) (fun h107 => ?_)
                    refine B_R_in_13 ?_
                    refine B_R_may_17 (fun h108 => by exfalso; omega) (fun h108 => ?_)
                    refine B_R_may_20 ?_
                    refine E_R_in ?_
                    refine B_R_in_0 (fun h109 => by exfalso; omega) (fun h109 => ?_)
                    refine B_R_in_6 (fun h110 => ?_) (fun h110 => by exfalso; omega)
                    refine B_R_in_17 ?_
                    refine B_R_may_30 (fun h111 => ?_) (fun h111 => by exfalso; omega)
                    refine B_R_may_59 ?_
                    exact ⟨rfl, hr⟩
                  · refine B_X_within_10 ?_
                    refine B_Me_isOffer_7 (fun h112 => by exfalso; omega) (fun h112 => ?_)
                    refine B_Me_isOffer_10 ?_
                    refine E_X_within ?_
                    refine B_X_within_0 (fun h113 => ?_) (fun h114 => ?_)
                    · refine B_X_within_14 ?_
                      refine B_Me_isOffer_18 (fun h115 => ?_) (fun h115 => by exfalso; omega)
                      refine B_Me_isOffer_25 ?_
                      refine B_X_may_24 (fun h116 => by exfalso; omega) (fun h116 => ?_)
                      refine B_X_may_27 ?_
                      refine E_R_may ?_
                      refine B_R_may_0 ?_
                      refine E_R_areRates ?_
                      refine B_R_areRates_0 (fun h117 => by exfalso; omega) (fun h117 => ?_)
                      refine B_R_areRates_5 (fun h118 => by exfalso; omega) (fun h118 => ?_)
                      refine B_R_areRates_10 (fun h119 => by exfalso; omega) (fun h119 => ?_)
                      refine B_R_areRates_16 ?_
                      refine B_R_may_5 (fun h120 => by exfalso; omega) (fun h120 => ?_)
                      refine B_R_may_8 ?_
                      refine E_R_in ?_
                      refine B_R_in_0 (fun h121 => by exfalso; omega) (fun h121 => ?_)
                      refine B_R_in_6 (fun h122 => by exfalso; omega) (fun h122 => ?_)
                      refine B_R_in_13 ?_
                      refine B_R_may_17 (fun h123 => by exfalso; omega) (fun h123 => ?_)
                      refine B_R_may_20 ?_
                      refine E_R_in ?_
                      refine B_R_in_0 (fun h124 => by exfalso; omega) (fun h124 => ?_)
                      refine B_R_in_6 (fun h125 => by exfalso; omega) (fun h125 => ?_)
                      refine B_R_in_13 ?_
                      refine B_R_may_30 (fun h126 => by exfalso; omega) (fun h126 => ?_)
                      refine B_R_may_33 ?_
                      refine E_R_in ?_
                      refine B_R_in_0 (fun h127 => by exfalso; omega) (fun h127 => ?_)
                      refine B_R_in_6 (fun h128 => by exfalso; omega) (fun h128 => ?_)
                      refine B_R_in_13 ?_
                      refine B_R_may_43 (fun h129 => by exfalso; omega) (fun h129 => ?_)
                      refine B_R_may_46 ?_
                      refine E_R_in ?_
                      refine B_R_in_0 (fun h130 => ?_) (fun h130 => by exfalso; omega)
                      refine B_R_in_17 ?_
                      refine B_R_may_56 (fun h131 => by exfalso; omega) (fun h131 => ?_)
                      refine B_R_may_59 ?_
                      exact ⟨rfl, hr⟩
                    · refine B_X_within_5 (fun h132 => ?_) (fun h133 => ?_)
                      · refine B_X_within_14 ?_
                        refine B_Me_isOffer_18 (fun h134 => ?_) (fun h134 => by exfalso; omega)
                        refine B_Me_isOffer_25 ?_
                        refine B_X_may_24 (fun h135 => by exfalso; omega) (fun h135 => ?_)
                        refine B_X_may_27 ?_
                        refine E_R_may ?_
                        refine B_R_may_0 ?_
                        refine E_R_areRates ?_
                        refine B_R_areRates_0 (fun h136 => by exfalso; omega) (fun h136 => ?_)
                        refine B_R_areRates_5 (fun h137 => by exfalso; omega) (fun h137 => ?_)
                        refine B_R_areRates_10 (fun h138 => by exfalso; omega) (fun h138 => ?_)
                        refine B_R_areRates_16 ?_
                        refine B_R_may_5 (fun h139 => by exfalso; omega) (fun h139 => ?_)
                        refine B_R_may_8 ?_
                        refine E_R_in ?_
                        refine B_R_in_0 (fun h140 => by exfalso; omega) (fun h140 => ?_)
                        refine B_R_in_6 (fun h141 => by exfalso; omega) (fun h141 => ?_)
                        refine B_R_in_13 ?_
                        refine B_R_may_17 (fun h142 => by exfalso; omega) (fun h142 => ?_)
                        refine B_R_may_20 ?_
                        refine E_R_in ?_
                        refine B_R_in_0 (fun h143 => by exfalso; omega) (fun h143 => ?_)
                        refine B_R_in_6 (fun h144 => by exfalso; omega) (fun h144 => ?_)
                        refine B_R_in_13 ?_
                        refine B_R_may_30 (fun h145 => by exfalso; omega) (fun h145 => ?_)
                        refine B_R_may_33 ?_
                        refine E_R_in ?_
                        refine B_R_in_0 (fun h146 => by exfalso; omega) (fun h146 => ?_)
                        refine B_R_in_6 (fun h147 => by exfalso; omega) (fun h147 => ?_)
                        refine B_R_in_13 ?_
                        refine B_R_may_43 (fun h148 => by exfalso; omega) (fun h148 => ?_)
                        refine B_R_may_46 ?_
                        refine E_R_in ?_
                        refine B_R_in_0 (fun h149 => by exfalso; omega) (fun h149 => ?_)
                        refine B_R_in_6 (fun h150 => ?_) (fun h150 => by exfalso; omega)
                        refine B_R_in_17 ?_
                        refine B_R_may_56 (fun h151 => by exfalso; omega) (fun h151 => ?_)
                        refine B_R_may_59 ?_
                        exact ⟨rfl, hr⟩
                      · refine B_X_within_10 ?_
                        refine B_Me_isOffer_18 (fun h152 => by exfalso; omega) (fun h152 => ?_)
                        refine B_Me_isOffer_21 ?_
                        refine B_X_may_24 (fun h153 => ?_) (fun h153 => by exfalso; omega)
                        refine B_X_may_30 ?_
                        refine E_Me_keeps ?_
                        refine B_Me_keeps_0 (fun h154 => ?_) (fun h155 => ?_)
                        · refine B_Me_keeps_31 ?_
                          refine B_X_may_41 (fun h156 => ?_) (fun h156 => by exfalso; omega)
                          refine B_X_may_62 ?_
                          refine E_R_may ?_
                          refine B_R_may_0 ?_
                          refine E_R_areRates ?_
                          refine B_R_areRates_0 (fun h157 => by exfalso; omega) (fun h157 => ?_)
                          refine B_R_areRates_5 (fun h158 => by exfalso; omega) (fun h158 => ?_)
                          refine B_R_areRates_10 (fun h159 => by exfalso; omega) (fun h159 => ?_)
                          refine B_R_areRates_16 ?_
                          refine B_R_may_5 (fun h160 => by exfalso; omega) (fun h160 => ?_)
                          refine B_R_may_8 ?_
                          refine E_R_in ?_
                          refine B_R_in_0 (fun h161 => by exfalso; omega) (fun h161 => ?_)
                          refine B_R_in_6 (fun h162 => by exfalso; omega) (fun h162 => ?_)
                          refine B_R_in_13 ?_
                          refine B_R_may_17 (fun h163 => by exfalso; omega) (fun h163 => ?_)
                          refine B_R_may_20 ?_
                          refine E_R_in ?_
                          refine B_R_in_0 (fun h164 => by exfalso; omega) (fun h164 => ?_)
                          refine B_R_in_6 (fun h165 => by exfalso; omega) (fun h165 => ?_)
                          refine B_R_in_13 ?_
                          refine B_R_may_30 (fun h166 => by exfalso; omega) (fun h166 => ?_)
                          refine B_R_may_33 ?_
                          refine E_R_in ?_
                          refine B_R_in_0 (fun h167 => by exfalso; omega) (fun h167 => ?_)
                          refine B_R_in_6 (fun h168 => by exfalso; omega) (fun h168 => ?_)
                          refine B_R_in_13 ?_
                          refine B_R_may_43 (fun h169 => by exfalso; omega) (fun h169 => ?_)
                          refine B_R_may_46 ?_
                          refine E_R_in ?_
                          refine B_R_in_0 (fun h170 => by exfalso; omega) (fun h170 => ?_)
                          refine B_R_in_6 (fun h171 => by exfalso; omega) (fun h171 => ?_)
                          refine B_R_in_13 ?_
                          refine B_R_may_56 (fun h172 => ?_) (fun h172 => by exfalso; omega)
                          refine B_R_may_62 (fun h173 => ?_) (fun h173 => by exfalso; omega)
                          refine B_R_may_126 ?_
                          exact ⟨rfl, hr⟩
                        · refine B_Me_keeps_14 (fun h174 => ?_) (fun h175 => ?_)
                          · refine B_Me_keeps_31 ?_
                            refine B_X_may_41 (fun h176 => ?_) (fun h176 => by exfalso; omega)
                            refine B_X_may_62 ?_
                            refine E_R_may ?_
                            refine B_R_may_0 ?_
                            refine E_R_areRates ?_
                            refine B_R_areRates_0 (fun h177 => by exfalso; omega) (fun h177 => ?_)
                            refine B_R_areRates_5 (fun h178 => by exfalso; omega) (fun h178 => ?_)
                            refine B_R_areRates_10 (fun h179 => by exfalso; omega) (fun h179 => ?_)
                            refine B_R_areRates_16 ?_
                            refine B_R_may_5 (fun h180 => by exfalso; omega) (fun h180 => ?_)
                            refine B_R_may_8 ?_
                            refine E_R_in ?_
                            refine B_R_in_0 (fun h181 => by exfalso; omega) (fun h181 => ?_)
                            refine B_R_in_6 (fun h182 => by exfalso; omega) (fun h182 => ?_)
                            refine B_R_in_13 ?_
                            refine B_R_may_17 (fun h183 => by exfalso; omega) (fun h183 => ?_)
                            refine B_R_may_20 ?_
                            refine E_R_in ?_
                            refine B_R_in_0 (fun h184 => by exfalso; omega) (fun h184 => ?_)
                            refine B_R_in_6 (fun h185 => by exfalso; omega) (fun h185 => ?_)
                            refine B_R_in_13 ?_
                            refine B_R_may_30 (fun h186 => by exfalso; omega) (fun h186 => ?_)
                            refine B_R_may_33 ?_
                            refine E_R_in ?_
                            refine B_R_in_0 (fun h187 => by exfalso; omega) (fun h187 => ?_)
                            refine B_R_in_6 (fun h188 => by exfalso; omega) (fun h188 => ?_)
                            refine B_R_in_13 ?_
                            refine B_R_may_43 (fun h189 => by exfalso; omega) (fun h189 => ?_)
                            refine B_R_may_46 ?_
                            refine E_R_in ?_
                            refine B_R_in_0 (fun h190 => by exfalso; omega) (fun h190 => ?_)
                            refine B_R_in_6 (fun h191 => by exfalso; omega) (fun h191 => ?_)
                            refine B_R_in_13 ?_
                            refine B_R_may_56 (fun h192 => ?_) (fun h192 => by exfalso; omega)
                            refine B_R_may_62 (fun h193 => by exfalso; omega) (fun h193 => ?_)
                            refine B_R_may_89 (fun h194 => ?_) (fun h195 => ?_)
                            · refine B_R_may_126 ?_
                              exact ⟨rfl, hr⟩
                            · refine B_R_may_94 (fun h196 => ?_) (fun h196 => by exfalso; omega)
                              refine B_R_may_126 ?_
                              exact ⟨rfl, hr⟩
                          · refine B_Me_keeps_27 ?_
                            refine B_X_may_41 (fun h197 => by exfalso; omega) (fun h197 => ?_)
                            refine B_X_may_44 ?_
                            refine E_Me_keeps ?_
                            refine B_Me_keeps_0 (fun h198 => ?_) (fun h199 => ?_)
                            · refine B_Me_keeps_31 ?_
                              refine B_X_may_55 (fun h200 => ?_) (fun h200 => by exfalso; omega)
                              refine B_X_may_62 ?_
                              refine E_R_may ?_
                              refine B_R_may_0 ?_
                              refine E_R_areRates ?_
                              refine B_R_areRates_0 (fun h201 => by exfalso; omega) (fun h201 => ?_)
                              refine B_R_areRates_5 (fun h202 => by exfalso; omega) (fun h202 => ?_)
                              refine B_R_areRates_10 (fun h203 => by exfalso; omega) (fun h203 => ?_)
                              refine B_R_areRates_16 ?_
                              refine B_R_may_5 (fun h204 => by exfalso; omega) (fun h204 => ?_)
                              refine B_R_may_8 ?_
                              refine E_R_in ?_
                              refine B_R_in_0 (fun h205 => by exfalso; omega) (fun h205 => ?_)
                              refine B_R_in_6 (fun h206 => by exfalso; omega) (fun h206 => ?_)
                              refine B_R_in_13 ?_
                              refine B_R_may_17 (fun h207 => by exfalso; omega) (fun h207 => ?_)
                              refine B_R_may_20 ?_
                              refine E_R_in ?_
                              refine B_R_in_0 (fun h208 => by exfalso; omega) (fun h208 => ?_)
                              refine B_R_in_6 (fun h209 => by exfalso; omega) (fun h209 => ?_)
                              refine B_R_in_13 ?_
                              refine B_R_may_30 (fun h210 => by exfalso; omega) (fun h210 => ?_)
                              refine B_R_may_33 ?_
                              refine E_R_in ?_
                              refine B_R_in_0 (fun h211 => by exfalso; omega) (fun h211 => ?_)
                              refine B_R_in_6 (fun h212 => by exfalso; omega) (fun h212 => ?_)
                              refine B_R_in_13 ?_
                              refine B_R_may_43 (fun h213 => by exfalso; omega) (fun h213 => ?_)
                              refine B_R_may_46 ?_
                              refine E_R_in ?_
                              refine B_R_in_0 (fun h214 => by exfalso; omega) (fun h214 => ?_)
                              refine B_R_in_6 (fun h215 => by exfalso; omega) (fun h215 => ?_)
                              refine B_R_in_13 ?_
                              refine B_R_may_56 (fun h216 => ?_) (fun h216 => by exfalso; omega)
                              refine B_R_may_62 (fun h217 => by exfalso; omega) (fun h217 => ?_)
                              refine B_R_may_89 (fun h218 => ?_) (fun h218 => by exfalso; omega)
                              refine B_R_may_126 ?_
                              exact ⟨rfl, hr⟩
                            · refine B_Me_keeps_14 (fun h219 => ?_) (fun h220 => ?_)
                              · refine B_Me_keeps_31 ?_
                                refine B_X_may_55 (fun h221 => ?_) (fun h221 => by exfalso; omega)
                                refine B_X_may_62 ?_
                                refine E_R_may ?_
                                refine B_R_may_0 ?_
                                refine E_R_areRates ?_
                                refine B_R_areRates_0 (fun h222 => by exfalso; omega) (fun h222 => ?_)
                                refine B_R_areRates_5 (fun h223 => by exfalso; omega) (fun h223 => ?_)
                                refine B_R_areRates_10 (fun h224 => by exfalso; omega) (fun h224 => ?_)
                                refine B_R_areRates_16 ?_
                                refine B_R_may_5 (fun h225 => by exfalso; omega) (fun h225 => ?_)
                                refine B_R_may_8 ?_
                                refine E_R_in ?_
                                refine B_R_in_0 (fun h226 => by exfalso; omega) (fun h226 => ?_)
                                refine B_R_in_6 (fun h227 => by exfalso; omega) (fun h227 => ?_)
                                refine B_R_in_13 ?_
                                refine B_R_may_17 (fun h228 => by exfalso; omega) (fun h228 => ?_)
                                refine B_R_may_20 ?_
                                refine E_R_in ?_
                                refine B_R_in_0 (fun h229 => by exfalso; omega) (fun h229 => ?_)
                                refine B_R_in_6 (fun h230 => by exfalso; omega) (fun h230 => ?_)
                                refine B_R_in_13 ?_
                                refine B_R_may_30 (fun h231 => by exfalso; omega) (fun h231 => ?_)
                                refine B_R_may_33 ?_
                                refine E_R_in ?_
                                refine B_R_in_0 (fun h232 => by exfalso; omega) (fun h232 => ?_)
                                refine B_R_in_6 (fun h233 => by exfalso; omega) (fun h233 => ?_)
                                refine B_R_in_13 ?_
                                refine B_R_may_43 (fun h234 => by exfalso; omega) (fun h234 => ?_)
                                refine B_R_may_46 ?_
                                refine E_R_in ?_
                                refine B_R_in_0 (fun h235 => by exfalso; omega) (fun h235 => ?_)
                                refine B_R_in_6 (fun h236 => by exfalso; omega) (fun h236 => ?_)
                                refine B_R_in_13 ?_
                                refine B_R_may_56 (fun h237 => ?_) (fun h237 => by exfalso; omega)
                                refine B_R_may_62 (fun h238 => by exfalso; omega) (fun h238 => ?_)
                                refine B_R_may_89 (fun h239 => by exfalso; omega) (fun h239 => ?_)
                                refine B_R_may_94 (fun h240 => by exfalso; omega) (fun h240 => ?_)
                                refine B_R_may_109 (fun h241 => ?_) (fun h241 => by exfalso; omega)
                                refine B_R_may_126 ?_
                                exact ⟨rfl, hr⟩
                              · refine B_Me_keeps_27 ?_
                                refine B_X_may_55 (fun h242 => by exfalso; omega) (fun h242 => ?_)
                                refine B_X_may_58 ?_
                                refine E_R_may ?_
                                refine B_R_may_0 ?_
                                refine E_R_areRates ?_
                                refine B_R_areRates_0 (fun h243 => by exfalso; omega) (fun h243 => ?_)
                                refine B_R_areRates_5 (fun h244 => by exfalso; omega) (fun h244 => ?_)
                                refine B_R_areRates_10 (fun h245 => by exfalso; omega) (fun h245 => ?_)
                                refine B_R_areRates_16 ?_
                                refine B_R_may_5 (fun h246 => by exfalso; omega) (fun h246 => ?_)
                                refine B_R_may_8 ?_
                                refine E_R_in ?_
                                refine B_R_in_0 (fun h247 => by exfalso; omega) (fun h247 => ?_)
                                refine B_R_in_6 (fun h248 => by exfalso; omega) (fun h248 => ?_)
                                refine B_R_in_13 ?_
                                refine B_R_may_17 (fun h249 => by exfalso; omega) (fun h249 => ?_)
                                refine B_R_may_20 ?_
                                refine E_R_in ?_
                                refine B_R_in_0 (fun h250 => by exfalso; omega) (fun h250 => ?_)
                                refine B_R_in_6 (fun h251 => by exfalso; omega) (fun h251 => ?_)
                                refine B_R_in_13 ?_
                                refine B_R_may_30 (fun h252 => by exfalso; omega) (fun h252 => ?_)
                                refine B_R_may_33 ?_
                                refine E_R_in ?_
                                refine B_R_in_0 (fun h253 => by exfalso; omega) (fun h253 => ?_)
                                refine B_R_in_6 (fun h254 => by exfalso; omega) (fun h254 => ?_)
                                refine B_R_in_13 ?_
                                refine B_R_may_43 (fun h255 => by exfalso; omega) (fun h255 => ?_)
                                refine B_R_may_46 ?_
                                refine E_R_in ?_
                                refine B_R_in_0 (fun h256 => by exfalso; omega) (fun h256 => ?_)
                                refine B_R_in_6 (fun h257 => by exfalso; omega) (fun h257 => ?_)
                                refine B_R_in_13 ?_
                                refine B_R_may_56 (fun h258 => ?_) (fun h258 => by exfalso; omega)
                                refine B_R_may_62 (fun h259 => by exfalso; omega) (fun h259 => ?_)
                                refine B_R_may_89 (fun h260 => by exfalso; omega) (fun h260 => ?_)
                                refine B_R_may_94 (fun h261 => by exfalso; omega) (fun h261 => ?_)
                                refine B_R_may_109 (fun h262 => by exfalso; omega) (fun h262 => ?_)
                                refine B_R_may_122 ?_
                                exact ⟨rfl, hr⟩
theorem op_all {X : vX} {d : Nat} {M : vM} {a0 a1 : Int} (hr : Rel M) : cq X (d + 40) 150 [vR 0, vI a0, vI a1] M (fun v M1 => cq X (d + 40) 234 [vR 81, vI a0, vI a1] M1 (fun v2 M2 => v2 = v ∧ Rel M2)) := by
  have hR := hr.1
  refine E_X_all ?_
  refine B_X_all_0 ?_
  refine E_X_within ?_
  refine B_X_within_0 (fun h1 => ?_) (fun h2 => ?_)
  · refine B_X_within_14 ?_
    refine B_X_all_6 (fun h3 => by exfalso; omega) (fun h3 => ?_)
    refine B_X_all_9 ?_
    refine E_R_all ?_
    refine B_R_all_0 ?_
    refine E_R_in ?_
    refine B_R_in_0 (fun h4 => ?_) (fun h4 => by exfalso; omega)
    refine B_R_in_17 ?_
    refine B_R_all_9 (fun h5 => by exfalso; omega) (fun h5 => ?_)
    refine B_R_all_12 ?_
    exact ⟨rfl, hr⟩
  · refine B_X_within_5 (fun h6 => ?_) (fun h7 => ?_)
    · refine B_X_within_14 ?_
      refine B_X_all_6 (fun h8 => by exfalso; omega) (fun h8 => ?_)
      refine B_X_all_9 ?_
      refine E_R_all ?_
      refine B_R_all_0 ?_
      refine E_R_in ?_
      refine B_R_in_0 (fun h9 => by exfalso; omega) (fun h9 => ?_)
      refine B_R_in_6 (fun h10 => ?_) (fun h10 => by exfalso; omega)
      refine B_R_in_17 ?_
      refine B_R_all_9 (fun h11 => by exfalso; omega) (fun h11 => ?_)
      refine B_R_all_12 ?_
      exact ⟨rfl, hr⟩
    · refine B_X_within_10 ?_
      refine B_X_all_6 (fun h12 => ?_) (fun h12 => by exfalso; omega)
      refine B_X_all_11 ?_
      refine E_X_within ?_
      refine B_X_within_0 (fun h13 => ?_) (fun h14 => ?_)
      · refine B_X_within_14 ?_
        refine B_X_all_19 (fun h15 => ?_) (fun h15 => by exfalso; omega)
        refine B_X_all_34 ?_
        refine E_R_all ?_
        refine B_R_all_0 ?_
        refine E_R_in ?_
        refine B_R_in_0 (fun h16 => by exfalso; omega) (fun h16 => ?_)
        refine B_R_in_6 (fun h17 => by exfalso; omega) (fun h17 => ?_)
        refine B_R_in_13 ?_
        refine B_R_all_9 (fun h18 => ?_) (fun h18 => by exfalso; omega)
        refine B_R_all_14 ?_
        refine E_R_in ?_
        refine B_R_in_0 (fun h19 => ?_) (fun h19 => by exfalso; omega)
        refine B_R_in_17 ?_
        refine B_R_all_23 (fun h20 => by exfalso; omega) (fun h20 => ?_)
        refine B_R_all_26 ?_
        exact ⟨rfl, hr⟩
      · refine B_X_within_5 (fun h21 => ?_) (fun h22 => ?_)
        · refine B_X_within_14 ?_
          refine B_X_all_19 (fun h23 => ?_) (fun h23 => by exfalso; omega)
          refine B_X_all_34 ?_
          refine E_R_all ?_
          refine B_R_all_0 ?_
          refine E_R_in ?_
          refine B_R_in_0 (fun h24 => by exfalso; omega) (fun h24 => ?_)
          refine B_R_in_6 (fun h25 => by exfalso; omega) (fun h25 => ?_)
          refine B_R_in_13 ?_
          refine B_R_all_9 (fun h26 => ?_) (fun h26 => by exfalso; omega)
          refine B_R_all_14 ?_
          refine E_R_in ?_
          refine B_R_in_0 (fun h27 => by exfalso; omega) (fun h27 => ?_)
          refine B_R_in_6 (fun h28 => ?_) (fun h28 => by exfalso; omega)
          refine B_R_in_17 ?_
          refine B_R_all_23 (fun h29 => by exfalso; omega) (fun h29 => ?_)
          refine B_R_all_26 ?_
          exact ⟨rfl, hr⟩
        · refine B_X_within_10 ?_
          refine B_X_all_19 (fun h30 => by exfalso; omega) (fun h30 => ?_)
          refine B_X_all_22 hR ?_
          refine E_Te_setGot ?_
          refine B_Te_setGot_0 hR (by omega) (by omega) (fun hR31 => ?_)
          refine B_X_all_31 ?_
          generalize hM1 : vm_up M 52 a0.toNat a1 = M1 at hR31 ⊢
          have hf : ∀ b, 81 ≤ b → M1 b = M b := fun b hb => by
            rw [← hM1]
            repeat rw [vm_up_o (by omega)]
          refine E_R_all ?_
          refine B_R_all_0 ?_
          refine E_R_in ?_
          refine B_R_in_0 (fun h32 => by exfalso; omega) (fun h32 => ?_)
          refine B_R_in_6 (fun h33 => by exfalso; omega) (fun h33 => ?_)
          refine B_R_in_13 ?_
          refine B_R_all_9 (fun h34 => ?_) (fun h34 => by exfalso; omega)
          refine B_R_all_14 ?_
          refine E_R_in ?_
          refine B_R_in_0 (fun h35 => by exfalso; omega) (fun h35 => ?_)
          refine B_R_in_6 (fun h36 => by exfalso; omega) (fun h36 => ?_)
          refine B_R_in_13 ?_
          refine B_R_all_23 (fun h37 => ?_) (fun h37 => by exfalso; omega)
          refine B_R_all_29 hR31 (by omega) (by omega) (fun hR38 => ?_)
          subst hM1; exact lf_all hr (by omega) (by omega)
theorem op_lot {X : vX} {d : Nat} {M : vM} {a0 : Int} (hr : Rel M) : cq X (d + 40) 163 [vR 0, vI a0] M (fun v M1 => cq X (d + 40) 266 [vR 81, vI a0] M1 (fun v2 M2 => v2 = v ∧ Rel M2)) := by
  have hR := hr.1
  refine E_X_lot ?_
  refine B_X_lot_0 ?_
  refine E_X_within ?_
  refine B_X_within_0 (fun h1 => ?_) (fun h2 => ?_)
  · refine B_X_within_14 ?_
    refine B_X_lot_8 (fun h3 => ?_) (fun h3 => by exfalso; omega)
    refine B_X_lot_22 ?_
    refine E_R_lot ?_
    refine B_R_lot_0 ?_
    refine E_R_in ?_
    refine B_R_in_0 (fun h4 => ?_) (fun h4 => by exfalso; omega)
    refine B_R_in_17 ?_
    refine B_R_lot_9 (fun h5 => by exfalso; omega) (fun h5 => ?_)
    refine B_R_lot_12 ?_
    exact ⟨rfl, hr⟩
  · refine B_X_within_5 (fun h6 => ?_) (fun h7 => ?_)
    · refine B_X_within_14 ?_
      refine B_X_lot_8 (fun h8 => ?_) (fun h8 => by exfalso; omega)
      refine B_X_lot_22 ?_
      refine E_R_lot ?_
      refine B_R_lot_0 ?_
      refine E_R_in ?_
      refine B_R_in_0 (fun h9 => by exfalso; omega) (fun h9 => ?_)
      refine B_R_in_6 (fun h10 => ?_) (fun h10 => by exfalso; omega)
      refine B_R_in_17 ?_
      refine B_R_lot_9 (fun h11 => by exfalso; omega) (fun h11 => ?_)
      refine B_R_lot_12 ?_
      exact ⟨rfl, hr⟩
    · refine B_X_within_10 ?_
      refine B_X_lot_8 (fun h12 => by exfalso; omega) (fun h12 => ?_)
      refine B_X_lot_11 hR ?_
      refine E_Ye_setLot ?_
      refine B_Ye_setLot_0 hR (fun hR13 => ?_)
      refine B_X_lot_19 ?_
      generalize hM1 : vm_up M 70 7 a0 = M1 at hR13 ⊢
      have hf : ∀ b, 81 ≤ b → M1 b = M b := fun b hb => by
        rw [← hM1]
        repeat rw [vm_up_o (by omega)]
      refine E_R_lot ?_
      refine B_R_lot_0 ?_
      refine E_R_in ?_
      refine B_R_in_0 (fun h14 => by exfalso; omega) (fun h14 => ?_)
      refine B_R_in_6 (fun h15 => by exfalso; omega) (fun h15 => ?_)
      refine B_R_in_13 ?_
      refine B_R_lot_9 (fun h16 => ?_) (fun h16 => by exfalso; omega)
      refine B_R_lot_15 hR13 (fun hR17 => ?_)
      subst hM1; exact lf_lot hr (by omega)
theorem op_tasks {X : vX} {d : Nat} {M : vM} {a0 a1 a2 : Int} (hr : Rel M) : cq X (d + 40) 170 [vR 0, vI a0, vI a1, vI a2] M (fun v M1 => cq X (d + 40) 274 [vR 81, vI a0, vI a1, vI a2] M1 (fun v2 M2 => v2 = v ∧ Rel M2)) := by
  have hR := hr.1
  refine E_X_tasks ?_
  refine B_X_tasks_0 ?_
  refine E_X_within ?_
  refine B_X_within_0 (fun h1 => ?_) (fun h2 => ?_)
  · refine B_X_within_14 ?_
    refine B_X_tasks_7 (fun h3 => ?_) (fun h3 => by exfalso; omega)
    refine B_X_tasks_30 ?_
    refine E_R_tasks ?_
    refine B_R_tasks_0 ?_
    refine E_R_in ?_
    refine B_R_in_0 (fun h4 => ?_) (fun h4 => by exfalso; omega)
    refine B_R_in_17 ?_
    refine B_R_tasks_9 (fun h5 => ?_) (fun h5 => by exfalso; omega)
    refine B_R_tasks_36 ?_
    exact ⟨rfl, hr⟩
  · refine B_X_within_5 (fun h6 => ?_) (fun h7 => ?_)
    · refine B_X_within_14 ?_
      refine B_X_tasks_7 (fun h8 => ?_) (fun h8 => by exfalso; omega)
      refine B_X_tasks_30 ?_
      refine E_R_tasks ?_
      refine B_R_tasks_0 ?_
      refine E_R_in ?_
      refine B_R_in_0 (fun h9 => by exfalso; omega) (fun h9 => ?_)
      refine B_R_in_6 (fun h10 => ?_) (fun h10 => by exfalso; omega)
      refine B_R_in_17 ?_
      refine B_R_tasks_9 (fun h11 => ?_) (fun h11 => by exfalso; omega)
      refine B_R_tasks_36 ?_
      exact ⟨rfl, hr⟩
    · refine B_X_within_10 ?_
      refine B_X_tasks_7 (fun h12 => by exfalso; omega) (fun h12 => ?_)
      refine B_X_tasks_10 ?_
      refine E_X_within ?_
      refine B_X_within_0 (fun h13 => ?_) (fun h14 => ?_)
      · refine B_X_within_14 ?_
        refine B_X_tasks_17 (fun h15 => ?_) (fun h15 => by exfalso; omega)
        refine B_X_tasks_30 ?_
        refine E_R_tasks ?_
        refine B_R_tasks_0 ?_
        refine E_R_in ?_
        refine B_R_in_0 (fun h16 => by exfalso; omega) (fun h16 => ?_)
        refine B_R_in_6 (fun h17 => by exfalso; omega) (fun h17 => ?_)
        refine B_R_in_13 ?_
        refine B_R_tasks_9 (fun h18 => by exfalso; omega) (fun h18 => ?_)
        refine B_R_tasks_12 ?_
        refine E_R_in ?_
        refine B_R_in_0 (fun h19 => ?_) (fun h19 => by exfalso; omega)
        refine B_R_in_17 ?_
        refine B_R_tasks_21 (fun h20 => ?_) (fun h20 => by exfalso; omega)
        refine B_R_tasks_36 ?_
        exact ⟨rfl, hr⟩
      · refine B_X_within_5 (fun h21 => ?_) (fun h22 => ?_)
        · refine B_X_within_14 ?_
          refine B_X_tasks_17 (fun h23 => ?_) (fun h23 => by exfalso; omega)
          refine B_X_tasks_30 ?_
          refine E_R_tasks ?_
          refine B_R_tasks_0 ?_
          refine E_R_in ?_
          refine B_R_in_0 (fun h24 => by exfalso; omega) (fun h24 => ?_)
          refine B_R_in_6 (fun h25 => by exfalso; omega) (fun h25 => ?_)
          refine B_R_in_13 ?_
          refine B_R_tasks_9 (fun h26 => by exfalso; omega) (fun h26 => ?_)
          refine B_R_tasks_12 ?_
          refine E_R_in ?_
          refine B_R_in_0 (fun h27 => by exfalso; omega) (fun h27 => ?_)
          refine B_R_in_6 (fun h28 => ?_) (fun h28 => by exfalso; omega)
          refine B_R_in_17 ?_
          refine B_R_tasks_21 (fun h29 => ?_) (fun h29 => by exfalso; omega)
          refine B_R_tasks_36 ?_
          exact ⟨rfl, hr⟩
        · refine B_X_within_10 ?_
          refine B_X_tasks_17 (fun h30 => by exfalso; omega) (fun h30 => ?_)
          refine B_X_tasks_20 ?_
          refine E_X_within ?_
          refine B_X_within_0 (fun h31 => ?_) (fun h32 => ?_)
          · refine B_X_within_14 ?_
            refine B_X_tasks_27 (fun h33 => by exfalso; omega) (fun h33 => ?_)
            refine B_X_tasks_30 ?_
            refine E_R_tasks ?_
            refine B_R_tasks_0 ?_
            refine E_R_in ?_
            refine B_R_in_0 (fun h34 => by exfalso; omega) (fun h34 => ?_)
            refine B_R_in_6 (fun h35 => by exfalso; omega) (fun h35 => ?_)
            refine B_R_in_13 ?_
            refine B_R_tasks_9 (fun h36 => by exfalso; omega) (fun h36 => ?_)
            refine B_R_tasks_12 ?_
            refine E_R_in ?_
            refine B_R_in_0 (fun h37 => by exfalso; omega) (fun h37 => ?_)
            refine B_R_in_6 (fun h38 => by exfalso; omega) (fun h38 => ?_)
            refine B_R_in_13 ?_
            refine B_R_tasks_21 (fun h39 => by exfalso; omega) (fun h39 => ?_)
            refine B_R_tasks_24 ?_
            refine E_R_in ?_
            refine B_R_in_0 (fun h40 => ?_) (fun h40 => by exfalso; omega)
            refine B_R_in_17 ?_
            refine B_R_tasks_33 (fun h41 => by exfalso; omega) (fun h41 => ?_)
            refine B_R_tasks_36 ?_
            exact ⟨rfl, hr⟩
          · refine B_X_within_5 (fun h42 => ?_) (fun h43 => ?_)
            · refine B_X_within_14 ?_
              refine B_X_tasks_27 (fun h44 => by exfalso; omega) (fun h44 => ?_)
              refine B_X_tasks_30 ?_
              refine E_R_tasks ?_
              refine B_R_tasks_0 ?_
              refine E_R_in ?_
              refine B_R_in_0 (fun h45 => by exfalso; omega) (fun h45 => ?_)
              refine B_R_in_6 (fun h46 => by exfalso; omega) (fun h46 => ?_)
              refine B_R_in_13 ?_
              refine B_R_tasks_9 (fun h47 => by exfalso; omega) (fun h47 => ?_)
              refine B_R_tasks_12 ?_
              refine E_R_in ?_
              refine B_R_in_0 (fun h48 => by exfalso; omega) (fun h48 => ?_)
              refine B_R_in_6 (fun h49 => by exfalso; omega) (fun h49 => ?_)
              refine B_R_in_13 ?_
              refine B_R_tasks_21 (fun h50 => by exfalso; omega) (fun h50 => ?_)
              refine B_R_tasks_24 ?_
              refine E_R_in ?_
              refine B_R_in_0 (fun h51 => by exfalso; omega) (fun h51 => ?_)
              refine B_R_in_6 (fun h52 => ?_) (fun h52 => by exfalso; omega)
              refine B_R_in_17 ?_
              refine B_R_tasks_33 (fun h53 => by exfalso; omega) (fun h53 => ?_)
              refine B_R_tasks_36 ?_
              exact ⟨rfl, hr⟩
            · refine B_X_within_10 ?_
              refine B_X_tasks_27 (fun h54 => ?_) (fun h54 => by exfalso; omega)
              refine B_X_tasks_33 hR ?_
              refine E_Tw_set ?_
              refine B_Tw_set_0 hR (fun hR55 => ?_)
              refine B_X_tasks_43 ?_
              generalize hM1 : vm_up (vm_up (vm_up M 77 0 a0) 77 1 a1) 77 2 a2 = M1 at hR55 ⊢
              have hf : ∀ b, 81 ≤ b → M1 b = M b := fun b hb => by
                rw [← hM1]
                repeat rw [vm_up_o (by omega)]
              refine E_R_tasks ?_
              refine B_R_tasks_0 ?_
              refine E_R_in ?_
              refine B_R_in_0 (fun h56 => by exfalso; omega) (fun h56 => ?_)
              refine B_R_in_6 (fun h57 => by exfalso; omega) (fun h57 => ?_)
              refine B_R_in_13 ?_
              refine B_R_tasks_9 (fun h58 => by exfalso; omega) (fun h58 => ?_)
              refine B_R_tasks_12 ?_
              refine E_R_in ?_
              refine B_R_in_0 (fun h59 => by exfalso; omega) (fun h59 => ?_)
              refine B_R_in_6 (fun h60 => by exfalso; omega) (fun h60 => ?_)
              refine B_R_in_13 ?_
              refine B_R_tasks_21 (fun h61 => by exfalso; omega) (fun h61 => ?_)
              refine B_R_tasks_24 ?_
              refine E_R_in ?_
              refine B_R_in_0 (fun h62 => by exfalso; omega) (fun h62 => ?_)
              refine B_R_in_6 (fun h63 => by exfalso; omega) (fun h63 => ?_)
              refine B_R_in_13 ?_
              refine B_R_tasks_33 (fun h64 => ?_) (fun h64 => by exfalso; omega)
              refine B_R_tasks_39 hR55 (fun hR65 => ?_)
              subst hM1; exact lf_tasks hr (by omega) (by omega) (by omega)
