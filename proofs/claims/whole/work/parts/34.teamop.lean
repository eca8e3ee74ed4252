/-! OPERATIONS of a team (gen5.py) -/
theorem op_has {X : vX} {d : Nat} {M : vM} {a0 a1 : Int} (hr : Rel M) : cq X (d + 40) 151 [vR 0, vI a0, vI a1] M (fun v M1 => cq X (d + 40) 237 [vR 81, vI a0, vI a1] M1 (fun v2 M2 => v2 = v ∧ Rel M2)) := by
  obtain ⟨hR, -, -, -, ⟨te1, ⟨te2, te3⟩, -⟩, -⟩ := id hr
  have hsh := j_shl1 ⟨te2, te3⟩
  have hsm : j_ishl 1 (M 81 31) = j_ishl 1 (M 49 3) := by rw [te1]
  have := w32_id (x := M 81 31 - 1) (by omega) (by omega)
  refine E_X_has ?_
  refine B_X_has_0 hR ?_
  refine E_Te_isMember ?_
  refine B_Te_isMember_0 (fun h1 => ?_) (fun h2 => ?_)
  · refine B_Te_isMember_16 ?_
    refine B_X_has_8 (fun h3 => by exfalso; omega) (fun h3 => ?_)
    refine B_X_has_11 ?_
    refine E_R_has ?_
    refine B_R_has_0 ?_
    refine E_R_in ?_
    refine B_R_in_0 (fun h4 => ?_) (fun h4 => by exfalso; omega)
    refine B_R_in_17 ?_
    refine B_R_has_13 (fun h5 => by exfalso; omega) (fun h5 => ?_)
    refine B_R_has_16 ?_
    exact ⟨rfl, hr⟩
  · refine B_Te_isMember_4 (fun h6 => ?_) (fun h7 => ?_)
    · refine B_Te_isMember_16 ?_
      refine B_X_has_8 (fun h8 => by exfalso; omega) (fun h8 => ?_)
      refine B_X_has_11 ?_
      refine E_R_has ?_
      refine B_R_has_0 ?_
      refine E_R_in ?_
      refine B_R_in_0 (fun h9 => by exfalso; omega) (fun h9 => ?_)
      refine B_R_in_6 (fun h10 => ?_) (fun h11 => ?_)
      · refine B_R_in_17 ?_
        refine B_R_has_13 (fun h12 => by exfalso; omega) (fun h12 => ?_)
        refine B_R_has_16 ?_
        exact ⟨rfl, hr⟩
      · refine B_R_in_13 ?_
        refine B_R_has_13 (fun h13 => ?_) (fun h13 => by exfalso; omega)
        refine B_R_has_18 ?_
        refine E_R_isSet ?_
        refine B_R_isSet_0 (fun h14 => ?_) (fun h15 => ?_)
        · refine B_R_isSet_18 ?_
          refine B_R_has_23 (fun h16 => ?_) (fun h16 => by exfalso; omega)
          refine B_R_has_35 ?_
          exfalso; omega
        · refine B_R_isSet_4 (fun h17 => ?_) (fun h18 => ?_)
          · refine B_R_isSet_18 ?_
            refine B_R_has_23 (fun h19 => ?_) (fun h19 => by exfalso; omega)
            refine B_R_has_35 ?_
            exfalso; omega
          · refine B_R_isSet_14 ?_
            refine B_R_has_23 (fun h20 => by exfalso; omega) (fun h20 => ?_)
            refine B_R_has_26 ?_
            refine S_R_memberHas hr (by omega) (by omega) ?_
            refine B_R_has_32 ?_
            exfalso; omega
    · refine B_Te_isMember_12 ?_
      refine B_X_has_8 (fun h21 => ?_) (fun h21 => by exfalso; omega)
      refine B_X_has_13 hR ?_
      refine E_Te_isSet ?_
      refine B_Te_isSet_0 (fun h22 => ?_) (fun h23 => ?_)
      · refine B_Te_isSet_18 ?_
        refine B_X_has_21 (fun h24 => ?_) (fun h24 => by exfalso; omega)
        refine B_X_has_36 ?_
        refine E_R_has ?_
        refine B_R_has_0 ?_
        refine E_R_in ?_
        refine B_R_in_0 (fun h25 => by exfalso; omega) (fun h25 => ?_)
        refine B_R_in_6 (fun h26 => ?_) (fun h27 => ?_)
        · refine B_R_in_17 ?_
          refine B_R_has_13 (fun h28 => by exfalso; omega) (fun h28 => ?_)
          refine B_R_has_16 ?_
          exfalso; omega
        · refine B_R_in_13 ?_
          refine B_R_has_13 (fun h29 => ?_) (fun h29 => by exfalso; omega)
          refine B_R_has_18 ?_
          refine E_R_isSet ?_
          refine B_R_isSet_0 (fun h30 => ?_) (fun h30 => by exfalso; omega)
          refine B_R_isSet_18 ?_
          refine B_R_has_23 (fun h31 => ?_) (fun h31 => by exfalso; omega)
          refine B_R_has_35 ?_
          exact ⟨rfl, hr⟩
      · refine B_Te_isSet_4 (fun h32 => ?_) (fun h33 => ?_)
        · refine B_Te_isSet_18 ?_
          refine B_X_has_21 (fun h34 => ?_) (fun h34 => by exfalso; omega)
          refine B_X_has_36 ?_
          refine E_R_has ?_
          refine B_R_has_0 ?_
          refine E_R_in ?_
          refine B_R_in_0 (fun h35 => by exfalso; omega) (fun h35 => ?_)
          refine B_R_in_6 (fun h36 => ?_) (fun h37 => ?_)
          · refine B_R_in_17 ?_
            refine B_R_has_13 (fun h38 => by exfalso; omega) (fun h38 => ?_)
            refine B_R_has_16 ?_
            exfalso; omega
          · refine B_R_in_13 ?_
            refine B_R_has_13 (fun h39 => ?_) (fun h39 => by exfalso; omega)
            refine B_R_has_18 ?_
            refine E_R_isSet ?_
            refine B_R_isSet_0 (fun h40 => by exfalso; omega) (fun h40 => ?_)
            refine B_R_isSet_4 (fun h41 => ?_) (fun h42 => ?_)
            · refine B_R_isSet_18 ?_
              refine B_R_has_23 (fun h43 => ?_) (fun h43 => by exfalso; omega)
              refine B_R_has_35 ?_
              exact ⟨rfl, hr⟩
            · refine B_R_isSet_14 ?_
              refine B_R_has_23 (fun h44 => by exfalso; omega) (fun h44 => ?_)
              refine B_R_has_26 ?_
              refine S_R_memberHas hr (by omega) (by omega) ?_
              refine B_R_has_32 ?_
              exfalso; omega
        · refine B_Te_isSet_14 ?_
          refine B_X_has_21 (fun h45 => by exfalso; omega) (fun h45 => ?_)
          refine B_X_has_24 hR ?_
          refine S_Te_keeps hr (by omega) (by omega) ?_
          refine B_X_has_33 ?_
          refine E_R_has ?_
          refine B_R_has_0 ?_
          refine E_R_in ?_
          refine B_R_in_0 (fun h46 => by exfalso; omega) (fun h46 => ?_)
          refine B_R_in_6 (fun h47 => ?_) (fun h48 => ?_)
          · refine B_R_in_17 ?_
            refine B_R_has_13 (fun h49 => by exfalso; omega) (fun h49 => ?_)
            refine B_R_has_16 ?_
            exfalso; omega
          · refine B_R_in_13 ?_
            refine B_R_has_13 (fun h50 => ?_) (fun h50 => by exfalso; omega)
            refine B_R_has_18 ?_
            refine E_R_isSet ?_
            refine B_R_isSet_0 (fun h51 => by exfalso; omega) (fun h51 => ?_)
            refine B_R_isSet_4 (fun h52 => ?_) (fun h53 => ?_)
            · refine B_R_isSet_18 ?_
              refine B_R_has_23 (fun h54 => ?_) (fun h54 => by exfalso; omega)
              refine B_R_has_35 ?_
              exfalso; omega
            · refine B_R_isSet_14 ?_
              refine B_R_has_23 (fun h55 => by exfalso; omega) (fun h55 => ?_)
              refine B_R_has_26 ?_
              refine S_R_memberHas hr (by omega) (by omega) ?_
              refine B_R_has_32 ?_
              exact ⟨rfl, hr⟩
