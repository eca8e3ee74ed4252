/-! OPERATIONS of a team (gen5.py) -/
theorem op_has {X : vX} {d : Nat} {M : vM} {a0 a1 : Int} (hr : Rel M) : cq X (d + 40) 151 [vR 0, vI a0, vI a1] M (fun v M1 => cq X (d + 40) 237 [vR 81, vI a0, vI a1] M1 (fun v2 M2 => v2 = v ∧ Rel M2)) := by
  obtain ⟨hR, -, -, -, ⟨te1, ⟨te2, te3⟩, -⟩, -⟩ := id hr
  have hsh := j_shl1 ⟨te2, te3⟩
  have hsm : j_ishl 1 (M 81 31) = j_ishl 1 (M 49 3) := by rw [te1]
  have := w32_id (x := M 81 31 - 1) (by omega) (by omega)
  refine E_X_has ?_
  refine B_X_has_0 hR ?_
  refine E_Te_isMember ?_
  refine B_Te_isMember_0 (fun h1 => ?_) (fun h2 => ?_)
  · refine B_Te_isMember_16 ?_
    refine B_X_has_8 (fun h3 => by exfalso; omega) (fun h3 => ?_)
    refine B_X_has_11 ?_
    refine E_R_has ?_
    refine B_R_has_0 ?_
    refine E_R_in ?_
    refine B_R_in_0 (fun h4 => ?_) (fun h4 => by exfalso; omega)
    refine B_R_in_17 ?_
    refine B_R_has_13 (fun h5 => by exfalso; omega) (fun h5 => ?_)
    refine B_R_has_16 ?_
    exact ⟨rfl, hr⟩
  · refine B_Te_isMember_4 (fun h6 => ?_) (fun h7 => ?_)
    · refine B_Te_isMember_16 ?_
      refine B_X_has_8 (fun h8 => by exfalso; omega) (fun h8 => ?_)
      refine B_X_has_11 ?_
      refine E_R_has ?_
      refine B_R_has_0 ?_
      refine E_R_in ?_
      refine B_R_in_0 (fun h9 => by exfalso; omega) (fun h9 => ?_)
      refine B_R_in_6 (fun h10 => ?_) (fun h11 => ?_)
      · refine B_R_in_17 ?_
        refine B_R_has_13 (fun h12 => by exfalso; omega) (fun h12 => ?_)
        refine B_R_has_16 ?_
        exact ⟨rfl, hr⟩
      · refine B_R_in_13 ?_
        refine B_R_has_13 (fun h13 => ?_) (fun h13 => by exfalso; omega)
        refine B_R_has_18 ?_
        refine E_R_isSet ?_
        refine B_R_isSet_0 (fun h14 => ?_) (fun h15 => ?_)
        · refine B_R_isSet_18 ?_
          refine B_R_has_23 (fun h16 => ?_) (fun h16 => by exfalso; omega)
          refine B_R_has_35 ?_
          exfalso; omega
        · refine B_R_isSet_4 (fun h17 => ?_) (fun h18 => ?_)
          · refine B_R_isSet_18 ?_
            refine B_R_has_23 (fun h19 => ?_) (fun h19 => by exfalso; omega)
            refine B_R_has_35 ?_
            exfalso; omega
          · refine B_R_isSet_14 ?_
            refine B_R_has_23 (fun h20 => by exfalso; omega) (fun h20 => ?_)
            refine B_R_has_26 ?_
            refine S_R_memberHas hr (by omega) (by omega) ?_
            refine B_R_has_32 ?_
            exfalso; omega
    · refine B_Te_isMember_12 ?_
      refine B_X_has_8 (fun h21 => ?_) (fun h21 => by exfalso; omega)
      refine B_X_has_13 hR ?_
      refine E_Te_isSet ?_
      refine B_Te_isSet_0 (fun h22 => ?_) (fun h23 => ?_)
      · refine B_Te_isSet_18 ?_
        refine B_X_has_21 (fun h24 => ?_) (fun h24 => by exfalso; omega)
        refine B_X_has_36 ?_
        refine E_R_has ?_
        refine B_R_has_0 ?_
        refine E_R_in ?_
        refine B_R_in_0 (fun h25 => by exfalso; omega) (fun h25 => ?_)
        refine B_R_in_6 (fun h26 => ?_) (fun h27 => ?_)
        · refine B_R_in_17 ?_
          refine B_R_has_13 (fun h28 => by exfalso; omega) (fun h28 => ?_)
          refine B_R_has_16 ?_
          exfalso; omega
        · refine B_R_in_13 ?_
          refine B_R_has_13 (fun h29 => ?_) (fun h29 => by exfalso; omega)
          refine B_R_has_18 ?_
          refine E_R_isSet ?_
          refine B_R_isSet_0 (fun h30 => ?_) (fun h30 => by exfalso; omega)
          refine B_R_isSet_18 ?_
          refine B_R_has_23 (fun h31 => ?_) (fun h31 => by exfalso; omega)
          refine B_R_has_35 ?_
          exact ⟨rfl, hr⟩
      · refine B_Te_isSet_4 (fun h32 => ?_) (fun h33 => ?_)
        · refine B_Te_isSet_18 ?_
          refine B_X_has_21 (fun h34 => ?_) (fun h34 => by exfalso; omega)
          refine B_X_has_36 ?_
          refine E_R_has ?_
          refine B_R_has_0 ?_
          refine E_R_in ?_
          refine B_R_in_0 (fun h35 => by exfalso; omega) (fun h35 => ?_)
          refine B_R_in_6 (fun h36 => ?_) (fun h37 => ?_)
          · refine B_R_in_17 ?_
            refine B_R_has_13 (fun h38 => by exfalso; omega) (fun h38 => ?_)
            refine B_R_has_16 ?_
            exfalso; omega
          · refine B_R_in_13 ?_
            refine B_R_has_13 (fun h39 => ?_) (fun h39 => by exfalso; omega)
            refine B_R_has_18 ?_
            refine E_R_isSet ?_
            refine B_R_isSet_0 (fun h40 => by exfalso; omega) (fun h40 => ?_)
            refine B_R_isSet_4 (fun h41 => ?_) (fun h42 => ?_)
            · refine B_R_isSet_18 ?_
              refine B_R_has_23 (fun h43 => ?_) (fun h43 => by exfalso; omega)
              refine B_R_has_35 ?_
              exact ⟨rfl, hr⟩
            · refine B_R_isSet_14 ?_
              refine B_R_has_23 (fun h44 => by exfalso; omega) (fun h44 => ?_)
              refine B_R_has_26 ?_
              refine S_R_memberHas hr (by omega) (by omega) ?_
              refine B_R_has_32 ?_
              exfalso; omega
        · refine B_Te_isSet_14 ?_
          refine B_X_has_21 (fun h45 => by exfalso; omega) (fun h45 => ?_)
          refine B_X_has_24 hR ?_
          refine S_Te_keeps hr (by omega) (by omega) ?_
          refine B_X_has_33 ?_
          refine E_R_has ?_
          refine B_R_has_0 ?_
          refine E_R_in ?_
          refine B_R_in_0 (fun h46 => by exfalso; omega) (fun h46 => ?_)
          refine B_R_in_6 (fun h47 => ?_) (fun h48 => ?_)
          · refine B_R_in_17 ?_
            refine B_R_has_13 (fun h49 => by exfalso; omega) (fun h49 => ?_)
            refine B_R_has_16 ?_
            exfalso; omega
          · refine B_R_in_13 ?_
            refine B_R_has_13 (fun h50 => ?_) (fun h50 => by exfalso; omega)
            refine B_R_has_18 ?_
            refine E_R_isSet ?_
            refine B_R_isSet_0 (fun h51 => by exfalso; omega) (fun h51 => ?_)
            refine B_R_isSet_4 (fun h52 => ?_) (fun h53 => ?_)
            · refine B_R_isSet_18 ?_
              refine B_R_has_23 (fun h54 => ?_) (fun h54 => by exfalso; omega)
              refine B_R_has_35 ?_
              exfalso; omega
            · refine B_R_isSet_14 ?_
              refine B_R_has_23 (fun h55 => by exfalso; omega) (fun h55 => ?_)
              refine B_R_has_26 ?_
              refine S_R_memberHas hr (by omega) (by omega) ?_
              refine B_R_has_32 ?_
              exact ⟨rfl, hr⟩
theorem op_holds {X : vX} {d : Nat} {M : vM} {a0 a1 : Int} (hr : Rel M) : cq X (d + 40) 152 [vR 0, vI a0, vI a1] M (fun v M1 => cq X (d + 40) 240 [vR 81, vI a0, vI a1] M1 (fun v2 M2 => v2 = v ∧ Rel M2)) := by
  obtain ⟨hR, -, -, -, ⟨te1, ⟨te2, te3⟩, -⟩, -⟩ := id hr
  have hsh := j_shl1 ⟨te2, te3⟩
  have hsm : j_ishl 1 (M 81 31) = j_ishl 1 (M 49 3) := by rw [te1]
  refine E_X_holds ?_
  refine B_X_holds_0 ?_
  refine E_X_within ?_
  refine B_X_within_0 (fun h1 => ?_) (fun h2 => ?_)
  · refine B_X_within_14 ?_
    refine B_X_holds_6 (fun h3 => by exfalso; omega) (fun h3 => ?_)
    refine B_X_holds_9 ?_
    refine E_R_holds ?_
    refine B_R_holds_0 ?_
    refine E_R_in ?_
    refine B_R_in_0 (fun h4 => ?_) (fun h4 => by exfalso; omega)
    refine B_R_in_17 ?_
    refine B_R_holds_7 (fun h5 => by exfalso; omega) (fun h5 => ?_)
    refine B_R_holds_10 ?_
    exact ⟨rfl, hr⟩
  · refine B_X_within_5 (fun h6 => ?_) (fun h7 => ?_)
    · refine B_X_within_14 ?_
      refine B_X_holds_6 (fun h8 => by exfalso; omega) (fun h8 => ?_)
      refine B_X_holds_9 ?_
      refine E_R_holds ?_
      refine B_R_holds_0 ?_
      refine E_R_in ?_
      refine B_R_in_0 (fun h9 => by exfalso; omega) (fun h9 => ?_)
      refine B_R_in_6 (fun h10 => ?_) (fun h10 => by exfalso; omega)
      refine B_R_in_17 ?_
      refine B_R_holds_7 (fun h11 => by exfalso; omega) (fun h11 => ?_)
      refine B_R_holds_10 ?_
      exact ⟨rfl, hr⟩
    · refine B_X_within_10 ?_
      refine B_X_holds_6 (fun h12 => ?_) (fun h12 => by exfalso; omega)
      refine B_X_holds_11 hR ?_
      refine E_Te_isSet ?_
      refine B_Te_isSet_0 (fun h13 => ?_) (fun h14 => ?_)
      · refine B_Te_isSet_18 ?_
        refine B_X_holds_19 (fun h15 => by exfalso; omega) (fun h15 => ?_)
        refine B_X_holds_22 ?_
        refine E_R_holds ?_
        refine B_R_holds_0 ?_
        refine E_R_in ?_
        refine B_R_in_0 (fun h16 => by exfalso; omega) (fun h16 => ?_)
        refine B_R_in_6 (fun h17 => by exfalso; omega) (fun h17 => ?_)
        refine B_R_in_13 ?_
        refine B_R_holds_7 (fun h18 => ?_) (fun h18 => by exfalso; omega)
        refine B_R_holds_12 ?_
        refine E_R_isSet ?_
        refine B_R_isSet_0 (fun h19 => ?_) (fun h19 => by exfalso; omega)
        refine B_R_isSet_18 ?_
        refine B_R_holds_17 (fun h20 => by exfalso; omega) (fun h20 => ?_)
        refine B_R_holds_20 ?_
        exact ⟨rfl, hr⟩
      · refine B_Te_isSet_4 (fun h21 => ?_) (fun h22 => ?_)
        · refine B_Te_isSet_18 ?_
          refine B_X_holds_19 (fun h23 => by exfalso; omega) (fun h23 => ?_)
          refine B_X_holds_22 ?_
          refine E_R_holds ?_
          refine B_R_holds_0 ?_
          refine E_R_in ?_
          refine B_R_in_0 (fun h24 => by exfalso; omega) (fun h24 => ?_)
          refine B_R_in_6 (fun h25 => by exfalso; omega) (fun h25 => ?_)
          refine B_R_in_13 ?_
          refine B_R_holds_7 (fun h26 => ?_) (fun h26 => by exfalso; omega)
          refine B_R_holds_12 ?_
          refine E_R_isSet ?_
          refine B_R_isSet_0 (fun h27 => by exfalso; omega) (fun h27 => ?_)
          refine B_R_isSet_4 (fun h28 => ?_) (fun h29 => ?_)
          · refine B_R_isSet_18 ?_
            refine B_R_holds_17 (fun h30 => by exfalso; omega) (fun h30 => ?_)
            refine B_R_holds_20 ?_
            exact ⟨rfl, hr⟩
          · refine B_R_isSet_14 ?_
            refine B_R_holds_17 (fun h31 => ?_) (fun h31 => by exfalso; omega)
            refine B_R_holds_25 (fun h32 => ?_) (fun h33 => ?_)
            · refine B_R_holds_36 ?_
              refine S_R_firstBreak hr (by omega) ?_
              refine B_R_holds_40 (fun h34 => ?_) (fun h35 => ?_)
              · refine B_R_holds_48 ?_
                exfalso; omega
              · refine B_R_holds_44 ?_
                exfalso; omega
            · refine B_R_holds_32 ?_
              refine S_R_firstBreak hr (by omega) ?_
              refine B_R_holds_40 (fun h36 => ?_) (fun h37 => ?_)
              · refine B_R_holds_48 ?_
                exfalso; omega
              · refine B_R_holds_44 ?_
                exfalso; omega
        · refine B_Te_isSet_14 ?_
          refine B_X_holds_19 (fun h38 => ?_) (fun h38 => by exfalso; omega)
          refine B_X_holds_25 hR (fun h39 => ?_) (fun h40 => ?_)
          · refine B_X_holds_39 ?_
            refine S_Te_firstBreak hr (by omega) ?_
            refine B_X_holds_43 (fun h41 => ?_) (fun h42 => ?_)
            · refine B_X_holds_51 ?_
              refine E_R_holds ?_
              refine B_R_holds_0 ?_
              refine E_R_in ?_
              refine B_R_in_0 (fun h43 => by exfalso; omega) (fun h43 => ?_)
              refine B_R_in_6 (fun h44 => by exfalso; omega) (fun h44 => ?_)
              refine B_R_in_13 ?_
              refine B_R_holds_7 (fun h45 => ?_) (fun h45 => by exfalso; omega)
              refine B_R_holds_12 ?_
              refine E_R_isSet ?_
              refine B_R_isSet_0 (fun h46 => by exfalso; omega) (fun h46 => ?_)
              refine B_R_isSet_4 (fun h47 => ?_) (fun h48 => ?_)
              · refine B_R_isSet_18 ?_
                refine B_R_holds_17 (fun h49 => by exfalso; omega) (fun h49 => ?_)
                refine B_R_holds_20 ?_
                exfalso; omega
              · refine B_R_isSet_14 ?_
                refine B_R_holds_17 (fun h50 => ?_) (fun h50 => by exfalso; omega)
                refine B_R_holds_25 (fun h51 => ?_) (fun h51 => by exfalso; omega)
                refine B_R_holds_36 ?_
                refine S_R_firstBreak hr (by omega) ?_
                refine B_R_holds_40 (fun h52 => ?_) (fun h52 => by exfalso; omega)
                refine B_R_holds_48 ?_
                exact ⟨rfl, hr⟩
            · refine B_X_holds_47 ?_
              refine E_R_holds ?_
              refine B_R_holds_0 ?_
              refine E_R_in ?_
              refine B_R_in_0 (fun h53 => by exfalso; omega) (fun h53 => ?_)
              refine B_R_in_6 (fun h54 => by exfalso; omega) (fun h54 => ?_)
              refine B_R_in_13 ?_
              refine B_R_holds_7 (fun h55 => ?_) (fun h55 => by exfalso; omega)
              refine B_R_holds_12 ?_
              refine E_R_isSet ?_
              refine B_R_isSet_0 (fun h56 => by exfalso; omega) (fun h56 => ?_)
              refine B_R_isSet_4 (fun h57 => ?_) (fun h58 => ?_)
              · refine B_R_isSet_18 ?_
                refine B_R_holds_17 (fun h59 => by exfalso; omega) (fun h59 => ?_)
                refine B_R_holds_20 ?_
                exfalso; omega
              · refine B_R_isSet_14 ?_
                refine B_R_holds_17 (fun h60 => ?_) (fun h60 => by exfalso; omega)
                refine B_R_holds_25 (fun h61 => ?_) (fun h61 => by exfalso; omega)
                refine B_R_holds_36 ?_
                refine S_R_firstBreak hr (by omega) ?_
                refine B_R_holds_40 (fun h62 => by exfalso; omega) (fun h62 => ?_)
                refine B_R_holds_44 ?_
                exact ⟨rfl, hr⟩
          · refine B_X_holds_35 ?_
            refine S_Te_firstBreak hr (by omega) ?_
            refine B_X_holds_43 (fun h63 => ?_) (fun h64 => ?_)
            · refine B_X_holds_51 ?_
              refine E_R_holds ?_
              refine B_R_holds_0 ?_
              refine E_R_in ?_
              refine B_R_in_0 (fun h65 => by exfalso; omega) (fun h65 => ?_)
              refine B_R_in_6 (fun h66 => by exfalso; omega) (fun h66 => ?_)
              refine B_R_in_13 ?_
              refine B_R_holds_7 (fun h67 => ?_) (fun h67 => by exfalso; omega)
              refine B_R_holds_12 ?_
              refine E_R_isSet ?_
              refine B_R_isSet_0 (fun h68 => by exfalso; omega) (fun h68 => ?_)
              refine B_R_isSet_4 (fun h69 => ?_) (fun h70 => ?_)
              · refine B_R_isSet_18 ?_
                refine B_R_holds_17 (fun h71 => by exfalso; omega) (fun h71 => ?_)
                refine B_R_holds_20 ?_
                exfalso; omega
              · refine B_R_isSet_14 ?_
                refine B_R_holds_17 (fun h72 => ?_) (fun h72 => by exfalso; omega)
                refine B_R_holds_25 (fun h73 => by exfalso; omega) (fun h73 => ?_)
                refine B_R_holds_32 ?_
                refine S_R_firstBreak hr (by omega) ?_
                refine B_R_holds_40 (fun h74 => ?_) (fun h74 => by exfalso; omega)
                refine B_R_holds_48 ?_
                exact ⟨rfl, hr⟩
            · refine B_X_holds_47 ?_
              refine E_R_holds ?_
              refine B_R_holds_0 ?_
              refine E_R_in ?_
              refine B_R_in_0 (fun h75 => by exfalso; omega) (fun h75 => ?_)
              refine B_R_in_6 (fun h76 => by exfalso; omega) (fun h76 => ?_)
              refine B_R_in_13 ?_
              refine B_R_holds_7 (fun h77 => ?_) (fun h77 => by exfalso; omega)
              refine B_R_holds_12 ?_
              refine E_R_isSet ?_
              refine B_R_isSet_0 (fun h78 => by exfalso; omega) (fun h78 => ?_)
              refine B_R_isSet_4 (fun h79 => ?_) (fun h80 => ?_)
              · refine B_R_isSet_18 ?_
                refine B_R_holds_17 (fun h81 => by exfalso; omega) (fun h81 => ?_)
                refine B_R_holds_20 ?_
                exfalso; omega
              · refine B_R_isSet_14 ?_
                refine B_R_holds_17 (fun h82 => ?_) (fun h82 => by exfalso; omega)
                refine B_R_holds_25 (fun h83 => by exfalso; omega) (fun h83 => ?_)
                refine B_R_holds_32 ?_
                refine S_R_firstBreak hr (by omega) ?_
                refine B_R_holds_40 (fun h84 => by exfalso; omega) (fun h84 => ?_)
                refine B_R_holds_44 ?_
                exact ⟨rfl, hr⟩
theorem op_breaks {X : vX} {d : Nat} {M : vM} {a0 : Int} (hr : Rel M) : cq X (d + 40) 153 [vR 0, vI a0] M (fun v M1 => cq X (d + 40) 241 [vR 81, vI a0] M1 (fun v2 M2 => v2 = v ∧ Rel M2)) := by
  obtain ⟨hR, -, -, -, ⟨te1, ⟨te2, te3⟩, -⟩, -⟩ := id hr
  have hsh := j_shl1 ⟨te2, te3⟩
  have hsm : j_ishl 1 (M 81 31) = j_ishl 1 (M 49 3) := by rw [te1]
  refine E_X_breaks ?_
  refine B_X_breaks_0 hR ?_
  refine E_Te_isSet ?_
  refine B_Te_isSet_0 (fun h1 => ?_) (fun h2 => ?_)
  · refine B_Te_isSet_18 ?_
    refine B_X_breaks_8 (fun h3 => ?_) (fun h3 => by exfalso; omega)
    refine B_X_breaks_23 ?_
    refine E_R_breaks ?_
    refine B_R_breaks_0 ?_
    refine E_R_isSet ?_
    refine B_R_isSet_0 (fun h4 => ?_) (fun h4 => by exfalso; omega)
    refine B_R_isSet_18 ?_
    refine B_R_breaks_5 (fun h5 => ?_) (fun h5 => by exfalso; omega)
    refine B_R_breaks_17 ?_
    exact ⟨rfl, hr⟩
  · refine B_Te_isSet_4 (fun h6 => ?_) (fun h7 => ?_)
    · refine B_Te_isSet_18 ?_
      refine B_X_breaks_8 (fun h8 => ?_) (fun h8 => by exfalso; omega)
      refine B_X_breaks_23 ?_
      refine E_R_breaks ?_
      refine B_R_breaks_0 ?_
      refine E_R_isSet ?_
      refine B_R_isSet_0 (fun h9 => by exfalso; omega) (fun h9 => ?_)
      refine B_R_isSet_4 (fun h10 => ?_) (fun h11 => ?_)
      · refine B_R_isSet_18 ?_
        refine B_R_breaks_5 (fun h12 => ?_) (fun h12 => by exfalso; omega)
        refine B_R_breaks_17 ?_
        exact ⟨rfl, hr⟩
      · refine B_R_isSet_14 ?_
        refine B_R_breaks_5 (fun h13 => by exfalso; omega) (fun h13 => ?_)
        refine B_R_breaks_8 ?_
        refine S_R_firstBreak hr (by omega) ?_
        refine B_R_breaks_14 ?_
        exfalso; omega
    · refine B_Te_isSet_14 ?_
      refine B_X_breaks_8 (fun h14 => by exfalso; omega) (fun h14 => ?_)
      refine B_X_breaks_11 hR ?_
      refine S_Te_firstBreak hr (by omega) ?_
      refine B_X_breaks_20 ?_
      refine E_R_breaks ?_
      refine B_R_breaks_0 ?_
      refine E_R_isSet ?_
      refine B_R_isSet_0 (fun h15 => by exfalso; omega) (fun h15 => ?_)
      refine B_R_isSet_4 (fun h16 => ?_) (fun h17 => ?_)
      · refine B_R_isSet_18 ?_
        refine B_R_breaks_5 (fun h18 => ?_) (fun h18 => by exfalso; omega)
        refine B_R_breaks_17 ?_
        exfalso; omega
      · refine B_R_isSet_14 ?_
        refine B_R_breaks_5 (fun h19 => by exfalso; omega) (fun h19 => ?_)
        refine B_R_breaks_8 ?_
        refine S_R_firstBreak hr (by omega) ?_
        refine B_R_breaks_14 ?_
        exact ⟨rfl, hr⟩
