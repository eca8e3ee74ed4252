/-! OPERATIONS that have no loop, continued (gen5.py) -/
theorem lf_terms {M : vM} {a0 a1 a2 a3 a4 : Int} (hr : Rel M) (h0 : 0 ≤ a0 ∧ a0 ≤ 12) (h1 : 0 ≤ a1 ∧ a1 ≤ 12) (h2 : 0 ≤ a2 ∧ a2 ≤ 12) (h3 : 0 ≤ a3 ∧ a3 ≤ 12) (h4 : 0 ≤ a4 ∧ a4 ≤ 99) : some (vI 0) = some (vI 0) ∧ Rel (vm_up (vm_up (vm_up (vm_up (vm_up (vm_up (vm_up (vm_up (vm_up (vm_up (vm_up M 31 0 a0) 31 1 a1) 32 0 a2) 32 1 a3) 30 4 a4) 30 5 0) 98 0 a0) 98 1 a1) 99 0 a2) 99 1 a3) 81 28 a4) := by
  obtain ⟨hR, hRA, hRM, hRP, hRT, hRC, hRK, hRY, hR2⟩ := hr
  refine ⟨rfl, vRefs_up (vRefs_free (vRefs_free (vRefs_free (vRefs_free (vRefs_up (vRefs_up (vRefs_free (vRefs_free (vRefs_free (vRefs_free (hR) ⟨by decide, by decide⟩) ⟨by decide, by decide⟩) ⟨by decide, by decide⟩) ⟨by decide, by decide⟩) ⟨by decide, by decide⟩) ⟨by decide, by decide⟩) ⟨by decide, by decide⟩) ⟨by decide, by decide⟩) ⟨by decide, by decide⟩) ⟨by decide, by decide⟩) ⟨by decide, by decide⟩, RA_up (RA_up (RA_up (RA_up (RA_up (RA_up (RA_up (RA_up (RA_up (RA_up (RA_up (hRA) (by unfold sRA; omega)) (by unfold sRA; omega)) (by unfold sRA; omega)) (by unfold sRA; omega)) (by unfold sRA; omega)) (by unfold sRA; omega)) (by unfold sRA; omega)) (by unfold sRA; omega)) (by unfold sRA; omega)) (by unfold sRA; omega)) (by unfold sRA; omega), by simpa [RM, vm_up] using hRM, ?_, by simpa [RT, vm_up] using hRT, by simpa [RC, vm_up] using hRC, RK_up (RK_up (RK_up (RK_up (RK_up (RK_up (RK_up (RK_up (RK_up (RK_up (RK_up (hRK) (by unfold sRK; omega)) (by unfold sRK; omega)) (by unfold sRK; omega)) (by unfold sRK; omega)) (by unfold sRK; omega)) (by unfold sRK; omega)) (by unfold sRK; omega)) (by unfold sRK; omega)) (by unfold sRK; omega)) (by unfold sRK; omega)) (by unfold sRK; omega), by simpa [RY, vm_up] using hRY, by simpa [R2, vm_up] using hR2⟩
  refine ⟨fun e he => ?_, fun e he => ?_, by simp [vm_up], by simpa [vm_up] using h4, by simp [vm_up], fun h => by simp [vm_up] at h⟩
  · rcases (show e = 0 ∨ e = 1 by omega) with rfl | rfl <;> simp [vm_up] <;> omega
  · rcases (show e = 0 ∨ e = 1 by omega) with rfl | rfl <;> simp [vm_up] <;> omega
theorem op_terms {X : vX} {d : Nat} {M : vM} {a0 a1 a2 a3 a4 : Int} (hr : Rel M) : cq X (d + 40) 145 [vR 0, vI a0, vI a1, vI a2, vI a3, vI a4] M (fun v M1 => cq X (d + 40) 225 [vR 81, vI a0, vI a1, vI a2, vI a3, vI a4] M1 (fun v2 M2 => v2 = v ∧ Rel M2)) := by
  have hR := hr.1
  refine E_X_terms ?_
  refine B_X_terms_0 ?_
  refine E_Pr_isCostOrChance ?_
  refine B_Pr_isCostOrChance_0 ?_
  refine E_X_within ?_
  refine B_X_within_0 (fun h1 => ?_) (fun h2 => ?_)
  · refine B_X_within_14 ?_
    refine B_Pr_isCostOrChance_7 (by omega) ?_
    refine B_X_terms_4 (fun h3 => ?_) (fun h3 => by exfalso; omega)
    refine B_X_terms_44 (fun h4 => by exfalso; omega) (fun h4 => ?_)
    refine B_X_terms_52 ?_
    refine E_R_terms ?_
    refine B_R_terms_0 ?_
    refine E_R_in ?_
    refine B_R_in_0 (fun h5 => ?_) (fun h5 => by exfalso; omega)
    refine B_R_in_17 ?_
    refine B_R_terms_9 (fun h6 => ?_) (fun h6 => by exfalso; omega)
    refine B_R_terms_62 ?_
    exact ⟨rfl, hr⟩
  · refine B_X_within_5 (fun h7 => ?_) (fun h8 => ?_)
    · refine B_X_within_14 ?_
      refine B_Pr_isCostOrChance_7 (by omega) ?_
      refine B_X_terms_4 (fun h9 => ?_) (fun h9 => by exfalso; omega)
      refine B_X_terms_44 (fun h10 => by exfalso; omega) (fun h10 => ?_)
      refine B_X_terms_52 ?_
      refine E_R_terms ?_
      refine B_R_terms_0 ?_
      refine E_R_in ?_
      refine B_R_in_0 (fun h11 => by exfalso; omega) (fun h11 => ?_)
      refine B_R_in_6 (fun h12 => ?_) (fun h12 => by exfalso; omega)
      refine B_R_in_17 ?_
      refine B_R_terms_9 (fun h13 => ?_) (fun h13 => by exfalso; omega)
      refine B_R_terms_62 ?_
      exact ⟨rfl, hr⟩
    · refine B_X_within_10 ?_
      refine B_Pr_isCostOrChance_7 (by omega) ?_
      refine B_X_terms_4 (fun h14 => by exfalso; omega) (fun h14 => ?_)
      refine B_X_terms_7 ?_
      refine E_Pr_isCostOrChance ?_
      refine B_Pr_isCostOrChance_0 ?_
      refine E_X_within ?_
      refine B_X_within_0 (fun h15 => ?_) (fun h16 => ?_)
      · refine B_X_within_14 ?_
        refine B_Pr_isCostOrChance_7 (by omega) ?_
        refine B_X_terms_11 (fun h17 => ?_) (fun h17 => by exfalso; omega)
        refine B_X_terms_44 (fun h18 => by exfalso; omega) (fun h18 => ?_)
        refine B_X_terms_52 ?_
        refine E_R_terms ?_
        refine B_R_terms_0 ?_
        refine E_R_in ?_
        refine B_R_in_0 (fun h19 => by exfalso; omega) (fun h19 => ?_)
        refine B_R_in_6 (fun h20 => by exfalso; omega) (fun h20 => ?_)
        refine B_R_in_13 ?_
        refine B_R_terms_9 (fun h21 => by exfalso; omega) (fun h21 => ?_)
        refine B_R_terms_12 ?_
        refine E_R_in ?_
        refine B_R_in_0 (fun h22 => ?_) (fun h22 => by exfalso; omega)
        refine B_R_in_17 ?_
        refine B_R_terms_21 (fun h23 => ?_) (fun h23 => by exfalso; omega)
        refine B_R_terms_62 ?_
        exact ⟨rfl, hr⟩
      · refine B_X_within_5 (fun h24 => ?_) (fun h25 => ?_)
        · refine B_X_within_14 ?_
          refine B_Pr_isCostOrChance_7 (by omega) ?_
          refine B_X_terms_11 (fun h26 => ?_) (fun h26 => by exfalso; omega)
          refine B_X_terms_44 (fun h27 => by exfalso; omega) (fun h27 => ?_)
          refine B_X_terms_52 ?_
          refine E_R_terms ?_
          refine B_R_terms_0 ?_
          refine E_R_in ?_
          refine B_R_in_0 (fun h28 => by exfalso; omega) (fun h28 => ?_)
          refine B_R_in_6 (fun h29 => by exfalso; omega) (fun h29 => ?_)
          refine B_R_in_13 ?_
          refine B_R_terms_9 (fun h30 => by exfalso; omega) (fun h30 => ?_)
          refine B_R_terms_12 ?_
          refine E_R_in ?_
          refine B_R_in_0 (fun h31 => by exfalso; omega) (fun h31 => ?_)
          refine B_R_in_6 (fun h32 => ?_) (fun h32 => by exfalso; omega)
          refine B_R_in_17 ?_
          refine B_R_terms_21 (fun h33 => ?_) (fun h33 => by exfalso; omega)
          refine B_R_terms_62 ?_
          exact ⟨rfl, hr⟩
        · refine B_X_within_10 ?_
          refine B_Pr_isCostOrChance_7 (by omega) ?_
          refine B_X_terms_11 (fun h34 => by exfalso; omega) (fun h34 => ?_)
          refine B_X_terms_14 ?_
          refine E_Pr_isCostOrChance ?_
          refine B_Pr_isCostOrChance_0 ?_
          refine E_X_within ?_
          refine B_X_within_0 (fun h35 => ?_) (fun h36 => ?_)
          · refine B_X_within_14 ?_
            refine B_Pr_isCostOrChance_7 (by omega) ?_
            refine B_X_terms_18 (fun h37 => ?_) (fun h37 => by exfalso; omega)
            refine B_X_terms_44 (fun h38 => by exfalso; omega) (fun h38 => ?_)
            refine B_X_terms_52 ?_
            refine E_R_terms ?_
            refine B_R_terms_0 ?_
            refine E_R_in ?_
            refine B_R_in_0 (fun h39 => by exfalso; omega) (fun h39 => ?_)
            refine B_R_in_6 (fun h40 => by exfalso; omega) (fun h40 => ?_)
            refine B_R_in_13 ?_
            refine B_R_terms_9 (fun h41 => by exfalso; omega) (fun h41 => ?_)
            refine B_R_terms_12 ?_
            refine E_R_in ?_
            refine B_R_in_0 (fun h42 => by exfalso; omega) (fun h42 => ?_)
            refine B_R_in_6 (fun h43 => by exfalso; omega) (fun h43 => ?_)
            refine B_R_in_13 ?_
            refine B_R_terms_21 (fun h44 => by exfalso; omega) (fun h44 => ?_)
            refine B_R_terms_24 ?_
            refine E_R_in ?_
            refine B_R_in_0 (fun h45 => ?_) (fun h45 => by exfalso; omega)
            refine B_R_in_17 ?_
            refine B_R_terms_33 (fun h46 => ?_) (fun h46 => by exfalso; omega)
            refine B_R_terms_62 ?_
            exact ⟨rfl, hr⟩
          · refine B_X_within_5 (fun h47 => ?_) (fun h48 => ?_)
            · refine B_X_within_14 ?_
              refine B_Pr_isCostOrChance_7 (by omega) ?_
              refine B_X_terms_18 (fun h49 => ?_) (fun h49 => by exfalso; omega)
              refine B_X_terms_44 (fun h50 => by exfalso; omega) (fun h50 => ?_)
              refine B_X_terms_52 ?_
              refine E_R_terms ?_
              refine B_R_terms_0 ?_
              refine E_R_in ?_
              refine B_R_in_0 (fun h51 => by exfalso; omega) (fun h51 => ?_)
              refine B_R_in_6 (fun h52 => by exfalso; omega) (fun h52 => ?_)
              refine B_R_in_13 ?_
              refine B_R_terms_9 (fun h53 => by exfalso; omega) (fun h53 => ?_)
              refine B_R_terms_12 ?_
              refine E_R_in ?_
              refine B_R_in_0 (fun h54 => by exfalso; omega) (fun h54 => ?_)
              refine B_R_in_6 (fun h55 => by exfalso; omega) (fun h55 => ?_)
              refine B_R_in_13 ?_
              refine B_R_terms_21 (fun h56 => by exfalso; omega) (fun h56 => ?_)
              refine B_R_terms_24 ?_
              refine E_R_in ?_
              refine B_R_in_0 (fun h57 => by exfalso; omega) (fun h57 => ?_)
              refine B_R_in_6 (fun h58 => ?_) (fun h58 => by exfalso; omega)
              refine B_R_in_17 ?_
              refine B_R_terms_33 (fun h59 => ?_) (fun h59 => by exfalso; omega)
              refine B_R_terms_62 ?_
              exact ⟨rfl, hr⟩
            · refine B_X_within_10 ?_
              refine B_Pr_isCostOrChance_7 (by omega) ?_
              refine B_X_terms_18 (fun h60 => by exfalso; omega) (fun h60 => ?_)
              refine B_X_terms_21 ?_
              refine E_Pr_isCostOrChance ?_
              refine B_Pr_isCostOrChance_0 ?_
              refine E_X_within ?_
              refine B_X_within_0 (fun h61 => ?_) (fun h62 => ?_)
              · refine B_X_within_14 ?_
                refine B_Pr_isCostOrChance_7 (by omega) ?_
                refine B_X_terms_26 (fun h63 => ?_) (fun h63 => by exfalso; omega)
                refine B_X_terms_44 (fun h64 => by exfalso; omega) (fun h64 => ?_)
                refine B_X_terms_52 ?_
                refine E_R_terms ?_
                refine B_R_terms_0 ?_
                refine E_R_in ?_
                refine B_R_in_0 (fun h65 => by exfalso; omega) (fun h65 => ?_)
                refine B_R_in_6 (fun h66 => by exfalso; omega) (fun h66 => ?_)
                refine B_R_in_13 ?_
                refine B_R_terms_9 (fun h67 => by exfalso; omega) (fun h67 => ?_)
                refine B_R_terms_12 ?_
                refine E_R_in ?_
                refine B_R_in_0 (fun h68 => by exfalso; omega) (fun h68 => ?_)
                refine B_R_in_6 (fun h69 => by exfalso; omega) (fun h69 => ?_)
                refine B_R_in_13 ?_
                refine B_R_terms_21 (fun h70 => by exfalso; omega) (fun h70 => ?_)
                refine B_R_terms_24 ?_
                refine E_R_in ?_
                refine B_R_in_0 (fun h71 => by exfalso; omega) (fun h71 => ?_)
                refine B_R_in_6 (fun h72 => by exfalso; omega) (fun h72 => ?_)
                refine B_R_in_13 ?_
                refine B_R_terms_33 (fun h73 => by exfalso; omega) (fun h73 => ?_)
                refine B_R_terms_36 ?_
                refine E_R_in ?_
                refine B_R_in_0 (fun h74 => ?_) (fun h74 => by exfalso; omega)
                refine B_R_in_17 ?_
                refine B_R_terms_46 (fun h75 => ?_) (fun h75 => by exfalso; omega)
                refine B_R_terms_62 ?_
                exact ⟨rfl, hr⟩
              · refine B_X_within_5 (fun h76 => ?_) (fun h77 => ?_)
                · refine B_X_within_14 ?_
                  refine B_Pr_isCostOrChance_7 (by omega) ?_
                  refine B_X_terms_26 (fun h78 => ?_) (fun h78 => by exfalso; omega)
                  refine B_X_terms_44 (fun h79 => by exfalso; omega) (fun h79 => ?_)
                  refine B_X_terms_52 ?_
                  refine E_R_terms ?_
                  refine B_R_terms_0 ?_
                  refine E_R_in ?_
                  refine B_R_in_0 (fun h80 => by exfalso; omega) (fun h80 => ?_)
                  refine B_R_in_6 (fun h81 => by exfalso; omega) (fun h81 => ?_)
                  refine B_R_in_13 ?_
                  refine B_R_terms_9 (fun h82 => by exfalso; omega) (fun h82 => ?_)
                  refine B_R_terms_12 ?_
                  refine E_R_in ?_
                  refine B_R_in_0 (fun h83 => by exfalso; omega) (fun h83 => ?_)
                  refine B_R_in_6 (fun h84 => by exfalso; omega) (fun h84 => ?_)
                  refine B_R_in_13 ?_
                  refine B_R_terms_21 (fun h85 => by exfalso; omega) (fun h85 => ?_)
                  refine B_R_terms_24 ?_
                  refine E_R_in ?_
                  refine B_R_in_0 (fun h86 => by exfalso; omega) (fun h86 => ?_)
                  refine B_R_in_6 (fun h87 => by exfalso; omega) (fun h87 => ?_)
                  refine B_R_in_13 ?_
                  refine B_R_terms_33 (fun h88 => by exfalso; omega) (fun h88 => ?_)
                  refine B_R_terms_36 ?_
                  refine E_R_in ?_
                  refine B_R_in_0 (fun h89 => by exfalso; omega) (fun h89 => ?_)
                  refine B_R_in_6 (fun h90 => ?_) (fun h90 => by exfalso; omega)
                  refine B_R_in_17 ?_
                  refine B_R_terms_46 (fun h91 => ?_) (fun h91 => by exfalso; omega)
                  refine B_R_terms_62 ?_
                  exact ⟨rfl, hr⟩
                · refine B_X_within_10 ?_
                  refine B_Pr_isCostOrChance_7 (by omega) ?_
                  refine B_X_terms_26 (fun h92 => by exfalso; omega) (fun h92 => ?_)
                  refine B_X_terms_29 ?_
                  refine E_X_within ?_
                  refine B_X_within_0 (fun h93 => ?_) (fun h94 => ?_)
                  · refine B_X_within_14 ?_
                    refine B_X_terms_37 (fun h95 => ?_) (fun h95 => by exfalso; omega)
                    refine B_X_terms_44 (fun h96 => by exfalso; omega) (fun h96 => ?_)
                    refine B_X_terms_52 ?_
                    refine E_R_terms ?_
                    refine B_R_terms_0 ?_
                    refine E_R_in ?_
                    refine B_R_in_0 (fun h97 => by exfalso; omega) (fun h97 => ?_)
                    refine B_R_in_6 (fun h98 => by exfalso; omega) (fun h98 => ?_)
                    refine B_R_in_13 ?_
                    refine B_R_terms_9 (fun h99 => by exfalso; omega) (fun h99 => ?_)
                    refine B_R_terms_12 ?_
                    refine E_R_in ?_
                    refine B_R_in_0 (fun h100 => by exfalso; omega) (fun h100 => ?_)
                    refine B_R_in_6 (fun h101 => by exfalso; omega) (fun h101 => ?_)
                    refine B_R_in_13 ?_
                    refine B_R_terms_21 (fun h102 => by exfalso; omega) (fun h102 => ?_)
                    refine B_R_terms_24 ?_
                    refine E_R_in ?_
                    refine B_R_in_0 (fun h103 => by exfalso; omega) (fun h103 => ?_)
                    refine B_R_in_6 (fun h104 => by exfalso; omega) (fun h104 => ?_)
                    refine B_R_in_13 ?_
                    refine B_R_terms_33 (fun h105 => by exfalso; omega) (fun h105 => ?_)
                    refine B_R_terms_36 ?_
                    refine E_R_in ?_
                    refine B_R_in_0 (fun h106 => by exfalso; omega) (fun h106 => ?_)
                    refine B_R_in_6 (fun h107 => by exfalso; omega) (fun h107 => ?_)
                    refine B_R_in_13 ?_
                    refine B_R_terms_46 (fun h108 => by exfalso; omega) (fun h108 => ?_)
                    refine B_R_terms_49 ?_
                    refine E_R_in ?_
                    refine B_R_in_0 (fun h109 => ?_) (fun h109 => by exfalso; omega)
                    refine B_R_in_17 ?_
                    refine B_R_terms_59 (fun h110 => by exfalso; omega) (fun h110 => ?_)
                    refine B_R_terms_62 ?_
                    exact ⟨rfl, hr⟩
                  · refine B_X_within_5 (fun h111 => ?_) (fun h112 => ?_)
                    · refine B_X_within_14 ?_
                      refine B_X_terms_37 (fun h113 => ?_) (fun h113 => by exfalso; omega)
                      refine B_X_terms_44 (fun h114 => by exfalso; omega) (fun h114 => ?_)
                      refine B_X_terms_52 ?_
                      refine E_R_terms ?_
                      refine B_R_terms_0 ?_
                      refine E_R_in ?_
                      refine B_R_in_0 (fun h115 => by exfalso; omega) (fun h115 => ?_)
                      refine B_R_in_6 (fun h116 => by exfalso; omega) (fun h116 => ?_)
                      refine B_R_in_13 ?_
                      refine B_R_terms_9 (fun h117 => by exfalso; omega) (fun h117 => ?_)
                      refine B_R_terms_12 ?_
                      refine E_R_in ?_
                      refine B_R_in_0 (fun h118 => by exfalso; omega) (fun h118 => ?_)
                      refine B_R_in_6 (fun h119 => by exfalso; omega) (fun h119 => ?_)
                      refine B_R_in_13 ?_
                      refine B_R_terms_21 (fun h120 => by exfalso; omega) (fun h120 => ?_)
                      refine B_R_terms_24 ?_
                      refine E_R_in ?_
                      refine B_R_in_0 (fun h121 => by exfalso; omega) (fun h121 => ?_)
                      refine B_R_in_6 (fun h122 => by exfalso; omega) (fun h122 => ?_)
                      refine B_R_in_13 ?_
                      refine B_R_terms_33 (fun h123 => by exfalso; omega) (fun h123 => ?_)
                      refine B_R_terms_36 ?_
                      refine E_R_in ?_
                      refine B_R_in_0 (fun h124 => by exfalso; omega) (fun h124 => ?_)
                      refine B_R_in_6 (fun h125 => by exfalso; omega) (fun h125 => ?_)
                      refine B_R_in_13 ?_
                      refine B_R_terms_46 (fun h126 => by exfalso; omega) (fun h126 => ?_)
                      refine B_R_terms_49 ?_
                      refine E_R_in ?_
                      refine B_R_in_0 (fun h127 => by exfalso; omega) (fun h127 => ?_)
                      refine B_R_in_6 (fun h128 => ?_) (fun h128 => by exfalso; omega)
                      refine B_R_in_17 ?_
                      refine B_R_terms_59 (fun h129 => by exfalso; omega) (fun h129 => ?_)
                      refine B_R_terms_62 ?_
                      exact ⟨rfl, hr⟩
                    · refine B_X_within_10 ?_
                      refine B_X_terms_37 (fun h130 => by exfalso; omega) (fun h130 => ?_)
                      refine B_X_terms_40 (fun h131 => ?_) (fun h131 => by exfalso; omega)
                      refine B_X_terms_55 hR ?_
                      refine E_Pr_set ?_
                      refine B_Pr_set_0 hR (fun hR132 => ?_)
                      refine B_X_terms_69 ?_
                      generalize hM1 : vm_up (vm_up (vm_up (vm_up (vm_up (vm_up M 31 0 a0) 31 1 a1) 32 0 a2) 32 1 a3) 30 4 a4) 30 5 0 = M1 at hR132 ⊢
                      have hf : ∀ b, 81 ≤ b → M1 b = M b := fun b hb => by
                        rw [← hM1]
                        repeat rw [vm_up_o (by omega)]
                      refine E_R_terms ?_
                      refine B_R_terms_0 ?_
                      refine E_R_in ?_
                      refine B_R_in_0 (fun h133 => by exfalso; omega) (fun h133 => ?_)
                      refine B_R_in_6 (fun h134 => by exfalso; omega) (fun h134 => ?_)
                      refine B_R_in_13 ?_
                      refine B_R_terms_9 (fun h135 => by exfalso; omega) (fun h135 => ?_)
                      refine B_R_terms_12 ?_
                      refine E_R_in ?_
                      refine B_R_in_0 (fun h136 => by exfalso; omega) (fun h136 => ?_)
                      refine B_R_in_6 (fun h137 => by exfalso; omega) (fun h137 => ?_)
                      refine B_R_in_13 ?_
                      refine B_R_terms_21 (fun h138 => by exfalso; omega) (fun h138 => ?_)
                      refine B_R_terms_24 ?_
                      refine E_R_in ?_
                      refine B_R_in_0 (fun h139 => by exfalso; omega) (fun h139 => ?_)
                      refine B_R_in_6 (fun h140 => by exfalso; omega) (fun h140 => ?_)
                      refine B_R_in_13 ?_
                      refine B_R_terms_33 (fun h141 => by exfalso; omega) (fun h141 => ?_)
                      refine B_R_terms_36 ?_
                      refine E_R_in ?_
                      refine B_R_in_0 (fun h142 => by exfalso; omega) (fun h142 => ?_)
                      refine B_R_in_6 (fun h143 => by exfalso; omega) (fun h143 => ?_)
                      refine B_R_in_13 ?_
                      refine B_R_terms_46 (fun h144 => by exfalso; omega) (fun h144 => ?_)
                      refine B_R_terms_49 ?_
                      refine E_R_in ?_
                      refine B_R_in_0 (fun h145 => by exfalso; omega) (fun h145 => ?_)
                      refine B_R_in_6 (fun h146 => by exfalso; omega) (fun h146 => ?_)
                      refine B_R_in_13 ?_
                      refine B_R_terms_59 (fun h147 => ?_) (fun h147 => by exfalso; omega)
                      refine B_R_terms_65 hR132 (fun hR148 => ?_)
                      subst hM1; exact lf_terms hr (by omega) (by omega) (by omega) (by omega) (by omega)
theorem lf_contest {M : vM} {a0 a1 a2 : Int} (hr : Rel M) (h0 : 0 ≤ a0 ∧ a0 ≤ 999) (h1 : 11 ≤ a1 ∧ a1 ≤ 99) (h1b : ¬ j_irem a1 10 = 0) (h2 : 0 ≤ a2 ∧ a2 ≤ 99) : some (vI 0) = some (vI 0) ∧ Rel (vm_up (vm_up (vm_up (vm_up (vm_up (vm_up (vm_up (vm_up (vm_up (vm_up M 53 2 a0) 54 0 (j_idiv a1 10)) 54 1 (j_irem a1 10)) 55 0 (j_idiv a2 10)) 55 1 (j_irem a2 10)) 81 35 a0) 105 0 (j_idiv a1 10)) 105 1 (j_irem a1 10)) 106 0 (j_idiv a2 10)) 106 1 (j_irem a2 10)) := by
  obtain ⟨hR, hRA, hRM, hRP, hRT, hRC, hRK, hRY, hR2⟩ := hr
  refine ⟨rfl, vRefs_free (vRefs_free (vRefs_free (vRefs_free (vRefs_up (vRefs_free (vRefs_free (vRefs_free (vRefs_free (vRefs_up (hR) ⟨by decide, by decide⟩) ⟨by decide, by decide⟩) ⟨by decide, by decide⟩) ⟨by decide, by decide⟩) ⟨by decide, by decide⟩) ⟨by decide, by decide⟩) ⟨by decide, by decide⟩) ⟨by decide, by decide⟩) ⟨by decide, by decide⟩) ⟨by decide, by decide⟩, RA_up (RA_up (RA_up (RA_up (RA_up (RA_up (RA_up (RA_up (RA_up (RA_up (hRA) (by unfold sRA; omega)) (by unfold sRA; omega)) (by unfold sRA; omega)) (by unfold sRA; omega)) (by unfold sRA; omega)) (by unfold sRA; omega)) (by unfold sRA; omega)) (by unfold sRA; omega)) (by unfold sRA; omega)) (by unfold sRA; omega), by simpa [RM, vm_up] using hRM, RP_up (RP_up (RP_up (RP_up (RP_up (RP_up (RP_up (RP_up (RP_up (RP_up (hRP) (by unfold sRP; omega)) (by unfold sRP; omega)) (by unfold sRP; omega)) (by unfold sRP; omega)) (by unfold sRP; omega)) (by unfold sRP; omega)) (by unfold sRP; omega)) (by unfold sRP; omega)) (by unfold sRP; omega)) (by unfold sRP; omega), by simpa [RT, vm_up] using hRT, ?_, RK_up (RK_up (RK_up (RK_up (RK_up (RK_up (RK_up (RK_up (RK_up (RK_up (hRK) (by unfold sRK; omega)) (by unfold sRK; omega)) (by unfold sRK; omega)) (by unfold sRK; omega)) (by unfold sRK; omega)) (by unfold sRK; omega)) (by unfold sRK; omega)) (by unfold sRK; omega)) (by unfold sRK; omega)) (by unfold sRK; omega), by simpa [RY, vm_up] using hRY, by simpa [R2, vm_up] using hR2⟩
  have e1 := j_div10 (x := a1) (by omega) (by omega)
  have e2 := j_rem10 (x := a1) (by omega) (by omega)
  have e3 := j_div10 (x := a2) (by omega) (by omega)
  have e4 := j_rem10 (x := a2) (by omega) (by omega)
  rw [e2] at h1b
  refine ⟨by simp [vm_up], by simpa [vm_up] using h0, fun e he => ?_, fun e he => ?_⟩
  · rcases (show e = 0 ∨ e = 1 by omega) with rfl | rfl <;> simp [vm_up] <;> omega
  · rcases (show e = 0 ∨ e = 1 by omega) with rfl | rfl <;> simp [vm_up] <;> omega
theorem op_contest {X : vX} {d : Nat} {M : vM} {a0 a1 a2 : Int} (hr : Rel M) : cq X (d + 40) 155 [vR 0, vI a0, vI a1, vI a2] M (fun v M1 => cq X (d + 40) 243 [vR 81, vI a0, vI a1, vI a2] M1 (fun v2 M2 => v2 = v ∧ Rel M2)) := by
  have hR := hr.1
  refine E_X_contest ?_
  refine B_X_contest_0 ?_
  refine E_X_within ?_
  refine B_X_within_0 (fun h1 => ?_) (fun h2 => ?_)
  · refine B_X_within_14 ?_
    refine B_X_contest_8 (fun h3 => ?_) (fun h3 => by exfalso; omega)
    refine B_X_contest_28 ?_
    refine E_R_contest ?_
    refine B_R_contest_0 ?_
    refine E_R_in ?_
    refine B_R_in_0 (fun h4 => ?_) (fun h4 => by exfalso; omega)
    refine B_R_in_17 ?_
    refine B_R_contest_9 (fun h5 => ?_) (fun h5 => by exfalso; omega)
    refine B_R_contest_45 ?_
    exact ⟨rfl, hr⟩
  · refine B_X_within_5 (fun h6 => ?_) (fun h7 => ?_)
    · refine B_X_within_14 ?_
      refine B_X_contest_8 (fun h8 => ?_) (fun h8 => by exfalso; omega)
      refine B_X_contest_28 ?_
      refine E_R_contest ?_
      refine B_R_contest_0 ?_
      refine E_R_in ?_
      refine B_R_in_0 (fun h9 => by exfalso; omega) (fun h9 => ?_)
      refine B_R_in_6 (fun h10 => ?_) (fun h10 => by exfalso; omega)
      refine B_R_in_17 ?_
      refine B_R_contest_9 (fun h11 => ?_) (fun h11 => by exfalso; omega)
      refine B_R_contest_45 ?_
      exact ⟨rfl, hr⟩
    · refine B_X_within_10 ?_
      refine B_X_contest_8 (fun h12 => by exfalso; omega) (fun h12 => ?_)
      refine B_X_contest_11 ?_
      refine E_Ct_areCosts ?_
      refine B_Ct_areCosts_0 ?_
      refine E_X_within ?_
      refine B_X_within_0 (fun h13 => ?_) (fun h14 => ?_)
      · refine B_X_within_14 ?_
        refine B_Ct_areCosts_8 (fun h15 => ?_) (fun h15 => by exfalso; omega)
        refine B_Ct_areCosts_22 ?_
        refine B_X_contest_15 (fun h16 => ?_) (fun h16 => by exfalso; omega)
        refine B_X_contest_28 ?_
        refine E_R_contest ?_
        refine B_R_contest_0 ?_
        refine E_R_in ?_
        refine B_R_in_0 (fun h17 => by exfalso; omega) (fun h17 => ?_)
        refine B_R_in_6 (fun h18 => by exfalso; omega) (fun h18 => ?_)
        refine B_R_in_13 ?_
        refine B_R_contest_9 (fun h19 => by exfalso; omega) (fun h19 => ?_)
        refine B_R_contest_12 ?_
        refine E_R_in ?_
        refine B_R_in_0 (fun h20 => ?_) (fun h20 => by exfalso; omega)
        refine B_R_in_17 ?_
        refine B_R_contest_23 (fun h21 => ?_) (fun h21 => by exfalso; omega)
        refine B_R_contest_45 ?_
        exact ⟨rfl, hr⟩
      · refine B_X_within_5 (fun h22 => ?_) (fun h23 => ?_)
        · refine B_X_within_14 ?_
          refine B_Ct_areCosts_8 (fun h24 => ?_) (fun h24 => by exfalso; omega)
          refine B_Ct_areCosts_22 ?_
          refine B_X_contest_15 (fun h25 => ?_) (fun h25 => by exfalso; omega)
          refine B_X_contest_28 ?_
          refine E_R_contest ?_
          refine B_R_contest_0 ?_
          refine E_R_in ?_
          refine B_R_in_0 (fun h26 => by exfalso; omega) (fun h26 => ?_)
          refine B_R_in_6 (fun h27 => by exfalso; omega) (fun h27 => ?_)
          refine B_R_in_13 ?_
          refine B_R_contest_9 (fun h28 => by exfalso; omega) (fun h28 => ?_)
          refine B_R_contest_12 ?_
          refine E_R_in ?_
          refine B_R_in_0 (fun h29 => by exfalso; omega) (fun h29 => ?_)
          refine B_R_in_6 (fun h30 => ?_) (fun h30 => by exfalso; omega)
          refine B_R_in_17 ?_
          refine B_R_contest_23 (fun h31 => ?_) (fun h31 => by exfalso; omega)
          refine B_R_contest_45 ?_
          exact ⟨rfl, hr⟩
        · refine B_X_within_10 ?_
          refine B_Ct_areCosts_8 (fun h32 => by exfalso; omega) (fun h32 => ?_)
          refine B_Ct_areCosts_11 (fun h33 => ?_) (fun h34 => ?_)
          · refine B_Ct_areCosts_22 ?_
            refine B_X_contest_15 (fun h35 => ?_) (fun h35 => by exfalso; omega)
            refine B_X_contest_28 ?_
            refine E_R_contest ?_
            refine B_R_contest_0 ?_
            refine E_R_in ?_
            refine B_R_in_0 (fun h36 => by exfalso; omega) (fun h36 => ?_)
            refine B_R_in_6 (fun h37 => by exfalso; omega) (fun h37 => ?_)
            refine B_R_in_13 ?_
            refine B_R_contest_9 (fun h38 => by exfalso; omega) (fun h38 => ?_)
            refine B_R_contest_12 ?_
            refine E_R_in ?_
            refine B_R_in_0 (fun h39 => by exfalso; omega) (fun h39 => ?_)
            refine B_R_in_6 (fun h40 => by exfalso; omega) (fun h40 => ?_)
            refine B_R_in_13 ?_
            refine B_R_contest_23 (fun h41 => by exfalso; omega) (fun h41 => ?_)
            refine B_R_contest_26 (fun h42 => ?_) (fun h42 => by exfalso; omega)
            refine B_R_contest_45 ?_
            exact ⟨rfl, hr⟩
          · refine B_Ct_areCosts_18 ?_
            refine B_X_contest_15 (fun h43 => by exfalso; omega) (fun h43 => ?_)
            refine B_X_contest_18 ?_
            refine E_X_within ?_
            refine B_X_within_0 (fun h44 => ?_) (fun h45 => ?_)
            · refine B_X_within_14 ?_
              refine B_X_contest_25 (fun h46 => by exfalso; omega) (fun h46 => ?_)
              refine B_X_contest_28 ?_
              refine E_R_contest ?_
              refine B_R_contest_0 ?_
              refine E_R_in ?_
              refine B_R_in_0 (fun h47 => by exfalso; omega) (fun h47 => ?_)
              refine B_R_in_6 (fun h48 => by exfalso; omega) (fun h48 => ?_)
              refine B_R_in_13 ?_
              refine B_R_contest_9 (fun h49 => by exfalso; omega) (fun h49 => ?_)
              refine B_R_contest_12 ?_
              refine E_R_in ?_
              refine B_R_in_0 (fun h50 => by exfalso; omega) (fun h50 => ?_)
              refine B_R_in_6 (fun h51 => by exfalso; omega) (fun h51 => ?_)
              refine B_R_in_13 ?_
              refine B_R_contest_23 (fun h52 => by exfalso; omega) (fun h52 => ?_)
              refine B_R_contest_26 (fun h53 => by exfalso; omega) (fun h53 => ?_)
              refine B_R_contest_33 ?_
              refine E_R_in ?_
              refine B_R_in_0 (fun h54 => ?_) (fun h54 => by exfalso; omega)
              refine B_R_in_17 ?_
              refine B_R_contest_42 (fun h55 => by exfalso; omega) (fun h55 => ?_)
              refine B_R_contest_45 ?_
              exact ⟨rfl, hr⟩
            · refine B_X_within_5 (fun h56 => ?_) (fun h57 => ?_)
              · refine B_X_within_14 ?_
                refine B_X_contest_25 (fun h58 => by exfalso; omega) (fun h58 => ?_)
                refine B_X_contest_28 ?_
                refine E_R_contest ?_
                refine B_R_contest_0 ?_
                refine E_R_in ?_
                refine B_R_in_0 (fun h59 => by exfalso; omega) (fun h59 => ?_)
                refine B_R_in_6 (fun h60 => by exfalso; omega) (fun h60 => ?_)
                refine B_R_in_13 ?_
                refine B_R_contest_9 (fun h61 => by exfalso; omega) (fun h61 => ?_)
                refine B_R_contest_12 ?_
                refine E_R_in ?_
                refine B_R_in_0 (fun h62 => by exfalso; omega) (fun h62 => ?_)
                refine B_R_in_6 (fun h63 => by exfalso; omega) (fun h63 => ?_)
                refine B_R_in_13 ?_
                refine B_R_contest_23 (fun h64 => by exfalso; omega) (fun h64 => ?_)
                refine B_R_contest_26 (fun h65 => by exfalso; omega) (fun h65 => ?_)
                refine B_R_contest_33 ?_
                refine E_R_in ?_
                refine B_R_in_0 (fun h66 => by exfalso; omega) (fun h66 => ?_)
                refine B_R_in_6 (fun h67 => ?_) (fun h67 => by exfalso; omega)
                refine B_R_in_17 ?_
                refine B_R_contest_42 (fun h68 => by exfalso; omega) (fun h68 => ?_)
                refine B_R_contest_45 ?_
                exact ⟨rfl, hr⟩
              · refine B_X_within_10 ?_
                refine B_X_contest_25 (fun h69 => ?_) (fun h69 => by exfalso; omega)
                refine B_X_contest_31 hR ?_
                refine E_Ct_set ?_
                refine B_Ct_set_0 hR (fun hR70 => ?_)
                refine B_X_contest_41 ?_
                generalize hM1 : vm_up (vm_up (vm_up (vm_up (vm_up M 53 2 a0) 54 0 (j_idiv a1 10)) 54 1 (j_irem a1 10)) 55 0 (j_idiv a2 10)) 55 1 (j_irem a2 10) = M1 at hR70 ⊢
                have hf : ∀ b, 81 ≤ b → M1 b = M b := fun b hb => by
                  rw [← hM1]
                  repeat rw [vm_up_o (by omega)]
                refine E_R_contest ?_
                refine B_R_contest_0 ?_
                refine E_R_in ?_
                refine B_R_in_0 (fun h71 => by exfalso; omega) (fun h71 => ?_)
                refine B_R_in_6 (fun h72 => by exfalso; omega) (fun h72 => ?_)
                refine B_R_in_13 ?_
                refine B_R_contest_9 (fun h73 => by exfalso; omega) (fun h73 => ?_)
                refine B_R_contest_12 ?_
                refine E_R_in ?_
                refine B_R_in_0 (fun h74 => by exfalso; omega) (fun h74 => ?_)
                refine B_R_in_6 (fun h75 => by exfalso; omega) (fun h75 => ?_)
                refine B_R_in_13 ?_
                refine B_R_contest_23 (fun h76 => by exfalso; omega) (fun h76 => ?_)
                refine B_R_contest_26 (fun h77 => by exfalso; omega) (fun h77 => ?_)
                refine B_R_contest_33 ?_
                refine E_R_in ?_
                refine B_R_in_0 (fun h78 => by exfalso; omega) (fun h78 => ?_)
                refine B_R_in_6 (fun h79 => by exfalso; omega) (fun h79 => ?_)
                refine B_R_in_13 ?_
                refine B_R_contest_42 (fun h80 => ?_) (fun h80 => by exfalso; omega)
                refine B_R_contest_48 hR70 (fun hR81 => ?_)
                subst hM1; exact lf_contest hr (by omega) (by omega) (by omega) (by omega)
theorem op_count {X : vX} {d : Nat} {M : vM} {a0 : Int} (hr : Rel M) : cq X (d + 40) 174 [vR 0, vI a0] M (fun v M1 => cq X (d + 40) 279 [vR 81, vI a0] M1 (fun v2 M2 => v2 = v ∧ Rel M2)) := by
  have hR := hr.1
  obtain ⟨-, hA, -, -, -, -, hK, hY, -⟩ := id hr
  refine E_X_count ?_
  refine B_X_count_0 (fun h1 => ?_) (fun h2 => ?_) (fun h3 => ?_) (fun h4 => ?_) (fun h5 => ?_) (fun h6 => ?_) (fun h7 => ?_)
  · refine B_X_count_88 ?_
    refine E_R_count ?_
    refine B_R_count_0 (fun h8 => ?_) (fun h9 => ?_) (fun h10 => ?_) (fun h11 => ?_) (fun h12 => ?_) (fun h13 => ?_) (fun h14 => ?_)
    · refine B_R_count_70 ?_
      exact ⟨rfl, hr⟩
    · refine B_R_count_40 ?_
      exfalso; omega
    · refine B_R_count_45 ?_
      exfalso; omega
    · refine B_R_count_50 ?_
      exfalso; omega
    · refine B_R_count_55 ?_
      exfalso; omega
    · refine B_R_count_60 ?_
      exfalso; omega
    · refine B_R_count_65 ?_
      exfalso; omega
  · refine B_X_count_40 hR ?_
    refine E_Ac_howMany ?_
    refine B_Ac_howMany_0 ?_
    refine B_X_count_47 ?_
    refine E_R_count ?_
    refine B_R_count_0 (fun h15 => ?_) (fun h16 => ?_) (fun h17 => by exfalso; omega) (fun h18 => by exfalso; omega) (fun h19 => by exfalso; omega) (fun h20 => by exfalso; omega) (fun h21 => by exfalso; omega)
    · refine B_R_count_70 ?_
      exfalso; omega
    · refine B_R_count_40 ?_
      exact ⟨by first | rw [hA.2.1] | rw [hA.2.2.2.1] | rw [hA.2.2.2.2.2.1] | rw [hK.2.2.2.1] | rw [hY.2.1] | rw [hK.1], hr⟩
  · refine B_X_count_48 hR ?_
    refine E_Ac_howManySights ?_
    refine B_Ac_howManySights_0 ?_
    refine B_X_count_55 ?_
    refine E_R_count ?_
    refine B_R_count_0 (fun h22 => ?_) (fun h23 => by exfalso; omega) (fun h24 => ?_) (fun h25 => by exfalso; omega) (fun h26 => by exfalso; omega) (fun h27 => by exfalso; omega) (fun h28 => by exfalso; omega)
    · refine B_R_count_70 ?_
      exfalso; omega
    · refine B_R_count_45 ?_
      exact ⟨by first | rw [hA.2.1] | rw [hA.2.2.2.1] | rw [hA.2.2.2.2.2.1] | rw [hK.2.2.2.1] | rw [hY.2.1] | rw [hK.1], hr⟩
  · refine B_X_count_56 hR ?_
    refine E_Ac_reserved ?_
    refine B_Ac_reserved_0 ?_
    refine B_X_count_63 ?_
    refine E_R_count ?_
    refine B_R_count_0 (fun h29 => ?_) (fun h30 => by exfalso; omega) (fun h31 => by exfalso; omega) (fun h32 => ?_) (fun h33 => by exfalso; omega) (fun h34 => by exfalso; omega) (fun h35 => by exfalso; omega)
    · refine B_R_count_70 ?_
      exfalso; omega
    · refine B_R_count_50 ?_
      exact ⟨by first | rw [hA.2.1] | rw [hA.2.2.2.1] | rw [hA.2.2.2.2.2.1] | rw [hK.2.2.2.1] | rw [hY.2.1] | rw [hK.1], hr⟩
  · refine B_X_count_64 hR ?_
    refine E_Co_howMany ?_
    refine B_Co_howMany_0 ?_
    refine B_X_count_71 ?_
    refine E_R_count ?_
    refine B_R_count_0 (fun h36 => ?_) (fun h37 => by exfalso; omega) (fun h38 => by exfalso; omega) (fun h39 => by exfalso; omega) (fun h40 => ?_) (fun h41 => by exfalso; omega) (fun h42 => by exfalso; omega)
    · refine B_R_count_70 ?_
      exfalso; omega
    · refine B_R_count_55 ?_
      exact ⟨by first | rw [hA.2.1] | rw [hA.2.2.2.1] | rw [hA.2.2.2.2.2.1] | rw [hK.2.2.2.1] | rw [hY.2.1] | rw [hK.1], hr⟩
  · refine B_X_count_72 hR ?_
    refine E_Ye_howMany ?_
    refine B_Ye_howMany_0 ?_
    refine B_X_count_79 ?_
    refine E_R_count ?_
    refine B_R_count_0 (fun h43 => ?_) (fun h44 => by exfalso; omega) (fun h45 => by exfalso; omega) (fun h46 => by exfalso; omega) (fun h47 => by exfalso; omega) (fun h48 => ?_) (fun h49 => by exfalso; omega)
    · refine B_R_count_70 ?_
      exfalso; omega
    · refine B_R_count_60 ?_
      exact ⟨by first | rw [hA.2.1] | rw [hA.2.2.2.1] | rw [hA.2.2.2.2.2.1] | rw [hK.2.2.2.1] | rw [hY.2.1] | rw [hK.1], hr⟩
  · refine B_X_count_80 hR ?_
    refine E_Co_tapeLength ?_
    refine B_Co_tapeLength_0 ?_
    refine B_X_count_87 ?_
    refine E_R_count ?_
    refine B_R_count_0 (fun h50 => ?_) (fun h51 => by exfalso; omega) (fun h52 => by exfalso; omega) (fun h53 => by exfalso; omega) (fun h54 => by exfalso; omega) (fun h55 => by exfalso; omega) (fun h56 => ?_)
    · refine B_R_count_70 ?_
      exfalso; omega
    · refine B_R_count_65 ?_
      exact ⟨by first | rw [hA.2.1] | rw [hA.2.2.2.1] | rw [hA.2.2.2.2.2.1] | rw [hK.2.2.2.1] | rw [hY.2.1] | rw [hK.1], hr⟩
theorem op_then {X : vX} {d : Nat} {M : vM} {a0 a1 : Int} (hr : Rel M) : cq X (d + 40) 166 [vR 0, vI a0, vI a1] M (fun v M1 => cq X (d + 40) 269 [vR 81, vI a0, vI a1] M1 (fun v2 M2 => v2 = v ∧ Rel M2)) := by
  have hR := hr.1
  obtain ⟨⟨yn1, yn2⟩, yn3, yl1, yl2, yall⟩ := id hr.2.2.2.2.2.2.2.1
  have := w32_id (x := M 81 49 - 1) (by omega) (by omega)
  refine E_X_then ?_
  refine B_X_then_0 hR ?_
  refine E_Ye_isYear ?_
  refine B_Ye_isYear_0 (fun h1 => ?_) (fun h2 => ?_)
  · refine B_Ye_isYear_16 ?_
    refine B_X_then_8 (fun h3 => ?_) (fun h3 => by exfalso; omega)
    refine B_X_then_23 ?_
    refine E_R_then ?_
    refine B_R_then_0 ?_
    refine E_R_in ?_
    refine B_R_in_0 (fun h4 => ?_) (fun h4 => by exfalso; omega)
    refine B_R_in_17 ?_
    refine B_R_then_13 (fun h5 => ?_) (fun h5 => by exfalso; omega)
    refine B_R_then_28 ?_
    exact ⟨rfl, hr⟩
  · refine B_Ye_isYear_4 (fun h6 => ?_) (fun h7 => ?_)
    · refine B_Ye_isYear_16 ?_
      refine B_X_then_8 (fun h8 => ?_) (fun h8 => by exfalso; omega)
      refine B_X_then_23 ?_
      refine E_R_then ?_
      refine B_R_then_0 ?_
      refine E_R_in ?_
      refine B_R_in_0 (fun h9 => by exfalso; omega) (fun h9 => ?_)
      refine B_R_in_6 (fun h10 => ?_) (fun h11 => ?_)
      · refine B_R_in_17 ?_
        refine B_R_then_13 (fun h12 => ?_) (fun h12 => by exfalso; omega)
        refine B_R_then_28 ?_
        exact ⟨rfl, hr⟩
      · refine B_R_in_13 ?_
        refine B_R_then_13 (fun h13 => by exfalso; omega) (fun h13 => ?_)
        refine B_R_then_16 ?_
        refine E_R_in ?_
        refine B_R_in_0 (fun h14 => ?_) (fun h15 => ?_)
        · refine B_R_in_17 ?_
          refine B_R_then_25 (fun h16 => by exfalso; omega) (fun h16 => ?_)
          refine B_R_then_28 ?_
          exact ⟨rfl, hr⟩
        · refine B_R_in_6 (fun h17 => ?_) (fun h18 => ?_)
          · refine B_R_in_17 ?_
            refine B_R_then_25 (fun h19 => by exfalso; omega) (fun h19 => ?_)
            refine B_R_then_28 ?_
            exact ⟨rfl, hr⟩
          · refine B_R_in_13 ?_
            refine B_R_then_25 (fun h20 => ?_) (fun h20 => by exfalso; omega)
            refine B_R_then_30 (fun h21 => ?_) (fun h22 => ?_)
            · refine B_R_then_43 (fun h23 => ?_) (fun h24 => ?_)
              · refine B_R_then_57 (fun h25 => ?_) (fun h26 => ?_)
                · refine B_R_then_71 (fun h27 => ?_) (fun h28 => ?_)
                  · refine B_R_then_94 hR (by omega) ?_
                    exfalso; omega
                  · refine B_R_then_76 hR (by omega) (fun h29 => ?_) (fun h30 => ?_)
                    · refine B_R_then_90 ?_
                      exfalso; first | omega | (have hy := yall a0.toNat (by omega) (by omega); omega)
                    · refine B_R_then_86 ?_
                      exfalso; first | omega | (have hy := yall a0.toNat (by omega) (by omega); omega)
                · refine B_R_then_62 hR (by omega) ?_
                  exfalso; omega
              · refine B_R_then_48 hR (by omega) ?_
                exfalso; omega
            · refine B_R_then_34 hR (by omega) ?_
              exfalso; omega
    · refine B_Ye_isYear_12 ?_
      refine B_X_then_8 (fun h31 => by exfalso; omega) (fun h31 => ?_)
      refine B_X_then_11 hR ?_
      refine E_Ye_told ?_
      refine B_Ye_told_0 (fun h32 => ?_) (fun h33 => ?_) (fun h34 => ?_) (fun h35 => ?_) (fun h36 => ?_) (fun h37 => ?_)
      · refine B_Ye_told_80 ?_
        refine B_X_then_20 ?_
        refine E_R_then ?_
        refine B_R_then_0 ?_
        refine E_R_in ?_
        refine B_R_in_0 (fun h38 => by exfalso; omega) (fun h38 => ?_)
        refine B_R_in_6 (fun h39 => ?_) (fun h40 => ?_)
        · refine B_R_in_17 ?_
          refine B_R_then_13 (fun h41 => ?_) (fun h41 => by exfalso; omega)
          refine B_R_then_28 ?_
          exact ⟨rfl, hr⟩
        · refine B_R_in_13 ?_
          refine B_R_then_13 (fun h42 => by exfalso; omega) (fun h42 => ?_)
          refine B_R_then_16 ?_
          refine E_R_in ?_
          refine B_R_in_0 (fun h43 => ?_) (fun h44 => ?_)
          · refine B_R_in_17 ?_
            refine B_R_then_25 (fun h45 => by exfalso; omega) (fun h45 => ?_)
            refine B_R_then_28 ?_
            exact ⟨rfl, hr⟩
          · refine B_R_in_6 (fun h46 => ?_) (fun h47 => ?_)
            · refine B_R_in_17 ?_
              refine B_R_then_25 (fun h48 => by exfalso; omega) (fun h48 => ?_)
              refine B_R_then_28 ?_
              exact ⟨rfl, hr⟩
            · refine B_R_in_13 ?_
              refine B_R_then_25 (fun h49 => ?_) (fun h49 => by exfalso; omega)
              refine B_R_then_30 (fun h50 => ?_) (fun h51 => ?_)
              · refine B_R_then_43 (fun h52 => ?_) (fun h53 => ?_)
                · refine B_R_then_57 (fun h54 => ?_) (fun h55 => ?_)
                  · refine B_R_then_71 (fun h56 => ?_) (fun h57 => ?_)
                    · refine B_R_then_94 hR (by omega) ?_
                      exfalso; omega
                    · refine B_R_then_76 hR (by omega) (fun h58 => ?_) (fun h59 => ?_)
                      · refine B_R_then_90 ?_
                        exfalso; first | omega | (have hy := yall a0.toNat (by omega) (by omega); omega)
                      · refine B_R_then_86 ?_
                        exfalso; first | omega | (have hy := yall a0.toNat (by omega) (by omega); omega)
                  · refine B_R_then_62 hR (by omega) ?_
                    exfalso; omega
                · refine B_R_then_48 hR (by omega) ?_
                  exfalso; omega
              · refine B_R_then_34 hR (by omega) ?_
                exfalso; omega
      · refine B_Ye_told_36 hR (by omega) ?_
        refine B_X_then_20 ?_
        refine E_R_then ?_
        refine B_R_then_0 ?_
        refine E_R_in ?_
        refine B_R_in_0 (fun h60 => by exfalso; omega) (fun h60 => ?_)
        refine B_R_in_6 (fun h61 => ?_) (fun h62 => ?_)
        · refine B_R_in_17 ?_
          refine B_R_then_13 (fun h63 => ?_) (fun h63 => by exfalso; omega)
          refine B_R_then_28 ?_
          exfalso; omega
        · refine B_R_in_13 ?_
          refine B_R_then_13 (fun h64 => by exfalso; omega) (fun h64 => ?_)
          refine B_R_then_16 ?_
          refine E_R_in ?_
          refine B_R_in_0 (fun h65 => by exfalso; omega) (fun h65 => ?_)
          refine B_R_in_6 (fun h66 => by exfalso; omega) (fun h66 => ?_)
          refine B_R_in_13 ?_
          refine B_R_then_25 (fun h67 => ?_) (fun h67 => by exfalso; omega)
          refine B_R_then_30 (fun h68 => by exfalso; omega) (fun h68 => ?_)
          refine B_R_then_34 hR (by omega) ?_
          have hy := yall a0.toNat (by omega) (by omega); first | exact ⟨by rw [hy.1.1], hr⟩ | exact ⟨by rw [hy.2.1.1], hr⟩ | exact ⟨by rw [hy.2.2.1.1], hr⟩ | exact ⟨by rw [hy.2.2.2.2.1.1], hr⟩ | (exfalso; omega)
      · refine B_Ye_told_43 hR (by omega) ?_
        refine B_X_then_20 ?_
        refine E_R_then ?_
        refine B_R_then_0 ?_
        refine E_R_in ?_
        refine B_R_in_0 (fun h69 => by exfalso; omega) (fun h69 => ?_)
        refine B_R_in_6 (fun h70 => ?_) (fun h71 => ?_)
        · refine B_R_in_17 ?_
          refine B_R_then_13 (fun h72 => ?_) (fun h72 => by exfalso; omega)
          refine B_R_then_28 ?_
          exfalso; omega
        · refine B_R_in_13 ?_
          refine B_R_then_13 (fun h73 => by exfalso; omega) (fun h73 => ?_)
          refine B_R_then_16 ?_
          refine E_R_in ?_
          refine B_R_in_0 (fun h74 => by exfalso; omega) (fun h74 => ?_)
          refine B_R_in_6 (fun h75 => by exfalso; omega) (fun h75 => ?_)
          refine B_R_in_13 ?_
          refine B_R_then_25 (fun h76 => ?_) (fun h76 => by exfalso; omega)
          refine B_R_then_30 (fun h77 => ?_) (fun h77 => by exfalso; omega)
          refine B_R_then_43 (fun h78 => by exfalso; omega) (fun h78 => ?_)
          refine B_R_then_48 hR (by omega) ?_
          have hy := yall a0.toNat (by omega) (by omega); first | exact ⟨by rw [hy.1.1], hr⟩ | exact ⟨by rw [hy.2.1.1], hr⟩ | exact ⟨by rw [hy.2.2.1.1], hr⟩ | exact ⟨by rw [hy.2.2.2.2.1.1], hr⟩ | (exfalso; omega)
      · refine B_Ye_told_50 hR (by omega) ?_
        refine B_X_then_20 ?_
        refine E_R_then ?_
        refine B_R_then_0 ?_
        refine E_R_in ?_
        refine B_R_in_0 (fun h79 => by exfalso; omega) (fun h79 => ?_)
        refine B_R_in_6 (fun h80 => ?_) (fun h81 => ?_)
        · refine B_R_in_17 ?_
          refine B_R_then_13 (fun h82 => ?_) (fun h82 => by exfalso; omega)
          refine B_R_then_28 ?_
          exfalso; omega
        · refine B_R_in_13 ?_
          refine B_R_then_13 (fun h83 => by exfalso; omega) (fun h83 => ?_)
          refine B_R_then_16 ?_
          refine E_R_in ?_
          refine B_R_in_0 (fun h84 => by exfalso; omega) (fun h84 => ?_)
          refine B_R_in_6 (fun h85 => by exfalso; omega) (fun h85 => ?_)
          refine B_R_in_13 ?_
          refine B_R_then_25 (fun h86 => ?_) (fun h86 => by exfalso; omega)
          refine B_R_then_30 (fun h87 => ?_) (fun h87 => by exfalso; omega)
          refine B_R_then_43 (fun h88 => ?_) (fun h88 => by exfalso; omega)
          refine B_R_then_57 (fun h89 => by exfalso; omega) (fun h89 => ?_)
          refine B_R_then_62 hR (by omega) ?_
          have hy := yall a0.toNat (by omega) (by omega); first | exact ⟨by rw [hy.1.1], hr⟩ | exact ⟨by rw [hy.2.1.1], hr⟩ | exact ⟨by rw [hy.2.2.1.1], hr⟩ | exact ⟨by rw [hy.2.2.2.2.1.1], hr⟩ | (exfalso; omega)
      · refine B_Ye_told_57 hR (by omega) (fun h90 => ?_) (fun h91 => ?_)
        · refine B_Ye_told_71 ?_
          refine B_X_then_20 ?_
          refine E_R_then ?_
          refine B_R_then_0 ?_
          refine E_R_in ?_
          refine B_R_in_0 (fun h92 => by exfalso; omega) (fun h92 => ?_)
          refine B_R_in_6 (fun h93 => ?_) (fun h94 => ?_)
          · refine B_R_in_17 ?_
            refine B_R_then_13 (fun h95 => ?_) (fun h95 => by exfalso; omega)
            refine B_R_then_28 ?_
            exfalso; first | omega | (have hy := yall a0.toNat (by omega) (by omega); omega)
          · refine B_R_in_13 ?_
            refine B_R_then_13 (fun h96 => by exfalso; omega) (fun h96 => ?_)
            refine B_R_then_16 ?_
            refine E_R_in ?_
            refine B_R_in_0 (fun h97 => by exfalso; omega) (fun h97 => ?_)
            refine B_R_in_6 (fun h98 => by exfalso; omega) (fun h98 => ?_)
            refine B_R_in_13 ?_
            refine B_R_then_25 (fun h99 => ?_) (fun h99 => by exfalso; omega)
            refine B_R_then_30 (fun h100 => ?_) (fun h100 => by exfalso; omega)
            refine B_R_then_43 (fun h101 => ?_) (fun h101 => by exfalso; omega)
            refine B_R_then_57 (fun h102 => ?_) (fun h102 => by exfalso; omega)
            refine B_R_then_71 (fun h103 => by exfalso; omega) (fun h103 => ?_)
            refine B_R_then_76 hR (by omega) (fun h104 => ?_) (fun h105 => ?_)
            · refine B_R_then_90 ?_
              exact ⟨rfl, hr⟩
            · refine B_R_then_86 ?_
              exfalso; first | omega | (have hy := yall a0.toNat (by omega) (by omega); omega)
        · refine B_Ye_told_67 ?_
          refine B_X_then_20 ?_
          refine E_R_then ?_
          refine B_R_then_0 ?_
          refine E_R_in ?_
          refine B_R_in_0 (fun h106 => by exfalso; omega) (fun h106 => ?_)
          refine B_R_in_6 (fun h107 => ?_) (fun h108 => ?_)
          · refine B_R_in_17 ?_
            refine B_R_then_13 (fun h109 => ?_) (fun h109 => by exfalso; omega)
            refine B_R_then_28 ?_
            exfalso; first | omega | (have hy := yall a0.toNat (by omega) (by omega); omega)
          · refine B_R_in_13 ?_
            refine B_R_then_13 (fun h110 => by exfalso; omega) (fun h110 => ?_)
            refine B_R_then_16 ?_
            refine E_R_in ?_
            refine B_R_in_0 (fun h111 => by exfalso; omega) (fun h111 => ?_)
            refine B_R_in_6 (fun h112 => by exfalso; omega) (fun h112 => ?_)
            refine B_R_in_13 ?_
            refine B_R_then_25 (fun h113 => ?_) (fun h113 => by exfalso; omega)
            refine B_R_then_30 (fun h114 => ?_) (fun h114 => by exfalso; omega)
            refine B_R_then_43 (fun h115 => ?_) (fun h115 => by exfalso; omega)
            refine B_R_then_57 (fun h116 => ?_) (fun h116 => by exfalso; omega)
            refine B_R_then_71 (fun h117 => by exfalso; omega) (fun h117 => ?_)
            refine B_R_then_76 hR (by omega) (fun h118 => ?_) (fun h119 => ?_)
            · refine B_R_then_90 ?_
              exfalso; first | omega | (have hy := yall a0.toNat (by omega) (by omega); omega)
            · refine B_R_then_86 ?_
              exact ⟨rfl, hr⟩
      · refine B_Ye_told_73 hR (by omega) ?_
        refine B_X_then_20 ?_
        refine E_R_then ?_
        refine B_R_then_0 ?_
        refine E_R_in ?_
        refine B_R_in_0 (fun h120 => by exfalso; omega) (fun h120 => ?_)
        refine B_R_in_6 (fun h121 => ?_) (fun h122 => ?_)
        · refine B_R_in_17 ?_
          refine B_R_then_13 (fun h123 => ?_) (fun h123 => by exfalso; omega)
          refine B_R_then_28 ?_
          exfalso; omega
        · refine B_R_in_13 ?_
          refine B_R_then_13 (fun h124 => by exfalso; omega) (fun h124 => ?_)
          refine B_R_then_16 ?_
          refine E_R_in ?_
          refine B_R_in_0 (fun h125 => by exfalso; omega) (fun h125 => ?_)
          refine B_R_in_6 (fun h126 => by exfalso; omega) (fun h126 => ?_)
          refine B_R_in_13 ?_
          refine B_R_then_25 (fun h127 => ?_) (fun h127 => by exfalso; omega)
          refine B_R_then_30 (fun h128 => ?_) (fun h128 => by exfalso; omega)
          refine B_R_then_43 (fun h129 => ?_) (fun h129 => by exfalso; omega)
          refine B_R_then_57 (fun h130 => ?_) (fun h130 => by exfalso; omega)
          refine B_R_then_71 (fun h131 => ?_) (fun h131 => by exfalso; omega)
          refine B_R_then_94 hR (by omega) ?_
          have hy := yall a0.toNat (by omega) (by omega); first | exact ⟨by rw [hy.1.1], hr⟩ | exact ⟨by rw [hy.2.1.1], hr⟩ | exact ⟨by rw [hy.2.2.1.1], hr⟩ | exact ⟨by rw [hy.2.2.2.2.1.1], hr⟩ | (exfalso; omega)
