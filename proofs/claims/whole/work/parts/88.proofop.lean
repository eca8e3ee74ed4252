/-! PROOF -/
section PO
variable {X : vX} {d : Nat} {M M0 M1 : vM} {Q : Option vV → vM → Prop} {a w : Nat} {a0 a1 a2 a3 : Int} {B : Nat → Nat}
theorem sFo_T {M M1 : vM} (f : Fr sFo M M1) : Fr sTmp M M1 := f.mono (fun b j y => by unfold sTmp; omega)
theorem sh_sm {n ss : Nat} (h : ShH n ss a w M) : SmH n ss a (shc M w) := by
  have hn := ShH_n h
  have ha := h.2.2.2.1
  refine ⟨hn.1, hn.2, by omega, ?_⟩
  have h1 := h.1.2.2.2.2.2.2.2.2.2.2 a w (by rw [h.2.2.1]; omega) h.2.2.2.2
  have h2 : ∀ s : Nat, ss ≤ s → s < 4 → M (4 + (2 * a + w)) s = 0 := fun s h3 h4 => (h.1.2.2.2.2.2.2.2.2.2.1 a w s (by omega) h.2.2.2.2 h4).2.2.2 (Or.inr (by rw [h.2.1]; omega))
  have g : ∀ k, shc M w a k = M (4 + (2 * a + w)) k := fun k => by unfold shc pch; rw [if_pos ⟨by omega, h.2.2.2.2⟩]
  by_cases z : ∃ k, k < ss ∧ shc M w a k ≠ 0
  · exact z
  · exfalso
    have e : ∀ k, k < 4 → M (4 + (2 * a + w)) k = 0 := fun k hk => by
      by_cases y : k < ss
      · by_cases y2 : M (4 + (2 * a + w)) k = 0
        · exact y2
        · exact absurd ⟨k, y, by rw [g]; exact y2⟩ z
      · exact h2 k (by omega) hk
    rw [e 0 (by omega), e 1 (by omega), e 2 (by omega), e 3 (by omega)] at h1
    omega
theorem sh_fsb {n ss : Nat} (h : ShH n ss a w M) (hr : Rel M1) (f : Fr sTmp M M1) : FsB ss (n + 1) a w (shc M w) (M 2) M1 := by
  have hn := ShH_n h
  have ha := h.2.2.2.1
  have hw := h.2.2.2.2
  refine ⟨hn.2, by omega, ha, hw, by rw [hr.2.1.2.1, f 1 0 (by unfold sTmp; omega)]; exact h.2.1, by rw [hr.2.1.2.2.2.1, f 1 4 (by unfold sTmp; omega)]; exact h.2.2.1, fun b k hb hk => ?_, fun b hb => ?_⟩
  · have c := hr.2.1.2.2.2.2.2.2.2.2.2.1 b w k (by omega) hw (by omega)
    have e : shc M w b k = M1 (4 + (2 * b + w)) k := by
      unfold shc pch
      rw [if_pos ⟨by omega, hw⟩]
      exact (f _ _ (by unfold sTmp; omega)).symm
    rw [e]
    exact ⟨c.1, c.2.1, c.2.2.1⟩
  · have c := hr.2.1.2.2.2.2.2.2.1 b (by omega)
    rw [← f 2 b (by unfold sTmp; omega)]
    exact c
theorem op_proof (hr : Rel M) : cq X (d + 40) 138 [vR 0, vI a0, vI a1, vI a2, vI a3] M (fun v M1 => cq X (d + 40) 216 [vR 81, vI a0, vI a1, vI a2, vI a3] M1 (fun v2 M2 => v2 = v ∧ Rel M2)) := by
  have hn := nn_r hr.2.1
  by_cases h0 : 0 ≤ a0 ∧ a0 < M 1 4
  · by_cases h1 : 0 ≤ a1 ∧ a1 ≤ 1
    · by_cases h3 : (-1 ≤ a2 ∧ a2 < M 1 4) ∧ a2 ≠ a0
      · obtain ⟨a, rfl⟩ : ∃ k : Nat, a0 = (k : Int) := ⟨a0.toNat, by omega⟩
        obtain ⟨w, rfl⟩ : ∃ k : Nat, a1 = (k : Int) := ⟨a1.toNat, by omega⟩
        have hw2 : w < 2 := by omega
        have hw : w + 1 = 1 ∨ w + 1 = 2 ∨ w + 1 = 3 := by omega
        have start : vw X (d + 39) 138 43 [vR 0, vI (a : Int), vI (w : Int), vI a2, vI a3] [] M (fun v M1 => cq X (d + 40) 216 [vR 81, vI (a : Int), vI (w : Int), vI a2, vI a3] M1 (fun v2 M2 => v2 = v ∧ Rel M2)) → cq X (d + 40) 138 [vR 0, vI (a : Int), vI (w : Int), vI a2, vI a3] M (fun v M1 => cq X (d + 40) 216 [vR 81, vI (a : Int), vI (w : Int), vI a2, vI a3] M1 (fun v2 M2 => v2 = v ∧ Rel M2)) := fun go => by
          refine E_X_proof ?_
          refine B_X_proof_0 hr.1 ?_
          refine S_isAct ?_
          refine B_X_proof_8 (fun q9 => by rw [if_pos h0] at q9; omega) (fun _ => ?_)
          refine B_X_proof_11 ?_
          refine S_isWorld ?_
          refine B_X_proof_15 (fun q9 => by rw [if_pos h1] at q9; omega) (fun _ => ?_)
          refine B_X_proof_18 (fun z => absurd z h3.2) (fun _ => B_X_proof_23 (fun _ => go) (fun z => B_X_proof_28 hr.1 (S_isAct (B_X_proof_36 (fun _ => go) (fun q9 => by rw [if_pos (by omega)] at q9; omega)))))
        -- the reference, up to its search
        have refr : ∀ (M2 : vM) (Q' : Option vV → vM → Prop), Rel M2 → Fr sTmp M M2 → (¬ (0 ≤ a3 ∧ a3 ≤ 1) → Q' (some (vL (-9223372036854775808))) M2) → (0 ≤ a3 ∧ a3 ≤ 1 → vw X (d + 39) 216 53 [vR 81, vI (a : Int), vI (w : Int), vI a2, vI a3] [] M2 Q') → cq X (d + 40) 216 [vR 81, vI (a : Int), vI (w : Int), vI a2, vI a3] M2 Q' := fun M2 Q' z1 z2 k1 k2 => by
          have h0b : 0 ≤ (a : Int) ∧ (a : Int) < M2 1 4 := by rw [z2 1 4 (by unfold sTmp; omega)]; exact h0
          have e81 : M2 81 1 = M 1 4 := by rw [z1.2.1.2.2.2.1, z2 1 4 (by unfold sTmp; omega)]
          have h3b : -1 ≤ a2 ∧ a2 ≤ w32 (M2 81 1 - 1) := by rw [e81, w32_i (by omega)]; omega
          refine E_R_proof ?_
          refine B_R_proof_0 ?_
          refine S_R_isAct z1 ?_
          refine B_R_proof_5 (fun q9 => by rw [if_pos h0b] at q9; omega) (fun _ => ?_)
          refine B_R_proof_8 ?_
          refine S_R_isWorld ?_
          refine B_R_proof_12 (fun q9 => by rw [if_pos h1] at q9; omega) (fun _ => ?_)
          refine B_R_proof_15 ?_
          refine S_R_in ?_
          refine B_R_proof_30 (fun q9 => by rw [if_pos h3b] at q9; omega) (fun _ => ?_)
          refine B_R_proof_33 (fun z => absurd z h3.2) (fun _ => B_R_proof_38 (S_R_in ?_))
          by_cases h4 : 0 ≤ a3 ∧ a3 ≤ 1
          · rw [if_pos h4]
            exact B_R_proof_46 (fun _ => k2 h4) (fun z => by exfalso; omega)
          · rw [if_neg h4]
            exact B_R_proof_46 (fun z => absurd rfl z) (fun _ => B_R_proof_49 (k1 h4))
        refine start (B_X_proof_43 ?_)
        rw [j_1w hw2]
        refine S_X_solvesPay (d := d + 34) hr h0.2 hw (fun M1 B y1 y2 y3 y4 => B_X_proof_51 (fun z => by exfalso; omega) (fun _ => B_X_proof_54 ?_)) (fun M1 B y1 y2 y3 => B_X_proof_51 (fun _ => B_X_proof_58 y1.1 ?_) (fun z => absurd rfl z))
        · refine refr M1 _ y1 y2 (fun _ => ⟨rfl, y1⟩) (fun h4 => B_R_proof_53 ?_)
          rw [j_1w hw2]
          exact S_R_find_yes (d := d + 35) y1 y2 hr h0.2 hw y4 (fun M2 z1 z2 z3 => B_R_proof_61 (fun z => by rw [z3.1] at z; exfalso; omega) (fun _ => B_R_proof_68 ⟨rfl, z1⟩))
        · have e10 : M1 1 0 = (nn M : Int) := by rw [y2 1 0 (by unfold sTmp; omega)]; exact hn.2.2.1
          have e14 : M1 1 4 = ((mm M - 1 + 1 : Nat) : Int) := by rw [y2 1 4 (by unfold sTmp; omega), hn.2.2.2]; omega
          have hS : ShH (mm M - 1) (nn M) a w M1 := ⟨y1.2.1, e10, e14, by omega, hw2⟩
          have hA := sh_A hS
          have hb := sh_B hS
          have hm := sh_sm hS
          -- the reference behind any answer
          have ref2 : ∀ (M2 : vM) (Q' : Option vV → vM → Prop), Rel M2 → Fr sTmp M1 M2 → (¬ (0 ≤ a3 ∧ a3 ≤ 1) → Q' (some (vL (-9223372036854775808))) M2) → (0 ≤ a3 ∧ a3 ≤ 1 → ∀ M3, Rel M3 → Fr sTmp M1 M3 → vw X (d + 39) 216 72 [vR 81, vI (a : Int), vI (w : Int), vI a2, vI a3] [] M3 Q') → cq X (d + 40) 216 [vR 81, vI (a : Int), vI (w : Int), vI a2, vI a3] M2 Q' := fun M2 Q' z1 z2 k1 k2 => refr M2 Q' z1 (y2.trans z2) k1 (fun h4 => B_R_proof_53 (by
            rw [j_1w hw2]
            exact S_R_find_no (d := d + 35) z1 (y2.trans z2) hr h0.2 hw y3 (fun M3 v1 v2 v3 => B_R_proof_61 (fun _ => k2 h4 M3 v1 (z2.trans (sFL_T v2))) (fun z => absurd v3 z))))
          refine S_askShares (d := d + 35) hS y1.1 (fun M2 z1 z2 z3 => B_X_proof_71 z1 ?_)
          refine S_solves (d := d + 35) hA hb (fun j hj => ?_) z1 z2 (fun M3 B x1 x2 x3 x4 => B_X_proof_78 (fun _ => ?_) (fun z => by exfalso; omega)) (fun M3 B x1 x2 x3 => B_X_proof_78 (fun z => absurd rfl z) (fun _ => B_X_proof_81 ?_))
          · show 0 ≤ shA _ _ _ _ _ 0 j
            unfold shA
            rw [if_pos rfl, if_pos hj]
            exact (y1.2.1.2.2.2.2.2.2.1 (ib a j) (by have := ib_r hS hj; have := ShH_n hS; omega)).2.1
          · have f13 : Fr sTmp M1 M3 := sSv_T (z3.trans x4)
            have hr3 := Rel_fr f13 y1
            obtain ⟨v1, v2, v3, v4⟩ := sv_shows (by have := ShH_n hS; omega) hb x2 x3.1
            have hD := x3.1.1
            have ho := sm_yes hm hA x3
            unfold bd at v3
            by_cases hs : a2 = -1
            · refine B_X_proof_85 (fun z => absurd hs z) (fun _ => B_X_proof_90 x1 (S_So_goal x1 (B_X_proof_97 x1 (S_So_below (B_X_proof_104 ?_)))))
              have b0 := v4 0
              unfold bd at b0
              rw [v1, show M3 15 0 = lp0 _ _ B 0 from v2 0 (by omega)]
              refine S_X_part (d := d + 36) (by omega) (by omega) (B_X_proof_109 (ref2 M3 _ hr3 f13 (fun h4 => ?_) (fun h4 M4 u1 u2 => B_R_proof_72 (S_findShares_yes (d := d + 33) u1.1 (sh_fsb hS u1 u2) ho (fun M5 t1 t2 t3 => B_R_proof_78 (fun _ => B_R_proof_89 (fun z => absurd hs z) (fun _ => B_R_proof_94 t1 ?_)) (fun z => by rw [t3.1] at z; exfalso; omega))))))
              · rw [if_neg h4]; exact ⟨rfl, hr3⟩
              · have hr5 := Rel_fr (sFo_T t2) u1
                obtain ⟨g1, g2, g3, g4, g5, g6⟩ := t3
                have e0 : lpD _ B * M5 81 18 = lp0 _ _ B 0 * M5 93 4 := g6 0 (by omega)
                unfold bd at g3 g5
                refine S_R_part (d := d + 37) (by omega) (by omega) (B_R_proof_118 ⟨?_, hr5⟩)
                rw [if_pos h4, fr_1 e0 hD g2]
            · obtain ⟨b, rfl⟩ : ∃ k : Nat, a2 = (k : Int) := ⟨a2.toNat, by omega⟩
              have hba : b ≠ a := by omega
              have hbn : b < mm M - 1 + 1 := by omega
              have hpl := pl_r hS hbn hba
              refine B_X_proof_85 (fun _ => B_X_proof_112 x1 (S_placeBeside hba (by omega) (by omega) (B_X_proof_121 (S_So_unknown (n := mm M - 1) x1 (by omega) x2.1.1 hpl (B_X_proof_124 x1 (S_So_below (B_X_proof_131 ?_))))))) (fun z => absurd z hs)
              have b0 := v4 (pl a b + 1)
              unfold bd at b0
              rw [v1, v2 (pl a b + 1) (by omega)]
              refine S_X_part (d := d + 36) (by omega) (by omega) (B_X_proof_136 (ref2 M3 _ hr3 f13 (fun h4 => ?_) (fun h4 M4 u1 u2 => B_R_proof_72 (S_findShares_yes (d := d + 33) u1.1 (sh_fsb hS u1 u2) ho (fun M5 t1 t2 t3 => B_R_proof_78 (fun _ => B_R_proof_89 (fun _ => B_R_proof_101 t1 (by omega) ?_) (fun z => absurd z hs)) (fun z => by rw [t3.1] at z; exfalso; omega))))))
              · rw [if_neg h4]; exact ⟨rfl, hr3⟩
              · have hr5 := Rel_fr (sFo_T t2) u1
                obtain ⟨g1, g2, g3, g4, g5, g6⟩ := t3
                have e0 : lpD _ B * M5 93 b = (if b = a then 0 else lp0 _ _ B (pl a b + 1)) * M5 93 4 := g6 (b + 1) (by omega)
                rw [if_neg hba] at e0
                have g7 := g4 b hbn
                unfold bd at g3 g7
                rw [Int.toNat_natCast]
                refine S_R_part (d := d + 37) (by omega) (by omega) (B_R_proof_118 ⟨?_, hr5⟩)
                rw [if_pos h4, fr_1 e0 hD g2]
          · have f13 : Fr sTmp M1 M3 := sSv_T (z3.trans x3)
            have hr3 := Rel_fr f13 y1
            obtain ⟨hS2, r, r1, r2, r3, r4⟩ := x2
            exact ref2 M3 _ hr3 f13 (fun _ => ⟨rfl, hr3⟩) (fun h4 M4 u1 u2 => B_R_proof_72 (S_findShares_no (d := d + 33) u1.1 (sh_fsb hS u1 u2) (fun y t hy => lp_inf hA hS2 r1 r2 r3 r4 hy.1 (ok_L hm hy)) (fun M5 t1 t2 t3 => B_R_proof_78 (fun z => absurd t3 z) (fun _ => B_R_proof_85 ⟨rfl, Rel_fr (sFo_T t2) u1⟩))))
      · -- the second act isn't one, or is the first
        have e81 : M 81 1 = M 1 4 := hr.2.1.2.2.2.1
        have ex : w32 (M 81 1 - 1) = M 1 4 - 1 := by rw [e81, w32_i (by omega)]
        have no : vw X (d + 39) 138 39 [vR 0, vI a0, vI a1, vI a2, vI a3] [] M (fun v M1 => cq X (d + 40) 216 [vR 81, vI a0, vI a1, vI a2, vI a3] M1 (fun v2 M2 => v2 = v ∧ Rel M2)) := by
          refine B_X_proof_39 ?_
          refine E_R_proof ?_
          refine B_R_proof_0 ?_
          refine S_R_isAct hr ?_
          refine B_R_proof_5 (fun q9 => by rw [if_pos h0] at q9; omega) (fun _ => ?_)
          refine B_R_proof_8 ?_
          refine S_R_isWorld ?_
          refine B_R_proof_12 (fun q9 => by rw [if_pos h1] at q9; omega) (fun _ => ?_)
          refine B_R_proof_15 ?_
          refine S_R_in ?_
          refine B_R_proof_30 (fun _ => B_R_proof_49 ⟨rfl, hr⟩) (fun z => B_R_proof_33 (fun _ => B_R_proof_49 ⟨rfl, hr⟩) (fun z2 => ?_))
          exfalso
          refine h3 ⟨?_, z2⟩
          by_cases y : -1 ≤ a2 ∧ a2 ≤ w32 (M 81 1 - 1)
          · rw [ex] at y; omega
          · exact absurd (if_neg y) z
        refine E_X_proof ?_
        refine B_X_proof_0 hr.1 ?_
        refine S_isAct ?_
        refine B_X_proof_8 (fun q9 => by rw [if_pos h0] at q9; omega) (fun _ => ?_)
        refine B_X_proof_11 ?_
        refine S_isWorld ?_
        refine B_X_proof_15 (fun q9 => by rw [if_pos h1] at q9; omega) (fun _ => ?_)
        refine B_X_proof_18 (fun _ => no) (fun z => B_X_proof_23 (fun y => by exfalso; omega) (fun _ => B_X_proof_28 hr.1 (S_isAct (B_X_proof_36 (fun q9 => ?_) (fun _ => no)))))
        exact absurd (if_neg (by omega)) q9
    · refine E_X_proof ?_
      refine B_X_proof_0 hr.1 ?_
      refine S_isAct ?_
      refine B_X_proof_8 (fun q9 => by rw [if_pos h0] at q9; omega) (fun _ => ?_)
      refine B_X_proof_11 ?_
      refine S_isWorld ?_
      refine B_X_proof_15 (fun _ => ?_) (fun q9 => absurd (if_neg h1) q9)
      refine B_X_proof_39 ?_
      refine E_R_proof ?_
      refine B_R_proof_0 ?_
      refine S_R_isAct hr ?_
      refine B_R_proof_5 (fun q9 => by rw [if_pos h0] at q9; omega) (fun _ => ?_)
      refine B_R_proof_8 ?_
      refine S_R_isWorld ?_
      refine B_R_proof_12 (fun _ => ?_) (fun q9 => absurd (if_neg h1) q9)
      refine B_R_proof_49 ?_
      exact ⟨rfl, hr⟩
  · refine E_X_proof ?_
    refine B_X_proof_0 hr.1 ?_
    refine S_isAct ?_
    refine B_X_proof_8 (fun _ => ?_) (fun q9 => absurd (if_neg h0) q9)
    refine B_X_proof_39 ?_
    refine E_R_proof ?_
    refine B_R_proof_0 ?_
    refine S_R_isAct hr ?_
    refine B_R_proof_5 (fun _ => ?_) (fun q9 => absurd (if_neg h0) q9)
    refine B_R_proof_49 ?_
    exact ⟨rfl, hr⟩
end PO
