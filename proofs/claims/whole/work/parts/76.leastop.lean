/-! LEAST -/
section LE
variable {X : vX} {d : Nat} {M M0 M1 : vM} {Q : Option vV → vM → Prop} {a worlds : Nat} {a0 a1 a2 a3 : Int} {B : Nat → Nat}
theorem lA_B (hr : Rel M) (ha : (a : Int) < M 1 4) (hw : worlds = 1 ∨ worlds = 2 ∨ worlds = 3) : LpB (lA M a worlds) (lC M a worlds) := by
  obtain ⟨N, f, h80⟩ : ∃ N : vM, Fr sTmp M N ∧ ∀ k : Nat, N 80 k = (k : Int) := ⟨fun b j => if b = 80 then (j : Int) else M b j, fun b j hb => if_neg (fun z => hb (by unfold sTmp; omega)), fun k => if_pos rfl⟩
  have hr1 := Rel_fr f hr
  obtain ⟨en, em, e2, e5⟩ := nn_fr f
  have hA := py_B (a := a) (PyH_id hr1.2.1 (fun k _ => h80 k)) (by have := nn_r hr1.2.1; have := nn_r hr.2.1; omega) hw
  have eA : zA (nn N) (mm N) a worlds (fun i => i) N = lA M a worlds := by
    show pyA _ _ _ (pcw (nn N) (fun i => i) N worlds) = pyA _ _ _ (pcw (nn M) (fun i => i) M worlds)
    rw [en, em, pcw_fr f]
  have eC : zC (mm N) a worlds N = lC M a worlds := by
    show pyC _ _ _ (N 2) (N 1 5) = pyC _ _ _ (M 2) (M 1 5)
    rw [em, e2, e5]
  rw [eA, eC] at hA
  exact hA
/-- what the class shows of the least point -/
theorem sv_shows {n m : Nat} {A : Nat → Nat → Int} {C : Nat → Int} (hn : n ≤ 4) (hb : LpB A C) (hT : SvT n m A C B M1) (hS : LpS n m A B) : M1 13 3 = lpD A B ∧ (∀ i, i ≤ n → M1 (15 + i) 0 = lp0 A C B i) ∧ bd 497664 (lpD A B) ∧ ∀ i, bd 40203288576 (lp0 A C B i) := by
  refine ⟨hT.1.2.2, fun i hi => ?_, lp_bD (SvS_B hb hS), fun i => lp_b0w hb hS i⟩
  have := hT.2 i (by omega) 0 (by omega)
  rw [show ml n i = i by unfold ml; rw [if_pos hi]] at this
  exact this
theorem S_So_goal (hR : vRefs M) (q : Q (some (vL (M 15 0))) M) : cq X (d + 1) 95 [vR 13] M Q := E_So_goal (B_So_goal_0 hR q)
theorem S_So_below (q : Q (some (vL (M 13 3))) M) : cq X (d + 1) 97 [vR 13] M Q := E_So_below (B_So_below_0 q)
theorem S_So_unknown {n s : Nat} (hR : vRefs M) (hn : n ≤ 4) (h1 : M 13 1 = (n : Int)) (hs : s < n) (q : Q (some (vL (M (15 + (s + 1)) 0))) M) : cq X (d + 2) 96 [vR 13, vI (s : Int)] M Q := by
  have e1 : w32 (M 13 1 - 1) = (n : Int) - 1 := by rw [h1, w32_i (by omega)]
  have e3 : w32 ((s : Int) + 1) = ((s + 1 : Nat) : Int) := by rw [w32_i (by omega)]; omega
  refine E_So_unknown (B_So_unknown_0 (S_within (B_So_unknown_11 (fun z => by rw [e1, if_pos (by omega)] at z; omega) (fun _ => B_So_unknown_14 hR (by rw [e3]; omega) ?_))))
  rw [e3, Int.toNat_natCast]
  exact q
theorem fr_12 {D Z b u w : Int} (h : D * u = Z * b) (hD : 0 < D) (hb : 0 < b) : fr u (12 * b) w = fr Z (12 * D) w := fr_eq (by grind) (by omega) (by omega)
theorem fr_1 {D Z b u w : Int} (h : D * u = Z * b) (hD : 0 < D) (hb : 0 < b) : fr u b w = fr Z D w := fr_eq (by grind) hb hD
theorem op_least (hr : Rel M) : cq X (d + 40) 137 [vR 0, vI a0, vI a1, vI a2, vI a3] M (fun v M1 => cq X (d + 40) 210 [vR 81, vI a0, vI a1, vI a2, vI a3] M1 (fun v2 M2 => v2 = v ∧ Rel M2)) := by
  have hn := nn_r hr.2.1
  by_cases h0 : 0 ≤ a0 ∧ a0 < M 1 4
  · by_cases h1 : 1 ≤ a1 ∧ a1 ≤ 3
    · by_cases h3 : -1 ≤ a2 ∧ a2 < M 1 0
      · obtain ⟨a, rfl⟩ : ∃ k : Nat, a0 = (k : Int) := ⟨a0.toNat, by omega⟩
        obtain ⟨worlds, rfl⟩ : ∃ k : Nat, a1 = (k : Int) := ⟨a1.toNat, by omega⟩
        have hw : worlds = 1 ∨ worlds = 2 ∨ worlds = 3 := by omega
        have start : vw X (d + 39) 137 38 [vR 0, vI (a : Int), vI (worlds : Int), vI a2, vI a3] [] M (fun v M1 => cq X (d + 40) 210 [vR 81, vI (a : Int), vI (worlds : Int), vI a2, vI a3] M1 (fun v2 M2 => v2 = v ∧ Rel M2)) → cq X (d + 40) 137 [vR 0, vI (a : Int), vI (worlds : Int), vI a2, vI a3] M (fun v M1 => cq X (d + 40) 210 [vR 81, vI (a : Int), vI (worlds : Int), vI a2, vI a3] M1 (fun v2 M2 => v2 = v ∧ Rel M2)) := fun go => by
          refine E_X_least ?_
          refine B_X_least_0 hr.1 ?_
          refine S_isAct ?_
          refine B_X_least_8 (fun q9 => by rw [if_pos h0] at q9; omega) (fun _ => ?_)
          refine B_X_least_11 ?_
          refine S_isWorldSet ?_
          refine B_X_least_15 (fun q9 => by rw [if_pos h1] at q9; omega) (fun _ => ?_)
          refine B_X_least_18 (fun _ => go) (fun z => B_X_least_23 hr.1 (S_isSight (B_X_least_31 (fun _ => go) (fun q9 => by rw [if_pos (by omega)] at q9; omega))))
        refine start (B_X_least_38 (S_X_solvesPay (d := d + 34) hr h0.2 hw (fun M1 B y1 y2 y3 y4 => B_X_least_44 (fun _ => ?_) (fun z => by exfalso; omega)) (fun M1 B y1 y2 y3 => B_X_least_44 (fun z => absurd rfl z) (fun _ => B_X_least_47 ?_))))
        · have h0b : 0 ≤ (a : Int) ∧ (a : Int) < M1 1 4 := by rw [y2 1 4 (by unfold sTmp; omega)]; exact h0
          have e81 : M1 81 0 = M 1 0 := by rw [y1.2.1.2.1, y2 1 0 (by unfold sTmp; omega)]
          have h3b : -1 ≤ a2 ∧ a2 ≤ w32 (M1 81 0 - 1) := by rw [e81, w32_i (by omega)]; omega
          have hb := lA_B (a := a) hr h0.2 hw
          obtain ⟨v1, v2, v3, v4⟩ := sv_shows hn.1.2 hb y3 y4.1
          have hD := y4.1.1
          -- the reference behind any answer
          have refr : ∀ (p q : Int), (∀ M2 : vM, FdH (nn M) (lpD (lA M a worlds) B) (lp0 (lA M a worlds) (lC M a worlds) B) M2 → Rel M2 → vw X (d + 39) 210 70 [vR 81, vI (a : Int), vI (worlds : Int), vI a2, vI a3] [] M2 (fun v2 M2 => v2 = some (vL (fr p q a3)) ∧ Rel M2)) → cq X (d + 40) 210 [vR 81, vI (a : Int), vI (worlds : Int), vI a2, vI a3] M1 (fun v2 M2 => v2 = some (vL (if 0 ≤ a3 ∧ a3 ≤ 1 then fr p q a3 else -9223372036854775808)) ∧ Rel M2) := fun p q go => by
            refine E_R_least ?_
            refine B_R_least_0 ?_
            refine S_R_isAct y1 ?_
            refine B_R_least_5 (fun q9 => by rw [if_pos h0b] at q9; omega) (fun _ => ?_)
            refine B_R_least_8 ?_
            refine S_R_in ?_
            refine B_R_least_17 (fun q9 => by rw [if_pos h1] at q9; omega) (fun _ => ?_)
            refine B_R_least_20 ?_
            refine S_R_in ?_
            refine B_R_least_35 (fun q9 => by rw [if_pos h3b] at q9; omega) (fun _ => ?_)
            refine B_R_least_38 ?_
            refine S_R_in ?_
            by_cases h4 : 0 ≤ a3 ∧ a3 ≤ 1
            · rw [if_pos h4, if_pos h4]
              refine B_R_least_46 (fun _ => B_R_least_53 (S_R_find_yes (d := d + 35) y1 y2 hr h0.2 hw y4 (fun M2 z1 z2 z3 => B_R_least_59 (fun _ => go M2 z3 z1) (fun z => by rw [z3.1] at z; exfalso; omega)))) (fun z => by exfalso; omega)
            · rw [if_neg h4, if_neg h4]
              exact B_R_least_46 (fun z => absurd rfl z) (fun _ => B_R_least_49 ⟨rfl, y1⟩)
          by_cases hs : a2 = -1
          · refine B_X_least_51 (fun z => absurd hs z) (fun _ => B_X_least_56 y1.1 (S_So_goal y1.1 (B_X_least_63 y1.1 (S_So_below (B_X_least_73 ?_)))))
            rw [v1, show M1 15 0 = lp0 (lA M a worlds) (lC M a worlds) B 0 from v2 0 (by omega), w64_i (x := 12 * lpD (lA M a worlds) B) (by unfold bd at v3; omega)]
            have b0 := v4 0
            unfold bd at v3 b0
            refine S_X_part (d := d + 36) (by omega) (by omega) (B_X_least_79 (refr _ _ (fun M2 z3 z1 => B_R_least_70 (fun z => absurd hs z) (fun _ => B_R_least_75 z1.1 ?_))))
            obtain ⟨g1, g2, g3, g4, g5, g6⟩ := z3
            have e0 : lpD (lA M a worlds) B * M2 81 14 = lp0 (lA M a worlds) (lC M a worlds) B 0 * M2 91 4 := g6 0 (by omega)
            rw [bd64 (b := 12 * 100000000) (by unfold bd at g3 ⊢; omega) (by decide)]
            unfold bd at g3 g5
            refine S_R_part (d := d + 37) (by omega) (by omega) (B_R_least_94 ⟨?_, z1⟩)
            rw [fr_12 e0 hD g2]
          · obtain ⟨s, rfl⟩ : ∃ k : Nat, a2 = (k : Int) := ⟨a2.toNat, by omega⟩
            refine B_X_least_51 (fun _ => B_X_least_82 y1.1 (S_So_unknown (n := nn M) y1.1 hn.1.2 y3.1.1 (by omega) (B_X_least_90 y1.1 (S_So_below (B_X_least_97 ?_))))) (fun z => absurd z hs)
            rw [v1, v2 (s + 1) (by omega)]
            have b0 := v4 (s + 1)
            unfold bd at v3 b0
            refine S_X_part (d := d + 36) (by omega) (by omega) (B_X_least_102 (refr _ _ (fun M2 z3 z1 => B_R_least_70 (fun _ => B_R_least_97 z1.1 (by omega) ?_) (fun z => absurd z hs))))
            obtain ⟨g1, g2, g3, g4, g5, g6⟩ := z3
            have e0 : lpD (lA M a worlds) B * M2 91 s = lp0 (lA M a worlds) (lC M a worlds) B (s + 1) * M2 91 4 := g6 (s + 1) (by omega)
            have g7 := g4 s (by omega)
            unfold bd at g3 g7
            rw [Int.toNat_natCast]
            refine S_R_part (d := d + 37) (by omega) (by omega) (B_R_least_114 ⟨?_, z1⟩)
            rw [fr_1 e0 hD g2]
        · have h0b : 0 ≤ (a : Int) ∧ (a : Int) < M1 1 4 := by rw [y2 1 4 (by unfold sTmp; omega)]; exact h0
          have e81 : M1 81 0 = M 1 0 := by rw [y1.2.1.2.1, y2 1 0 (by unfold sTmp; omega)]
          have h3b : -1 ≤ a2 ∧ a2 ≤ w32 (M1 81 0 - 1) := by rw [e81, w32_i (by omega)]; omega
          refine E_R_least ?_
          refine B_R_least_0 ?_
          refine S_R_isAct y1 ?_
          refine B_R_least_5 (fun q9 => by rw [if_pos h0b] at q9; omega) (fun _ => ?_)
          refine B_R_least_8 ?_
          refine S_R_in ?_
          refine B_R_least_17 (fun q9 => by rw [if_pos h1] at q9; omega) (fun _ => ?_)
          refine B_R_least_20 ?_
          refine S_R_in ?_
          refine B_R_least_35 (fun q9 => by rw [if_pos h3b] at q9; omega) (fun _ => ?_)
          refine B_R_least_38 ?_
          refine S_R_in ?_
          refine B_R_least_46 (fun _ => B_R_least_53 (S_R_find_no (d := d + 35) y1 y2 hr h0.2 hw y3 (fun M2 z1 z2 z3 => B_R_least_59 (fun z => absurd z3 z) (fun _ => B_R_least_66 ⟨rfl, z1⟩)))) (fun _ => B_R_least_49 ⟨rfl, y1⟩)
      · have e81 : M 81 0 = M 1 0 := hr.2.1.2.1
        have h3b : ¬ (-1 ≤ a2 ∧ a2 ≤ w32 (M 81 0 - 1)) := by rw [e81, w32_i (by omega)]; omega
        refine E_X_least ?_
        refine B_X_least_0 hr.1 ?_
        refine S_isAct ?_
        refine B_X_least_8 (fun q9 => by rw [if_pos h0] at q9; omega) (fun _ => ?_)
        refine B_X_least_11 ?_
        refine S_isWorldSet ?_
        refine B_X_least_15 (fun q9 => by rw [if_pos h1] at q9; omega) (fun _ => ?_)
        refine B_X_least_18 (fun z => by exfalso; omega) (fun _ => B_X_least_23 hr.1 (S_isSight (B_X_least_31 (fun q9 => absurd (if_neg (by omega)) q9) (fun _ => B_X_least_34 ?_))))
        refine E_R_least ?_
        refine B_R_least_0 ?_
        refine S_R_isAct hr ?_
        refine B_R_least_5 (fun q9 => by rw [if_pos h0] at q9; omega) (fun _ => ?_)
        refine B_R_least_8 ?_
        refine S_R_in ?_
        refine B_R_least_17 (fun q9 => by rw [if_pos h1] at q9; omega) (fun _ => ?_)
        refine B_R_least_20 ?_
        refine S_R_in ?_
        refine B_R_least_35 (fun _ => ?_) (fun q9 => absurd (if_neg h3b) q9)
        refine B_R_least_49 ?_
        exact ⟨rfl, hr⟩
    · refine E_X_least ?_
      refine B_X_least_0 hr.1 ?_
      refine S_isAct ?_
      refine B_X_least_8 (fun q9 => by rw [if_pos h0] at q9; omega) (fun _ => ?_)
      refine B_X_least_11 ?_
      refine S_isWorldSet ?_
      refine B_X_least_15 (fun _ => ?_) (fun q9 => absurd (if_neg h1) q9)
      refine B_X_least_34 ?_
      refine E_R_least ?_
      refine B_R_least_0 ?_
      refine S_R_isAct hr ?_
      refine B_R_least_5 (fun q9 => by rw [if_pos h0] at q9; omega) (fun _ => ?_)
      refine B_R_least_8 ?_
      refine S_R_in ?_
      refine B_R_least_17 (fun _ => ?_) (fun q9 => absurd (if_neg h1) q9)
      refine B_R_least_49 ?_
      exact ⟨rfl, hr⟩
  · refine E_X_least ?_
    refine B_X_least_0 hr.1 ?_
    refine S_isAct ?_
    refine B_X_least_8 (fun _ => ?_) (fun q9 => absurd (if_neg h0) q9)
    refine B_X_least_34 ?_
    refine E_R_least ?_
    refine B_R_least_0 ?_
    refine S_R_isAct hr ?_
    refine B_R_least_5 (fun _ => ?_) (fun q9 => absurd (if_neg h0) q9)
    refine B_R_least_49 ?_
    exact ⟨rfl, hr⟩
end LE
