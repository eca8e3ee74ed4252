/-! BEST, BESTGAIN: the reference, both -/
section BG
variable {X : vX} {d : Nat} {M M0 M1 : vM} {Q : Option vV → vM → Prop} {a w : Nat} {a0 a1 a2 a3 : Int} {B : Nat → Nat} {v : Nat → Option (Int × Int)}
abbrev vBo (w : Nat) (f a : Int) (w4 w6 : vV) : List vV := [vR 81, vI (w : Int), vI f, vI a, w4, vN, w6]
theorem LP_bestOf_up (hr0 : Rel M) (fr : Fr sTmp M M1) (hr : Rel M1) (ha : (a : Int) < M 1 4) (hw : w < 2) (b4 : bd 500000 (M1 91 4)) (b14 : bd 5000000000 (M1 81 14)) {f : Int} (q : ∀ l6, vw X (d + 1) 217 81 (vBo w f (a : Int) (vL (vsum M w a * M1 91 4 - M1 81 14)) (vI l6)) [] M1 Q) : ∀ (m s : Nat), s + m = nn M → vw X (d + 1) 217 37 (vBo w f (a : Int) (vL (dot (fun s => M (4 + (2 * a + w)) s) (M 12) s * M1 91 4 - M1 81 14)) (vI (s : Int))) [] M1 Q
  | 0, s, hs => by
    have hn := nn_r hr0.2.1
    have e0 : M1 81 0 = M 1 0 := by rw [hr.2.1.2.1, fr 1 0 (by unfold sTmp; omega)]
    have e : s = nn M := by omega
    subst e
    exact B_R_bestOf_37 (fun _ => q _) (fun z => by exfalso; omega)
  | m + 1, s, hs => by
    have hn := nn_r hr0.2.1
    have h4 := hr0.2.1.2.2.1
    have e0 : M1 81 0 = M 1 0 := by rw [hr.2.1.2.1, fr 1 0 (by unfold sTmp; omega)]
    have c := hr0.2.1.2.2.2.2.2.2.2.2.2.1 a w s (by omega) hw (by omega)
    have c2 : a_rc M1 (a : Int) (w : Int) (s : Int) = M (4 + (2 * a + w)) s := by
      rw [(a_ch_r hr.2.1 (by omega) (by omega) (by omega)).1, a_ch, Int.toNat_natCast, Int.toNat_natCast, Int.toNat_natCast]
      exact fr _ _ (by unfold sTmp; omega)
    have vl := (hr0.2.1.2.2.2.2.2.2.2.1 s (by omega)).2
    have e84 : M1 84 s = M 12 s := by rw [(hr.2.1.2.2.2.2.2.2.2.1 s (by omega)).1, fr 12 s (by unfold sTmp; omega)]
    have p1 : bd (12 * 99) (M (4 + (2 * a + w)) s * M 12 s) := bd_m (by unfold bd; omega) (by unfold bd; omega)
    have p2 := bd_m p1 b4
    have p3 := bd_m (vs_b hr0 ha hw s (by omega)) b4
    refine B_R_bestOf_37 (fun z => by exfalso; omega) (fun _ => B_R_bestOf_46 (S_R_chance hr.1 (by omega) (by omega) (by omega) (B_R_bestOf_56 hr.1 (by omega) ?_)))
    rw [c2, Int.toNat_natCast, e84, w32_i (x := M (4 + (2 * a + w)) s * M 12 s) (by unfold bd at p1; omega), bd64 p2 (by decide), w64_i (by unfold bd at p2 p3 b14; omega), w32_i (by omega)]
    have e : dot (fun s => M (4 + (2 * a + w)) s) (M 12) s * M1 91 4 - M1 81 14 + M (4 + (2 * a + w)) s * M 12 s * M1 91 4 = dot (fun s => M (4 + (2 * a + w)) s) (M 12) (s + 1) * M1 91 4 - M1 81 14 := by
      show _ = (dot _ _ s + M (4 + (2 * a + w)) s * M 12 s) * _ - _
      rw [Int.add_mul]
      omega
    rw [e]
    exact LP_bestOf_up hr0 fr hr ha hw b4 b14 q m (s + 1) (by omega)
theorem LP_R_bestOf (hr0 : Rel M) (hv : BvH M w v) (hall : ∀ a : Nat, (a : Int) < M 1 4 → (∃ B, YesA M w a B) ∨ ∃ B, SvNo (nn M) (wnx (w + 1) * mm M) (lA M a (w + 1)) (lC M a (w + 1)) B) (hw : w < 2) : ∀ (m a : Nat) (f : Int) (M1 : vM) (w4 w6 : vV), (a : Int) + m = M 1 4 → -1 ≤ f → f < a → BsI v f (M1 81 22) (M1 81 23) → Rel M1 → Fr sTmp M M1 → (∀ M1, Rel M1 → Fr sTmp M M1 → BsI v (bst v m a f) (M1 81 22) (M1 81 23) → Q (some (vI (bst v m a f))) M1) → vw X (d + 5) 217 4 (vBo w f (a : Int) w4 w6) [] M1 Q
  | 0, a, f, M1, w4, w6, ha, hf, hfa, hI, hr, fr, q => by
    have e4 : M1 81 1 = M 1 4 := by rw [hr.2.1.2.2.2.1, fr 1 4 (by unfold sTmp; omega)]
    exact B_R_bestOf_4 (fun _ => B_R_bestOf_132 (q M1 hr fr hI)) (fun z => by exfalso; omega)
  | m + 1, a, f, M1, w4, w6, ha, hf, hfa, hI, hr, fr, q => by
    have e4 : M1 81 1 = M 1 4 := by rw [hr.2.1.2.2.2.1, fr 1 4 (by unfold sTmp; omega)]
    have h4 := hr0.2.1.2.2.1
    have ha4 : (a : Int) < M 1 4 := by omega
    have hw' : w + 1 = 1 ∨ w + 1 = 2 ∨ w + 1 = 3 := by omega
    have nx : Unit → w32 ((a : Int) + 1) = ((a + 1 : Nat) : Int) := fun _ => by rw [w32_i (by omega)]; omega
    have hA := lA_A (a := a) hr0 hw'
    rw [bst] at q
    refine B_R_bestOf_4 (fun z => by exfalso; omega) (fun _ => B_R_bestOf_12 ?_)
    rw [j_1w hw]
    rcases hall a ha4 with ⟨B, hB⟩ | ⟨B, hB⟩
    · obtain ⟨k, e, v1, v2, v3⟩ := bv_yes hv hA hB
      rw [v1, nxt] at q
      refine S_R_find_yes (d := d + 1) hr fr hr0 ha4 hw' hB (fun M2 y1 y2 y3 => B_R_bestOf_20 (fun z => by rw [y3.1] at z; exfalso; omega) (fun _ => B_R_bestOf_27 ?_))
      obtain ⟨g1, g2, g3, g4, g5, g6⟩ := y3
      have fr2 : Fr sTmp M M2 := fr.trans (sFL_T y2)
      have e22 : M2 81 22 = M1 81 22 := y2 81 22 (by omega)
      have e23 : M2 81 23 = M1 81 23 := y2 81 23 (by omega)
      have g0 : lpD (lA M a (w + 1)) B * M2 81 14 = lp0 (lA M a (w + 1)) (lC M a (w + 1)) B 0 * M2 91 4 := g6 0 (by omega)
      -- the same fraction
      have hk : k * M2 91 4 = (vsum M w a * M2 91 4 - M2 81 14) * e := by
        have hD := hB.1.1
        have t : lpD (lA M a (w + 1)) B * (k * M2 91 4) = lpD (lA M a (w + 1)) B * ((vsum M w a * M2 91 4 - M2 81 14) * e) := by
          have v3' : k * lpD (lA M a (w + 1)) B = (vsum M w a * lpD (lA M a (w + 1)) B - lp0 (lA M a (w + 1)) (lC M a (w + 1)) B 0) * e := v3
          generalize lpD (lA M a (w + 1)) B = x1 at *
          generalize lp0 (lA M a (w + 1)) (lC M a (w + 1)) B 0 = x2 at *
          generalize M2 91 4 = x3 at *
          generalize M2 81 14 = x4 at *
          clear v3 hI q g6
          grind
        exact Int.eq_of_mul_eq_mul_left (by omega) t
      have hc := BsI_cmp (ab := vsum M w a * M2 91 4 - M2 81 14) (be := M2 91 4) hI v2 g2 hk
      have p1 := bd_s (bd_m (vs_b hr0 ha4 hw (nn M) (Nat.le_refl _)) g3) g5
      have p2 : bd 50000000000 (vsum M w a * M2 91 4 - M2 81 14) := bd_l p1 (by decide)
      have take : (f = -1 ∨ M1 81 22 * M2 91 4 < (vsum M w a * M2 91 4 - M2 81 14) * M1 81 23) → ∀ w6, vw X (d + 5) 217 108 (vBo w f (a : Int) (vL (vsum M w a * M2 91 4 - M2 81 14)) (vI w6)) [] M2 Q := fun z w6 => by
        rw [if_pos (hc.mp z)] at q
        refine B_R_bestOf_108 y1.1 (fun hR2 => ?_)
        rw [show (vm_up M2 81 22 (vsum M w a * M2 91 4 - M2 81 14)) 91 4 = M2 91 4 by rw [vm_up2, if_neg (by omega)]] at hR2 ⊢
        rw [nx ()]
        have fN : Fr sTmp M2 (vm_up (vm_up M2 81 22 (vsum M w a * M2 91 4 - M2 81 14)) 81 23 (M2 91 4)) := (Fr.refl.up (by unfold sTmp; omega)).up (by unfold sTmp; omega)
        refine LP_R_bestOf hr0 hv hall hw m (a + 1) (a : Int) _ _ _ (by omega) (by omega) (by omega) ?_ (Rel_fr fN y1) (fr2.trans fN) q
        rw [vm_up2, if_neg (by omega), vm_up2, if_pos ⟨rfl, rfl⟩, vm_up2, if_pos ⟨rfl, rfl⟩]
        exact Or.inr ⟨by omega, p2, bd_l g3 (by decide), g2, k, e, by rw [Int.toNat_natCast]; exact v1, v2, hk⟩
      have skip : ¬ (f = -1 ∨ M1 81 22 * M2 91 4 < (vsum M w a * M2 91 4 - M2 81 14) * M1 81 23) → ∀ w6, vw X (d + 5) 217 126 (vBo w f (a : Int) (vL (vsum M w a * M2 91 4 - M2 81 14)) (vI w6)) [] M2 Q := fun z w6 => by
        rw [if_neg (fun y => z (hc.mpr y))] at q
        refine B_R_bestOf_126 ?_
        rw [nx ()]
        exact LP_R_bestOf hr0 hv hall hw m (a + 1) f M2 _ _ (by omega) hf (by omega) (by rw [e22, e23]; exact hI) y1 fr2 q
      have i0 : w64 (-(M2 81 14)) = dot (fun s => M (4 + (2 * a + w)) s) (M 12) 0 * M2 91 4 - M2 81 14 := by
        rw [w64_i (by unfold bd at g5; omega)]
        show _ = 0 * _ - _
        omega
      rw [i0]
      refine LP_bestOf_up (d := d + 4) (s := 0) hr0 fr2 y1 ha4 hw g3 g5 (fun l6 => B_R_bestOf_81 (fun z => take (Or.inl z) _) (fun z => ?_)) (nn M) (by omega)
      have hI2 := hI.resolve_left z
      have c1 := bd_m p2 hI2.2.2.1
      have c2 := bd_m hI2.2.1 g3
      refine B_R_bestOf_86 y1.1 (fun z2 => ?_) (fun z2 => ?_) <;> rw [e22, e23, bd64 c1 (by decide), bd64 c2 (by decide)] at z2
      · refine skip (fun y => ?_) _
        rcases y with y | y
        · exact z y
        · exact absurd y (Int.not_lt.mpr z2)
      · exact take (Or.inr z2) _
    · rw [bv_no hv hA hB, nxt] at q
      refine S_R_find_no (d := d + 1) hr fr hr0 ha4 hw' hB (fun M2 y1 y2 y3 => B_R_bestOf_20 (fun _ => B_R_bestOf_126 ?_) (fun z => absurd y3 z))
      rw [nx ()]
      exact LP_R_bestOf hr0 hv hall hw m (a + 1) f M2 _ _ (by omega) hf (by omega) (by rw [y2 81 22 (by omega), y2 81 23 (by omega)]; exact hI) y1 (fr.trans (sFL_T y2)) q
theorem bst_r {m : Nat} : ∀ (a : Nat) (f : Int), -1 ≤ f → f < a → -1 ≤ bst v m a f ∧ bst v m a f < a + m := by
  induction m with
  | zero => intro a f h1 h2; rw [bst]; omega
  | succ m ih =>
    intro a f h1 h2
    rw [bst]
    have h3 : -1 ≤ nxt v a f (v a) ∧ nxt v a f (v a) < ((a + 1 : Nat) : Int) := by
      cases v a with
      | none => rw [nxt]; omega
      | some p => obtain ⟨k, e⟩ := p; rw [nxt]; split <;> omega
    have := ih (a + 1) _ h3.1 h3.2
    omega
/-- the class finds the best -/
theorem S_X_best (hr : Rel M) (hw : w < 2) (hv : BvH M w v) (q : ∀ M1, Rel M1 → Fr sTmp M M1 → (∀ b : Nat, (b : Int) < M 1 4 → AllH M w b) → Q (some (vI (bst v (mm M) 0 (-1)))) M1) : cq X (d + 6) 139 [vR 0, vI (w : Int)] M Q := by
  have hn := nn_r hr.2.1
  refine E_X_best ?_
  refine B_X_best_0 ?_
  refine S_isWorld ?_
  refine B_X_best_4 (fun _ => ?_) (fun q9 => by rw [if_pos (by omega)] at q9; omega)
  refine B_X_best_9 ?_
  exact LP_X_best (a := 0) hr hv hw (mm M) (-1) 0 1 M _ _ (by omega) (by omega) (by omega) (Or.inl rfl) (fun b hb => by exfalso; omega) hr Fr.refl q
theorem S_R_bestOf (hr0 : Rel M) (hw : w < 2) (hv : BvH M w v) (hall : ∀ b : Nat, (b : Int) < M 1 4 → AllH M w b) (hr : Rel M1) (fr : Fr sTmp M M1) (q : ∀ M1, Rel M1 → Fr sTmp M M1 → BsI v (bst v (mm M) 0 (-1)) (M1 81 22) (M1 81 23) → Q (some (vI (bst v (mm M) 0 (-1)))) M1) : cq X (d + 6) 217 [vR 81, vI (w : Int)] M1 Q := by
  have hn := nn_r hr0.2.1
  refine E_R_bestOf ?_
  refine B_R_bestOf_0 ?_
  exact LP_R_bestOf (a := 0) hr0 hv hall hw (mm M) (-1) M1 _ _ (by omega) (by omega) (by omega) (Or.inl rfl) hr fr q
theorem op_best (hr : Rel M) : cq X (d + 40) 139 [vR 0, vI a0] M (fun v M1 => cq X (d + 40) 218 [vR 81, vI a0] M1 (fun v2 M2 => v2 = v ∧ Rel M2)) := by
  by_cases h0 : 0 ≤ a0 ∧ a0 ≤ 1
  · obtain ⟨w, rfl⟩ : ∃ k : Nat, a0 = (k : Int) := ⟨a0.toNat, by omega⟩
    have hw : w < 2 := by omega
    obtain ⟨v, hv⟩ := bv_all M w
    refine S_X_best (d := d + 34) hr hw hv (fun M1 y1 y2 y3 => ?_)
    refine E_R_best ?_
    refine B_R_best_0 ?_
    refine S_R_isWorld ?_
    refine B_R_best_4 (fun q9 => by rw [if_pos h0] at q9; omega) (fun _ => ?_)
    refine B_R_best_7 ?_
    exact S_R_bestOf (d := d + 33) hr hw hv y3 y1 y2 (fun M2 z1 z2 z3 => B_R_best_12 ⟨rfl, z1⟩)
  · refine E_X_best ?_
    refine B_X_best_0 ?_
    refine S_isWorld ?_
    refine B_X_best_4 (fun q9 => absurd (if_neg h0) q9) (fun _ => ?_)
    refine B_X_best_7 ?_
    refine E_R_best ?_
    refine B_R_best_0 ?_
    refine S_R_isWorld ?_
    refine B_R_best_4 (fun _ => ?_) (fun q9 => absurd (if_neg h0) q9)
    refine B_R_best_15 ?_
    exact ⟨rfl, hr⟩
theorem op_bestGain (hr : Rel M) : cq X (d + 40) 140 [vR 0, vI a0, vI a1] M (fun v M1 => cq X (d + 40) 219 [vR 81, vI a0, vI a1] M1 (fun v2 M2 => v2 = v ∧ Rel M2)) := by
  have hn := nn_r hr.2.1
  by_cases h0 : 0 ≤ a0 ∧ a0 ≤ 1
  · obtain ⟨w, rfl⟩ : ∃ k : Nat, a0 = (k : Int) := ⟨a0.toNat, by omega⟩
    have hw : w < 2 := by omega
    have hw' : w + 1 = 1 ∨ w + 1 = 2 ∨ w + 1 = 3 := by omega
    obtain ⟨v, hv⟩ := bv_all M w
    have rng := bst_r (v := v) (m := mm M) 0 (-1) (by omega) (by omega)
    -- the reference, from any such memory
    have refr : ∀ (M1 : vM) (p q : Int), Rel M1 → Fr sTmp M M1 → (∀ b : Nat, (b : Int) < M 1 4 → AllH M w b) → bst v (mm M) 0 (-1) ≠ -1 → 0 < q → (∀ k e : Int, v (bst v (mm M) 0 (-1)).toNat = some (k, e) → 0 < e → k * q = p * e) → cq X (d + 40) 219 [vR 81, vI (w : Int), vI a1] M1 (fun v2 M2 => v2 = some (vL (if 0 ≤ a1 ∧ a1 ≤ 1 then fr p (12 * q) a1 else -9223372036854775808)) ∧ Rel M2) := fun M1 p q y1 y2 y3 hne hq hpq => by
      refine E_R_bestGain ?_
      refine B_R_bestGain_0 ?_
      refine S_R_isWorld ?_
      refine B_R_bestGain_4 (fun q9 => by rw [if_pos h0] at q9; omega) (fun _ => ?_)
      refine B_R_bestGain_7 ?_
      refine S_R_in ?_
      by_cases h4 : 0 ≤ a1 ∧ a1 ≤ 1
      · rw [if_pos h4, if_pos h4]
        refine B_R_bestGain_14 (fun z => by exfalso; omega) (fun _ => B_R_bestGain_17 (S_R_bestOf (d := d + 33) hr hw hv y3 y1 y2 (fun M2 z1 z2 z3 => B_R_bestGain_22 (fun _ => B_R_bestGain_30 ?_) (fun z => absurd z hne))))
        obtain ⟨c1, c2, c3, c4, k, e, c5, c6, c7⟩ := z3.resolve_left hne
        have hk := hpq k e c5 c6
        rw [w64_i (x := 12 * M2 81 23) (by unfold bd at c3; omega)]
        unfold bd at c2 c3
        refine S_R_part (d := d + 37) (by omega) (by omega) (B_R_bestGain_46 ⟨?_, z1⟩)
        have t : M2 81 22 * q = p * M2 81 23 := by
          have : e * (M2 81 22 * q) = e * (p * M2 81 23) := by
            generalize M2 81 22 = x1 at *
            generalize M2 81 23 = x2 at *
            clear hv rng hpq
            grind
          exact Int.eq_of_mul_eq_mul_left (by omega) this
        rw [fr_eq (p := M2 81 22) (q := 12 * M2 81 23) (p' := p) (q' := 12 * q) (by grind) (by omega) (by omega)]
      · rw [if_neg h4, if_neg h4]
        exact B_R_bestGain_14 (fun _ => B_R_bestGain_26 ⟨rfl, y1⟩) (fun z => absurd rfl z)
    refine E_X_bestGain ?_
    refine B_X_bestGain_0 ?_
    refine S_X_best (d := d + 33) hr hw hv (fun M1 y1 y2 y3 => B_X_bestGain_5 (fun z => B_X_bestGain_22 ?_) (fun z => B_X_bestGain_11 ?_))
    · -- none
      refine E_R_bestGain ?_
      refine B_R_bestGain_0 ?_
      refine S_R_isWorld ?_
      refine B_R_bestGain_4 (fun q9 => by rw [if_pos h0] at q9; omega) (fun _ => ?_)
      refine B_R_bestGain_7 ?_
      refine S_R_in ?_
      exact B_R_bestGain_14 (fun _ => B_R_bestGain_26 ⟨rfl, y1⟩) (fun _ => B_R_bestGain_17 (S_R_bestOf (d := d + 33) hr hw hv y3 y1 y2 (fun M2 z1 z2 z3 => B_R_bestGain_22 (fun y => absurd z y) (fun _ => B_R_bestGain_26 ⟨rfl, z1⟩))))
    · obtain ⟨a, ea⟩ : ∃ a : Nat, bst v (mm M) 0 (-1) = (a : Int) := ⟨(bst v (mm M) 0 (-1)).toNat, by omega⟩
      have ha4 : (a : Int) < M 1 4 := by omega
      obtain ⟨en, em, e2, e5⟩ := nn_fr y2
      have eA : lA M1 a (w + 1) = lA M a (w + 1) := by unfold lA; rw [em, lcw_fr y2]
      have eC : lC M1 a (w + 1) = lC M a (w + 1) := by unfold lC; rw [em, e2, e5]
      have e14 : M1 1 4 = M 1 4 := y2 1 4 (by unfold sTmp; omega)
      rw [j_1w hw, ea]
      refine S_X_solvesPay (d := d + 34) y1 (by omega) hw' (fun M2 B z1 z2 z3 z4 => B_X_bestGain_19 (fun _ => B_X_bestGain_26 ?_) (fun z => by exfalso; omega)) (fun M2 B z1 z2 z3 => ?_)
      · rw [eA, eC, en, em] at z3 z4
        have fr2 := y2.trans z2
        have hb := kpt_b hr ha4 hw z4
        obtain ⟨k, e, v1, v2, v3⟩ := bv_yes hv (lA_A (a := a) hr hw') z4
        refine S_X_keptOfLeast (d := d + 35) hr fr2 z1 ha4 hw z3 z4 (B_X_bestGain_32 z1.1 (S_So_below (B_X_bestGain_42 ?_)))
        have hb2 := hb.2.1
        have hb1 := hb.1
        have hb3 := hb.2.2
        unfold bd at hb1 hb2
        rw [z3.1.2.2, show lpD (lA M a (w + 1)) B = (kpt M w a B).2 from rfl, w64_i (x := 12 * (kpt M w a B).2) (by omega)]
        refine S_X_part (d := d + 36) (by omega) (by omega) (B_X_bestGain_47 (refr M2 _ _ z1 fr2 y3 z hb3 (fun k' e' h1 h2 => ?_)))
        rw [ea, Int.toNat_natCast, v1] at h1
        cases h1
        exact v3
      · exfalso
        rw [eA, eC, en, em] at z3
        have hno := bv_no hv (lA_A (a := a) hr hw') z3
        -- what is taken is kept by an act that is solved for
        have key : ∀ (m a' : Nat) (f : Int), (f = -1 ∨ ∃ p, v f.toNat = some p) → (bst v m a' f = -1 ∨ ∃ p, v (bst v m a' f).toNat = some p) := fun m => by
          induction m with
          | zero => intro a' f h; rw [bst]; exact h
          | succ m ih =>
            intro a' f h
            rw [bst]
            refine ih _ _ ?_
            cases hv' : v a' with
            | none => rw [nxt]; exact h
            | some p =>
              obtain ⟨k, e⟩ := p
              rw [nxt]
              split
              · exact Or.inr ⟨(k, e), by rw [Int.toNat_natCast]; exact hv'⟩
              · exact h
        rcases key (mm M) 0 (-1) (Or.inl rfl) with y | ⟨p, y⟩
        · exact z y
        · rw [ea, Int.toNat_natCast, hno] at y
          cases y
  · refine E_X_bestGain ?_
    refine B_X_bestGain_0 ?_
    refine E_X_best ?_
    refine B_X_best_0 ?_
    refine S_isWorld ?_
    refine B_X_best_4 (fun q9 => absurd (if_neg h0) q9) (fun _ => ?_)
    refine B_X_best_7 ?_
    refine B_X_bestGain_5 (fun _ => ?_) (fun h => absurd rfl h)
    refine B_X_bestGain_22 ?_
    refine E_R_bestGain ?_
    refine B_R_bestGain_0 ?_
    refine S_R_isWorld ?_
    refine B_R_bestGain_4 (fun _ => ?_) (fun q9 => absurd (if_neg h0) q9)
    refine B_R_bestGain_26 ?_
    exact ⟨rfl, hr⟩
end BG
