/-! BEST, BESTGAIN: the reference, both -/
section BG
variable {X : vX} {d : Nat} {M M0 M1 : vM} {Q : Option vV → vM → Prop} {a w : Nat} {a0 a1 a2 a3 : Int} {B : Nat → Nat} {v : Nat → Option (Int × Int)}
abbrev vBo (w : Nat) (f a : Int) (w4 w6 : vV) : List vV := [vR 81, vI (w : Int), vI f, vI a, w4, vN, w6]
theorem LP_bestOf_up (hr0 : Rel M) (fr : Fr sTmp M M1) (hr : Rel M1) (ha : (a : Int) < M 1 4) (hw : w < 2) (b4 : bd 500000 (M1 91 4)) (b14 : bd 5000000000 (M1 81 14)) {f : Int} (q : ∀ l6, vw X (d + 1) 217 81 (vBo w f (a : Int) (vL (vsum M w a * M1 91 4 - M1 81 14)) (vI l6)) [] M1 Q) : ∀ (m s : Nat), s + m = nn M → vw X (d + 1) 217 37 (vBo w f (a : Int) (vL (dot (fun s => M (4 + (2 * a + w)) s) (M 12) s * M1 91 4 - M1 81 14)) (vI (s : Int))) [] M1 Q
  | 0, s, hs => by
    have hn := nn_r hr0.2.1
    have e0 : M1 81 0 = M 1 0 := by rw [hr.2.1.2.1, fr 1 0 (by unfold sTmp; omega)]
    have e : s = nn M := by omega
    subst e
    exact B_R_bestOf_37 (fun _ => q _) (fun z => by exfalso; omega)
  | m + 1, s, hs => by
    have hn := nn_r hr0.2.1
    have h4 := hr0.2.1.2.2.1
    have e0 : M1 81 0 = M 1 0 := by rw [hr.2.1.2.1, fr 1 0 (by unfold sTmp; omega)]
    have c := hr0.2.1.2.2.2.2.2.2.2.2.2.1 a w s (by omega) hw (by omega)
    have c2 : a_rc M1 (a : Int) (w : Int) (s : Int) = M (4 + (2 * a + w)) s := by
      rw [(a_ch_r hr.2.1 (by omega) (by omega) (by omega)).1, a_ch, Int.toNat_natCast, Int.toNat_natCast, Int.toNat_natCast]
      exact fr _ _ (by unfold sTmp; omega)
    have vl := (hr0.2.1.2.2.2.2.2.2.2.1 s (by omega)).2
    have e84 : M1 84 s = M 12 s := by rw [(hr.2.1.2.2.2.2.2.2.2.1 s (by omega)).1, fr 12 s (by unfold sTmp; omega)]
    have p1 : bd (12 * 99) (M (4 + (2 * a + w)) s * M 12 s) := bd_m (by unfold bd; omega) (by unfold bd; omega)
    have p2 := bd_m p1 b4
    have p3 := bd_m (vs_b hr0 ha hw s (by omega)) b4
    refine B_R_bestOf_37 (fun z => by exfalso; omega) (fun _ => B_R_bestOf_46 (S_R_chance hr.1 (by omega) (by omega) (by omega) (B_R_bestOf_56 hr.1 (by omega) ?_)))
    rw [c2, Int.toNat_natCast, e84, w32_i (x := M (4 + (2 * a + w)) s * M 12 s) (by unfold bd at p1; omega), bd64 p2 (by decide), w64_i (by unfold bd at p2 p3 b14; omega), w32_i (by omega)]
    have e : dot (fun s => M (4 + (2 * a + w)) s) (M 12) s * M1 91 4 - M1 81 14 + M (4 + (2 * a + w)) s * M 12 s * M1 91 4 = dot (fun s => M (4 + (2 * a + w)) s) (M 12) (s + 1) * M1 91 4 - M1 81 14 := by
      show _ = (dot _ _ s + M (4 + (2 * a + w)) s * M 12 s) * _ - _
      rw [Int.add_mul]
      omega
    rw [e]
    exact LP_bestOf_up hr0 fr hr ha hw b4 b14 q m (s + 1) (by omega)
theorem LP_R_bestOf (hr0 : Rel M) (hv : BvH M w v) (hall : ∀ a : Nat, (a : Int) < M 1 4 → (∃ B, YesA M w a B) ∨ ∃ B, SvNo (nn M) (wnx (w + 1) * mm M) (lA M a (w + 1)) (lC M a (w + 1)) B) (hw : w < 2) : ∀ (m a : Nat) (f : Int) (M1 : vM) (w4 w6 : vV), (a : Int) + m = M 1 4 → -1 ≤ f → f < a → BsI v f (M1 81 22) (M1 81 23) → Rel M1 → Fr sTmp M M1 → (∀ M1, Rel M1 → Fr sTmp M M1 → BsI v (bst v m a f) (M1 81 22) (M1 81 23) → Q (some (vI (bst v m a f))) M1) → vw X (d + 5) 217 4 (vBo w f (a : Int) w4 w6) [] M1 Q
  | 0, a, f, M1, w4, w6, ha, hf, hfa, hI, hr, fr, q => by
    have e4 : M1 81 1 = M 1 4 := by rw [hr.2.1.2.2.2.1, fr 1 4 (by unfold sTmp; omega)]
    exact B_R_bestOf_4 (fun _ => B_R_bestOf_132 (q M1 hr fr hI)) (fun z => by exfalso; omega)
  | m + 1, a, f, M1, w4, w6, ha, hf, hfa, hI, hr, fr, q => by
    have e4 : M1 81 1 = M 1 4 := by rw [hr.2.1.2.2.2.1, fr 1 4 (by unfold sTmp; omega)]
    have h4 := hr0.2.1.2.2.1
    have ha4 : (a : Int) < M 1 4 := by omega
    have hw' : w + 1 = 1 ∨ w + 1 = 2 ∨ w + 1 = 3 := by omega
    have nx : Unit → w32 ((a : Int) + 1) = ((a + 1 : Nat) : Int) := fun _ => by rw [w32_i (by omega)]; omega
    have hA := lA_A (a := a) hr0 hw'
    rw [bst] at q
    refine B_R_bestOf_4 (fun z => by exfalso; omega) (fun _ => B_R_bestOf_12 ?_)
    rw [j_1w hw]
    rcases hall a ha4 with ⟨B, hB⟩ | ⟨B, hB⟩
    · obtain ⟨k, e, v1, v2, v3⟩ := bv_yes hv hA hB
      rw [v1, nxt] at q
      refine S_R_find_yes (d := d + 1) hr fr hr0 ha4 hw' hB (fun M2 y1 y2 y3 => B_R_bestOf_20 (fun z => by rw [y3.1] at z; exfalso; omega) (fun _ => B_R_bestOf_27 ?_))
      obtain ⟨g1, g2, g3, g4, g5, g6⟩ := y3
      have fr2 : Fr sTmp M M2 := fr.trans (sFL_T y2)
      have e22 : M2 81 22 = M1 81 22 := y2 81 22 (by omega)
      have e23 : M2 81 23 = M1 81 23 := y2 81 23 (by omega)
      have g0 : lpD (lA M a (w + 1)) B * M2 81 14 = lp0 (lA M a (w + 1)) (lC M a (w + 1)) B 0 * M2 91 4 := g6 0 (by omega)
      -- the same fraction
      have hk : k * M2 91 4 = (vsum M w a * M2 91 4 - M2 81 14) * e := by
        have hD := hB.1.1
        have t : lpD (lA M a (w + 1)) B * (k * M2 91 4) = lpD (lA M a (w + 1)) B * ((vsum M w a * M2 91 4 - M2 81 14) * e) := by
          have v3' : k * lpD (lA M a (w + 1)) B = (vsum M w a * lpD (lA M a (w + 1)) B - lp0 (lA M a (w + 1)) (lC M a (w + 1)) B 0) * e := v3
          generalize lpD (lA M a (w + 1)) B = x1 at *
          generalize lp0 (lA M a (w + 1)) (lC M a (w + 1)) B 0 = x2 at *
          generalize M2 91 4 = x3 at *
          generalize M2 81 14 = x4 at *
          clear v3 hI q g6
          grind
        exact Int.eq_of_mul_eq_mul_left (by omega) t
      have hc := BsI_cmp (ab := vsum M w a * M2 91 4 - M2 81 14) (be := M2 91 4) hI v2 g2 hk
      have p1 := bd_s (bd_m (vs_b hr0 ha4 hw (nn M) (Nat.le_refl _)) g3) g5
      have p2 : bd 50000000000 (vsum M w a * M2 91 4 - M2 81 14) := bd_l p1 (by decide)
      have take : (f = -1 ∨ M1 81 22 * M2 91 4 < (vsum M w a * M2 91 4 - M2 81 14) * M1 81 23) → ∀ w6, vw X (d + 5) 217 108 (vBo w f (a : Int) (vL (vsum M w a * M2 91 4 - M2 81 14)) (vI w6)) [] M2 Q := fun z w6 => by
        rw [if_pos (hc.mp z)] at q
        refine B_R_bestOf_108 y1.1 (fun hR2 => ?_)
        rw [show (vm_up M2 81 22 (vsum M w a * M2 91 4 - M2 81 14)) 91 4 = M2 91 4 by rw [vm_up2, if_neg (by omega)]] at hR2 ⊢
        rw [nx ()]
        have fN : Fr sTmp M2 (vm_up (vm_up M2 81 22 (vsum M w a * M2 91 4 - M2 81 14)) 81 23 (M2 91 4)) := (Fr.refl.up (by unfold sTmp; omega)).up (by unfold sTmp; omega)
        refine LP_R_bestOf hr0 hv hall hw m (a + 1) (a : Int) _ _ _ (by omega) (by omega) (by omega) ?_ (Rel_fr fN y1) (fr2.trans fN) q
        rw [vm_up2, if_neg (by omega), vm_up2, if_pos ⟨rfl, rfl⟩, vm_up2, if_pos ⟨rfl, rfl⟩]
        exact Or.inr ⟨by omega, p2, bd_l g3 (by decide), g2, k, e, by rw [Int.toNat_natCast]; exact v1, v2, hk⟩
      have skip : ¬ (f = -1 ∨ M1 81 22 * M2 91 4 < (vsum M w a * M2 91 4 - M2 81 14) * M1 81 23) → ∀ w6, vw X (d + 5) 217 126 (vBo w f (a : Int) (vL (vsum M w a * M2 91 4 - M2 81 14)) (vI w6)) [] M2 Q := fun z w6 => by
        rw [if_neg (fun y => z (hc.mpr y))] at q
        refine B_R_bestOf_126 ?_
        rw [nx ()]
        exact LP_R_bestOf hr0 hv hall hw m (a + 1) f M2 _ _ (by omega) hf (by omega) (by rw [e22, e23]; exact hI) y1 fr2 q
      have i0 : w64 (-(M2 81 14)) = dot (fun s => M (4 + (2 * a + w)) s) (M 12) 0 * M2 91 4 - M2 81 14 := by
        rw [w64_i (by unfold bd at g5; omega)]
        show _ = 0 * _ - _
        omega
      rw [i0]
      refine LP_bestOf_up (d := d + 4) (s := 0) hr0 fr2 y1 ha4 hw g3 g5 (fun l6 => B_R_bestOf_81 (fun z => take (Or.inl z) _) (fun z => ?_)) (nn M) (by omega)
      have hI2 := hI.resolve_left z
      have c1 := bd_m p2 hI2.2.2.1
      have c2 := bd_m hI2.2.1 g3
      refine B_R_bestOf_86 y1.1 (fun z2 => ?_) (fun z2 => ?_) <;> rw [e22, e23, bd64 c1 (by decide), bd64 c2 (by decide)] at z2
      · refine skip (fun y => ?_) _
        rcases y with y | y
        · exact z y
        · exact absurd y (Int.not_lt.mpr z2)
      · exact take (Or.inr z2) _
    · rw [bv_no hv hA hB, nxt] at q
      refine S_R_find_no (d := d + 1) hr fr hr0 ha4 hw' hB (fun M2 y1 y2 y3 => B_R_bestOf_20 (fun _ => B_R_bestOf_126 ?_) (fun z => absurd y3 z))
      rw [nx ()]
      exact LP_R_bestOf hr0 hv hall hw m (a + 1) f M2 _ _ (by omega) hf (by omega) (by rw [y2 81 22 (by omega), y2 81 23 (by omega)]; exact hI) y1 (fr.trans (sFL_T y2)) q
end BG
