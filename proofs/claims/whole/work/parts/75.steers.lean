/-! STEERS, LEAST -/
def nn (M : vM) : Nat := (M 1 0).toNat
def mm (M : vM) : Nat := (M 1 4).toNat
def lcw (M : vM) (worlds : Nat) : Nat → Nat → Nat → Int := pcw (nn M) (fun i => i) M worlds
abbrev lA (M : vM) (a worlds : Nat) : Nat → Nat → Int := gA (mm M) a (wnx worlds) (lcw M worlds)
abbrev lC (M : vM) (a worlds : Nat) : Nat → Int := gC (mm M) a (wnx worlds) (M 2) (M 1 5)
section ST
variable {X : vX} {d : Nat} {M M0 M1 : vM} {Q : Option vV → vM → Prop} {a worlds : Nat} {a0 a1 a2 a3 : Int} {B : Nat → Nat}
theorem pcw_fr {n worlds : Nat} {to : Nat → Nat} (f : Fr sTmp M M1) : pcw n to M1 worlds = pcw n to M worlds := by
  funext p b s
  unfold pcw
  refine js_c n (fun i _ => ?_)
  unfold pch
  by_cases e : b < 4 ∧ wpx worlds p < 2
  · rw [if_pos e, if_pos e]; exact f _ _ (by unfold sTmp; omega)
  · rw [if_neg e, if_neg e]
theorem nn_fr (f : Fr sTmp M M1) : nn M1 = nn M ∧ mm M1 = mm M ∧ M1 2 = M 2 ∧ M1 1 5 = M 1 5 := by
  refine ⟨?_, ?_, funext (fun i => f 2 i (by unfold sTmp; omega)), f 1 5 (by unfold sTmp; omega)⟩
  · unfold nn; rw [f 1 0 (by unfold sTmp; omega)]
  · unfold mm; rw [f 1 4 (by unfold sTmp; omega)]
theorem lcw_fr (f : Fr sTmp M M1) : lcw M1 worlds = lcw M worlds := by
  unfold lcw
  rw [(nn_fr f).1, pcw_fr f]
theorem nn_r (h : RA M) : (2 ≤ nn M ∧ nn M ≤ 4) ∧ mm M ≤ 4 ∧ M 1 0 = (nn M : Int) ∧ M 1 4 = (mm M : Int) := by
  have h1 := h.1
  have h2 := h.2.2.1
  unfold nn mm
  omega
theorem PyH_id (h : RA M) (h80 : ∀ k, k < 4 → M 80 k = (k : Int)) : PyH (nn M) (mm M) (fun i => i) M := by
  have hn := nn_r h
  exact ⟨h, hn.2.2.1, hn.2.2.2, fun k hk => ⟨h80 k (by omega), hk⟩⟩
theorem lAgH (h : RA M) (ha : (a : Int) < M 1 4) (hw : worlds = 1 ∨ worlds = 2 ∨ worlds = 3) : AgH (nn M) (mm M) a (wnx worlds) (lcw M worlds) := by
  have hn := nn_r h
  refine ⟨hn.1, hn.2.1, by omega, by unfold wnx; split <;> omega, fun p b s hs => js_z _ (fun i hi => by omega)⟩
/-- what the reference reads, with the worlds that there are -/
theorem RbH_id (h : RA M) (ha : (a : Int) < M 1 4) (hw : worlds = 1 ∨ worlds = 2 ∨ worlds = 3) : RbH (nn M) (mm M) a worlds (lcw M worlds) (M 2) (M 1 5) M := by
  have hn := nn_r h
  refine ⟨hn.1, hn.2.1, by omega, by omega, by rw [h.2.1]; exact hn.2.2.1, by rw [h.2.2.2.1]; exact hn.2.2.2, fun b hb => h.2.2.2.2.2.2.1 b (by omega), ⟨h.2.2.2.2.2.1, h.2.2.2.2.1⟩, fun p b s hp hb hs => ?_⟩
  have hwp := wpx_r hw hp
  have c := h.2.2.2.2.2.2.2.2.2.1 b (wpx worlds p) s (by omega) hwp (by omega)
  have e : lcw M worlds p b s = M (4 + (2 * b + wpx worlds p)) s := by
    unfold lcw pcw
    rw [js_id, if_pos hs]
    unfold pch
    rw [if_pos (by omega)]
  rw [e]
  unfold wq
  rw [if_neg (by omega)]
  exact ⟨c.1, c.2.1, c.2.2.1⟩
theorem LP_solves80 : ∀ (m k : Nat) (M : vM), k + m = 4 → vRefs M → Fr (fun b _ => b = 80) M0 M → (∀ j, j < k → M 80 j = (j : Int)) → (∀ M1, vRefs M1 → Fr (fun b _ => b = 80) M0 M1 → (∀ j, j < 4 → M1 80 j = (j : Int)) → ∀ l3, vw X d 175 20 [vR 0, vI (a : Int), vI (worlds : Int), vI l3] [] M1 Q) → vw X d 175 2 [vR 0, vI (a : Int), vI (worlds : Int), vI (k : Int)] [] M Q
  | 0, k, M, hk, hR, f, h, q => B_X_solvesPay_2 (fun _ => q M hR f (fun j hj => h j (by omega)) _) (fun z => by exfalso; omega)
  | m + 1, k, M, hk, hR, f, h, q => by
    refine B_X_solvesPay_2 (fun z => by exfalso; omega) (fun _ => B_X_solvesPay_7 hR (by omega) (fun hR2 => ?_))
    rw [Int.toNat_natCast] at hR2 ⊢
    rw [w32_i (by omega)]
    refine LP_solves80 m (k + 1) _ (by omega) hR2 (f.up rfl) (fun j hj => ?_) q
    rw [vm_up2]
    by_cases e : j = k
    · rw [if_pos ⟨rfl, e⟩, e]
    · rw [if_neg (by omega)]; exact h j (by omega)
theorem sSv_T {M M1 : vM} (f : Fr sSv M M1) : Fr sTmp M M1 := f.mono (fun b j y => by unfold sTmp; omega)
theorem S_X_solvesPay (hr : Rel M) (ha : (a : Int) < M 1 4) (hw : worlds = 1 ∨ worlds = 2 ∨ worlds = 3) (q1 : ∀ M1 B, Rel M1 → Fr sTmp M M1 → SvT (nn M) (wnx worlds * mm M) (lA M a worlds) (lC M a worlds) B M1 → SvYes (nn M) (wnx worlds * mm M) (lA M a worlds) (lC M a worlds) B → Q (some (vI 1)) M1) (q2 : ∀ M1 B, Rel M1 → Fr sTmp M M1 → SvNo (nn M) (wnx worlds * mm M) (lA M a worlds) (lC M a worlds) B → Q (some (vI 0)) M1) : cq X (d + 5) 175 [vR 0, vI (a : Int), vI (worlds : Int)] M Q := by
  refine E_X_solvesPay (B_X_solvesPay_0 (LP_solves80 (k := 0) 4 M (by omega) hr.1 Fr.refl (fun j hj => by exfalso; omega) (fun M1 y1 y2 y3 l3 => B_X_solvesPay_20 y1 ?_)))
  have f1 : Fr sTmp M M1 := y2.mono (fun b j y => by unfold sTmp; omega)
  have hr1 := Rel_fr f1 hr
  obtain ⟨en, em, e2, e5⟩ := nn_fr f1
  have hP := PyH_id hr1.2.1 y3
  have eA : zA (nn M1) (mm M1) a worlds (fun i => i) M1 = lA M a worlds := by
    show pyA _ _ _ (pcw (nn M1) (fun i => i) M1 worlds) = pyA _ _ _ (pcw (nn M) (fun i => i) M worlds)
    rw [en, em, pcw_fr f1]
  have eC : zC (mm M1) a worlds M1 = lC M a worlds := by
    show pyC _ _ _ (M1 2) (M1 1 5) = pyC _ _ _ (M 2) (M 1 5)
    rw [em, e2, e5]
  have hA := py_A (a := a) hP hw
  have hb := py_B (a := a) hP (by have := nn_r hr1.2.1; have := nn_r hr.2.1; omega) hw
  rw [eA, eC, en, em] at hA
  rw [eA, eC] at hb
  have hg : ∀ j, j < nn M → 0 ≤ lA M a worlds 0 j := fun j hj => by
    have := pcw_r (worlds := worlds) (p := 0) (b := a) (s := j) hP (by have := nn_r hr1.2.1; have := nn_r hr.2.1; omega) (wpx_r hw (by unfold wnx; split <;> omega))
    rw [en, pcw_fr f1] at this
    exact this.1
  refine S_askPay (worlds := worlds) hP (by have := nn_r hr1.2.1; have := nn_r hr.2.1; omega) hw y1 (fun M2 z1 z2 z3 => B_X_solvesPay_37 z1 ?_)
  rw [eA, eC, en, em] at z2
  refine S_solves hA hb hg z1 z2 (fun M3 B x1 x2 x3 x4 => B_X_solvesPay_44 (Or.inr rfl) (q1 M3 B (Rel_fr (sSv_T (z3.trans x4)) hr1) (f1.trans (sSv_T (z3.trans x4))) x2 x3)) (fun M3 B x1 x2 x3 => B_X_solvesPay_44 (Or.inl rfl) (q2 M3 B (Rel_fr (sSv_T (z3.trans x3)) hr1) (f1.trans (sSv_T (z3.trans x3))) x2))
theorem sFL_T {M M1 : vM} (f : Fr sFL M M1) : Fr sTmp M M1 := f.mono (fun b j y => by unfold sTmp; omega)
theorem lA_A (hr : Rel M) (hw : worlds = 1 ∨ worlds = 2 ∨ worlds = 3) : LpA (nn M) (wnx worlds * mm M) (lA M a worlds) (lC M a worlds) := by
  obtain ⟨N, f, h80⟩ : ∃ N : vM, Fr sTmp M N ∧ ∀ k : Nat, N 80 k = (k : Int) := ⟨fun b j => if b = 80 then (j : Int) else M b j, fun b j hb => if_neg (fun z => hb (by unfold sTmp; omega)), fun k => if_pos rfl⟩
  have hr1 := Rel_fr f hr
  have hA := py_A (a := a) (PyH_id hr1.2.1 (fun k _ => h80 k)) hw
  obtain ⟨en, em, e2, e5⟩ := nn_fr f
  have eA : zA (nn N) (mm N) a worlds (fun i => i) N = lA M a worlds := by
    show pyA _ _ _ (pcw (nn N) (fun i => i) N worlds) = pyA _ _ _ (pcw (nn M) (fun i => i) M worlds)
    rw [en, em, pcw_fr f]
  have eC : zC (mm N) a worlds N = lC M a worlds := by
    show pyC _ _ _ (N 2) (N 1 5) = pyC _ _ _ (M 2) (M 1 5)
    rw [em, e2, e5]
  rw [eA, eC, en, em] at hA
  exact hA
theorem S_R_find_yes (hr : Rel M1) (f : Fr sTmp M M1) (hr0 : Rel M) (ha : (a : Int) < M 1 4) (hw : worlds = 1 ∨ worlds = 2 ∨ worlds = 3) (hs : SvYes (nn M) (wnx worlds * mm M) (lA M a worlds) (lC M a worlds) B) (q : ∀ M2, Rel M2 → Fr sFL M1 M2 → FdH (nn M) (lpD (lA M a worlds) B) (lp0 (lA M a worlds) (lC M a worlds) B) M2 → Q none M2) : cq X (d + 4) 206 [vR 81, vI (a : Int), vI (worlds : Int)] M1 Q := by
  obtain ⟨en, em, e2, e5⟩ := nn_fr f
  have ha1 : (a : Int) < M1 1 4 := by rw [f 1 4 (by unfold sTmp; omega)]; exact ha
  have hb := RbH_id hr.2.1 ha1 hw
  rw [lcw_fr f, en, em, e2, e5] at hb
  exact S_findLeast_yes hr.1 hb (agree_yes (lAgH hr0.2.1 ha hw) (lA_A hr0 hw) hs) (fun M2 y1 y2 y3 => q M2 (Rel_fr (sFL_T y2) hr) y2 y3)
theorem S_R_find_no (hr : Rel M1) (f : Fr sTmp M M1) (hr0 : Rel M) (ha : (a : Int) < M 1 4) (hw : worlds = 1 ∨ worlds = 2 ∨ worlds = 3) (hs : SvNo (nn M) (wnx worlds * mm M) (lA M a worlds) (lC M a worlds) B) (q : ∀ M2, Rel M2 → Fr sFL M1 M2 → M2 81 15 = 0 → Q none M2) : cq X (d + 4) 206 [vR 81, vI (a : Int), vI (worlds : Int)] M1 Q := by
  obtain ⟨en, em, e2, e5⟩ := nn_fr f
  have ha1 : (a : Int) < M1 1 4 := by rw [f 1 4 (by unfold sTmp; omega)]; exact ha
  have hb := RbH_id hr.2.1 ha1 hw
  rw [lcw_fr f, en, em, e2, e5] at hb
  exact S_findLeast_no hr.1 hb (fun x t ht hf hx => agree_no (lAgH hr0.2.1 ha hw) (lA_A hr0 hw) hs ht hf hx) (fun M2 y1 y2 y3 => q M2 (Rel_fr (sFL_T y2) hr) y2 y3)
theorem S_isWorldSet {l0 : Int} (k : Q (some (vI (if 1 ≤ l0 ∧ l0 ≤ 3 then 1 else 0))) M) : cq X (d + 2) 181 [vI l0] M Q := E_X_isWorldSet (B_X_isWorldSet_0 (S_within (B_X_isWorldSet_6 if01 k)))
theorem op_steers (hr : Rel M) : cq X (d + 40) 136 [vR 0, vI a0, vI a1] M (fun v M1 => cq X (d + 40) 209 [vR 81, vI a0, vI a1] M1 (fun v2 M2 => v2 = v ∧ Rel M2)) := by
  by_cases h0 : 0 ≤ a0 ∧ a0 < M 1 4
  · by_cases h1 : 1 ≤ a1 ∧ a1 ≤ 3
    · obtain ⟨a, rfl⟩ : ∃ k : Nat, a0 = (k : Int) := ⟨a0.toNat, by omega⟩
      obtain ⟨worlds, rfl⟩ : ∃ k : Nat, a1 = (k : Int) := ⟨a1.toNat, by omega⟩
      have hw : worlds = 1 ∨ worlds = 2 ∨ worlds = 3 := by omega
      refine E_X_steers ?_
      refine B_X_steers_0 hr.1 ?_
      refine S_isAct ?_
      refine B_X_steers_8 (fun _ => ?_) (fun q9 => by rw [if_pos h0] at q9; omega)
      refine B_X_steers_13 ?_
      refine S_isWorldSet ?_
      refine B_X_steers_17 (fun _ => ?_) (fun q9 => by rw [if_pos h1] at q9; omega)
      refine B_X_steers_23 ?_
      refine S_X_solvesPay (d := d + 34) hr h0.2 hw (fun M1 B y1 y2 y3 y4 => B_X_steers_29 (fun z => by exfalso; omega) (fun _ => B_X_steers_32 ?_)) (fun M1 B y1 y2 y3 => B_X_steers_29 (fun _ => B_X_steers_36 ?_) (fun z => absurd rfl z))
      · have h0b : 0 ≤ (a : Int) ∧ (a : Int) < M1 1 4 := by rw [y2 1 4 (by unfold sTmp; omega)]; exact h0
        refine E_R_steers ?_
        refine B_R_steers_0 ?_
        refine S_R_isAct y1 ?_
        refine B_R_steers_5 (fun _ => ?_) (fun q9 => by rw [if_pos h0b] at q9; omega)
        refine B_R_steers_10 ?_
        refine S_R_in ?_
        refine B_R_steers_19 (fun _ => ?_) (fun q9 => by rw [if_pos h1] at q9; omega)
        refine B_R_steers_25 ?_
        exact S_R_find_yes (d := d + 35) y1 y2 hr h0.2 hw y4 (fun M2 z1 z2 z3 => B_R_steers_31 (fun z => by rw [z3.1] at z; exfalso; omega) (fun _ => B_R_steers_38 ⟨rfl, z1⟩))
      · have h0b : 0 ≤ (a : Int) ∧ (a : Int) < M1 1 4 := by rw [y2 1 4 (by unfold sTmp; omega)]; exact h0
        refine E_R_steers ?_
        refine B_R_steers_0 ?_
        refine S_R_isAct y1 ?_
        refine B_R_steers_5 (fun _ => ?_) (fun q9 => by rw [if_pos h0b] at q9; omega)
        refine B_R_steers_10 ?_
        refine S_R_in ?_
        refine B_R_steers_19 (fun _ => ?_) (fun q9 => by rw [if_pos h1] at q9; omega)
        refine B_R_steers_25 ?_
        exact S_R_find_no (d := d + 35) y1 y2 hr h0.2 hw y3 (fun M2 z1 z2 z3 => B_R_steers_31 (fun _ => B_R_steers_42 ⟨rfl, z1⟩) (fun z => absurd z3 z))
    · refine E_X_steers ?_
      refine B_X_steers_0 hr.1 ?_
      refine S_isAct ?_
      refine B_X_steers_8 (fun _ => ?_) (fun q9 => by rw [if_pos h0] at q9; omega)
      refine B_X_steers_13 ?_
      refine S_isWorldSet ?_
      refine B_X_steers_17 (fun q9 => absurd (if_neg h1) q9) (fun _ => ?_)
      refine B_X_steers_20 ?_
      refine E_R_steers ?_
      refine B_R_steers_0 ?_
      refine S_R_isAct hr ?_
      refine B_R_steers_5 (fun _ => ?_) (fun q9 => by rw [if_pos h0] at q9; omega)
      refine B_R_steers_10 ?_
      refine S_R_in ?_
      refine B_R_steers_19 (fun q9 => absurd (if_neg h1) q9) (fun _ => ?_)
      refine B_R_steers_22 ?_
      exact ⟨rfl, hr⟩
  · refine E_X_steers ?_
    refine B_X_steers_0 hr.1 ?_
    refine S_isAct ?_
    refine B_X_steers_8 (fun q9 => absurd (if_neg h0) q9) (fun _ => ?_)
    refine B_X_steers_11 ?_
    refine E_R_steers ?_
    refine B_R_steers_0 ?_
    refine S_R_isAct hr ?_
    refine B_R_steers_5 (fun q9 => absurd (if_neg h0) q9) (fun _ => ?_)
    refine B_R_steers_8 ?_
    exact ⟨rfl, hr⟩
end ST
