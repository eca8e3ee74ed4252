/-! THE LEAST PAY IS SOLVED FOR -/
def wpx (worlds p : Nat) : Nat := if worlds = 2 then 1 else p
def wnx (worlds : Nat) : Nat := if worlds = 3 then 2 else 1
def pcw (n : Nat) (to : Nat → Nat) (M : vM) (worlds p b s : Nat) : Int := js to (pch M b (wpx worlds p)) n s
section PZ
variable {X : vX} {d : Nat} {M M0 : vM} {Q : Option vV → vM → Prop} {n acts a w worlds : Nat} {to : Nat → Nat}
abbrev zA (n acts a worlds : Nat) (to : Nat → Nat) (M : vM) : Nat → Nat → Int := pyA acts a (wnx worlds * acts) (pcw n to M worlds)
abbrev zC (acts a worlds : Nat) (M : vM) : Nat → Int := pyC acts a (wnx worlds * acts) (M 2) (M 1 5)
abbrev zT (n acts a worlds : Nat) (to : Nat → Nat) (M : vM) : Nat → Nat → Int := pyT n acts a (wnx worlds * acts) (pcw n to M worlds) (M 2) (M 1 5)
theorem wnx_r (hw : worlds = 1 ∨ worlds = 2 ∨ worlds = 3) (ha : acts ≤ 4) : 1 ≤ wnx worlds ∧ wnx worlds ≤ 2 ∧ wnx worlds * acts ≤ 8 := by
  unfold wnx
  split <;> omega
theorem wpx_r {p : Nat} (hw : worlds = 1 ∨ worlds = 2 ∨ worlds = 3) (hp : p < wnx worlds) : wpx worlds p < 2 := by
  unfold wnx at hp
  unfold wpx
  split at hp <;> split <;> omega
theorem pcw_z (h : PyH n acts to M) {p b s : Nat} (hs : n ≤ s) : pcw n to M worlds p b s = 0 := js_z n (fun i hi => by have := (h.2.2.2 i hi).2; omega)
theorem ch_z (h : PyH n acts to M) {b w : Nat} (hb : b < acts) (hw : w < 2) : js (fun _ => 0) (pch M b w) n 0 = 12 := by
  have hn := PyH_n h
  have h1 := h.1.2.2.2.2.2.2.2.2.2.2 b w (by rw [h.2.2.1]; omega) hw
  have h2 : ∀ s : Nat, n ≤ s → s < 4 → M (4 + (2 * b + w)) s = 0 := fun s h3 h4 => (h.1.2.2.2.2.2.2.2.2.2.1 b w s (by omega) hw h4).2.2.2 (Or.inr (by rw [h.2.1]; omega))
  have : n = 2 ∨ n = 3 ∨ n = 4 := by omega
  have hbw : b < 4 ∧ w < 2 := by omega
  unfold pch
  simp only [if_pos hbw]
  rcases this with e | e | e <;> subst e <;> simp [js]
  · have := h2 2 (by omega) (by omega); have := h2 3 (by omega) (by omega); omega
  · have := h2 3 (by omega) (by omega); omega
  · omega
theorem pcw_r (h : PyH n acts to M) {p b s : Nat} (hb : b < acts) (hp : wpx worlds p < 2) : 0 ≤ pcw n to M worlds p b s ∧ pcw n to M worlds p b s ≤ 12 := by
  have hn := PyH_n h
  have := js_p (to := to) (v := pch M b (wpx worlds p)) (s := s) n (fun i hi => (pch_r h (by omega) hp (by omega)).1)
  rw [ch_z h hb hp] at this
  exact this
theorem wr_d {m i : Nat} (hi : 5 ≤ i ∧ i < 5 + m * acts) : (i - 5) / acts < m ∧ (i - 5) % acts < acts ∧ 0 < acts := by
  have h0 : 0 < acts := by
    rcases Nat.eq_zero_or_pos acts with e | e
    · rw [e, Nat.mul_zero] at hi; omega
    · exact e
  exact ⟨(Nat.div_lt_iff_lt_mul h0).mpr (by omega), Nat.mod_lt _ h0, h0⟩
theorem py_A (h : PyH n acts to M) (hw : worlds = 1 ∨ worlds = 2 ∨ worlds = 3) : LpA n (wnx worlds * acts) (zA n acts a worlds to M) (zC acts a worlds M) := by
  have hn := PyH_n h
  have hr := wnx_r hw hn.2
  refine ⟨hn.1.2, hr.2.2, fun k s hk hs => ?_, fun k hk => ?_, fun i s hi hs hs4 => ?_⟩
  · unfold zA pyA
    rw [if_neg (by omega), if_pos (by omega)]
    by_cases e : k = s
    · rw [if_pos (by omega), if_pos e]
    · rw [if_neg (by omega), if_neg e]
  · unfold zC pyC
    rw [if_neg (by omega)]
  · unfold zA pyA
    by_cases h0 : i = 0
    · rw [if_pos h0]; exact pcw_z h hs
    · rw [if_neg h0]
      by_cases h4 : i ≤ 4
      · rw [if_pos h4, if_neg (by unfold rl at hi; omega)]
      · rw [if_neg h4]
        split
        · split
          · exact pcw_z h hs
          · rw [pcw_z h hs, pcw_z h hs]; rfl
        · rfl
theorem py_B (h : PyH n acts to M) (ha : a < acts) (hw : worlds = 1 ∨ worlds = 2 ∨ worlds = 3) : LpB (zA n acts a worlds to M) (zC acts a worlds M) := by
  have hn := PyH_n h
  have hr := wnx_r hw hn.2
  have g2 := h.1.2.2.2.2.1
  have gc := fun b (hb : b < acts) => h.1.2.2.2.2.2.2.1 b (by omega)
  have pr : ∀ q, q ≠ 0 → q < acts → prow a q < acts := fun q h1 h2 => by unfold prow; split <;> omega
  refine ⟨fun i s hi hs => ?_, fun s hs => ?_, fun i => ?_⟩
  · unfold zA pyA
    rw [if_neg (by omega)]
    by_cases h4 : i ≤ 4
    · rw [if_pos h4]; unfold bd; split <;> omega
    · rw [if_neg h4]
      by_cases hm : i < 5 + wnx worlds * acts
      · rw [if_pos hm]
        obtain ⟨d1, d2, d3'⟩ := wr_d (m := wnx worlds) ⟨by omega, hm⟩
        have hp := wpx_r hw d1
        have r1 := pcw_r (s := s) h ha hp
        by_cases e : (i - 5) % acts = 0
        · rw [if_pos e]; unfold bd; omega
        · rw [if_neg e]
          have r2 := pcw_r (s := s) h (pr _ e d2) hp
          unfold bd; omega
      · rw [if_neg hm]; unfold bd; omega
  · unfold zA pyA
    rw [if_pos rfl]
    have r1 := pcw_r (worlds := worlds) (p := 0) (s := s) h ha (wpx_r hw (by omega))
    unfold bd; omega
  · unfold zC pyC
    by_cases hm : 5 ≤ i ∧ i < 5 + wnx worlds * acts
    · rw [if_pos hm]
      obtain ⟨d1, d2, d3'⟩ := wr_d hm
      have c1 := (gc a ha).2
      by_cases e : (i - 5) % acts = 0
      · rw [if_pos e]; unfold bd; omega
      · rw [if_neg e]
        have c2 := (gc _ (pr _ e d2)).2
        unfold bd; omega
    · rw [if_neg hm]; unfold bd; omega
theorem py_T (h : PyH n acts to M) (hw : worlds = 1 ∨ worlds = 2 ∨ worlds = 3) {M1 : vM} (hT : AskT n (1 + n + wnx worlds * acts) 1 (zT n acts a worlds to M) M1) : SvT n (wnx worlds * acts) (zA n acts a worlds to M) (zC acts a worlds M) lpB0 M1 := by
  have hA := py_A (a := a) h hw
  have hn := hA.1
  refine ⟨⟨hT.1, hT.2.1, by rw [hT.2.2.1, lp_D0 hA]⟩, fun i hi j hj => ?_⟩
  rw [hT.2.2.2 i hi j (by omega)]
  cases j with
  | zero => exact (lp_00 hA).symm
  | succ j => exact (lp_T0 hA (by omega)).symm
abbrev vU (a : Nat) (worlds l5 l6 : Int) : List vV := [vR 1, vR 13, vI (a : Int), vI worlds, vR ((80 : Nat) : Int), vI l5, vI l6]
theorem LP_askGoal {T : Nat → Nat → Int} {wo : Int} (h : PyH n acts to M0) (ha : a < acts) (hw : w < 2) : ∀ (m k : Nat) (M : vM), k + m = n → vRefs M → AskT n (n + 1) 1 (rwT 0 0 to (pch M0 a w) k T) M → Fr sSv M0 M → (∀ M1, vRefs M1 → AskT n (n + 1) 1 (rwT 0 0 to (pch M0 a w) n T) M1 → Fr sSv M0 M1 → vw X (d + 3) 22 60 (vU a wo (w : Int) 0) [] M1 Q) → vw X (d + 3) 22 24 (vU a wo (w : Int) (k : Int)) [] M Q
  | 0, k, M, hk, hR, hT, f, q => by
    have e := (PyH_fr h f).1
    have ek : k = n := by omega
    subst ek
    exact B_Ac_askPay_24 (fun _ => B_Ac_askPay_57 (q M hR hT f)) (fun z => by exfalso; omega)
  | m + 1, k, M, hk, hR, hT, f, q => by
    obtain ⟨e, e4, e80, ec⟩ := PyH_fr h f
    have hn := PyH_n h
    have t := h.2.2.2 k (by omega)
    refine B_Ac_askPay_24 (fun z => by exfalso; omega) (fun _ => B_Ac_askPay_33 rfl (by omega) (S_Ac_chanceAt hR (by omega) (by omega) (by omega) (B_Ac_askPay_48 ?_)))
    rw [Int.toNat_natCast, e80 k (by omega), ec a w k (by omega) hw]
    refine S_addGoal hR (by omega) hn.1.2 t.2 hT (rwT_b (b := 12) (by omega) (by omega) (fun i hi => by have := pch_r h (b := a) (w := w) (k := i) (by omega) hw (by omega); unfold bd; omega)) (by have := pch_r h (b := a) (w := w) (k := k) (by omega) hw (by omega); unfold bd; omega) (fun M1 y1 y2 y3 => B_Ac_askPay_51 ?_)
    rw [w32_i (by omega)]
    exact LP_askGoal h ha hw m (k + 1) M1 (by omega) y1 (rwT_up y2) (f.trans y3) q
theorem S_askPay (h : PyH n acts to M) (ha : a < acts) (hwo : worlds = 1 ∨ worlds = 2 ∨ worlds = 3) (hR : vRefs M) (q : ∀ M1, vRefs M1 → SvT n (wnx worlds * acts) (zA n acts a worlds to M) (zC acts a worlds M) lpB0 M1 → Fr sSv M M1 → Q none M1) : cq X (d + 4) 22 [vR 1, vR 13, vI (a : Int), vI (worlds : Int), vR ((80 : Nat) : Int)] M Q := by
  have hn := PyH_n h
  have hr := wnx_r hwo hn.2
  have h10 := h.2.1
  -- the rows of the p-th world
  have row : ∀ p, p < wnx worlds → ∀ (M1 : vM) (Q' : Option vV → vM → Prop), vRefs M1 → AskT n (1 + n + p * acts) 1 (zT n acts a worlds to M) M1 → Fr sSv M M1 → (∀ M2, vRefs M2 → AskT n (1 + n + (p + 1) * acts) 1 (zT n acts a worlds to M) M2 → Fr sSv M M2 → Q' none M2) → cq X (d + 3) 23 [vR 1, vR 13, vI (a : Int), vI ((wpx worlds p : Nat) : Int), vR ((80 : Nat) : Int)] M1 Q' := fun p hp M1 Q' hR1 hT1 f1 q1 => by
    have hpa : (p + 1) * acts ≤ wnx worlds * acts := Nat.mul_le_mul_right _ hp
    have hpa2 : (p + 1) * acts = p * acts + acts := Nat.succ_mul _ _
    refine S_askPayIn (T := zT n acts a worlds to M) (co := M 2) (re := M 1 5) (L0 := 1 + n + p * acts) h ha (wpx_r hwo hp) (fun b _ => rfl) rfl (by omega) (fun j hj => ?_) (fun b hb hba j hj => ?_) hR1 hT1 f1 (fun M2 y1 y2 y3 => q1 M2 y1 (by rw [hpa2, ← Nat.add_assoc]; exact y2) y3)
    · exact (pyT_r (q := 0) hn.1.2 (by omega) (by omega) j).trans (by rw [if_pos rfl, if_pos rfl]; rfl)
    · have hq : qrow a b < acts := by unfold qrow; split <;> (try split) <;> omega
      obtain ⟨p1, p2⟩ := prow_q hba
      refine (pyT_r (p := p) (q := qrow a b) hn.1.2 hq (by omega) j).trans ?_
      rw [if_neg p2, if_neg p2, p1, js_s]
      rfl
  refine E_Ac_askPay (B_Ac_askPay_0 ?_)
  rw [h10]
  refine S_begin (d := d + 1) hn.1.2 hR (fun M1 y1 y2 y3 => ?_)
  have start : AskT n (n + 1) 1 (rwT 0 0 to (pch M a (wpx worlds 0)) 0 (zT n acts a worlds to M)) M1 := AskT_c y2 (fun i hi j hj => by
    unfold rwT
    by_cases e : i = 0
    · rw [if_pos e, if_neg (show ¬ (i = j ∧ 1 ≤ i) by omega)]; split <;> rfl
    · rw [if_neg e, zT, pyT_g hn.1.2 (by omega), if_neg e]
      by_cases e2 : j = 0
      · rw [if_pos e2, if_neg (by omega)]
      · rw [if_neg e2]
        by_cases e3 : i = j
        · rw [if_pos e3, if_pos (by omega)]
        · rw [if_neg e3, if_neg (by omega)])
  have fin : ∀ {M2 : vM}, AskT n (n + 1) 1 (rwT 0 0 to (pch M a (wpx worlds 0)) n (zT n acts a worlds to M)) M2 → AskT n (1 + n + 0 * acts) 1 (zT n acts a worlds to M) M2 := fun hT2 => by
    rw [show 1 + n + 0 * acts = n + 1 by omega]
    refine AskT_c hT2 (fun i hi j hj => ?_)
    unfold rwT
    by_cases e : i = 0
    · rw [if_pos e, zT, pyT_g hn.1.2 (by omega), if_pos e]; rfl
    · rw [if_neg e]
  have done : ∀ {M2 : vM}, AskT n (1 + n + wnx worlds * acts) 1 (zT n acts a worlds to M) M2 → vRefs M2 → Fr sSv M M2 → Q none M2 := fun hT2 hR2 f2 => q _ hR2 (py_T h hwo hT2) f2
  rcases hwo with e | e | e <;> subst e
  · refine B_Ac_askPay_8 (fun z => absurd z (by decide +kernel)) (fun _ => B_Ac_askPay_14 (LP_askGoal (k := 0) (w := 0) h ha (by omega) n M1 (by omega) y1 start y3 (fun M2 z1 z2 z3 => ?_)))
    refine B_Ac_askPay_60 (fun z => by exfalso; omega) (fun _ => B_Ac_askPay_66 (fun z => absurd z (by decide +kernel)) (fun _ => B_Ac_askPay_75 (row 0 (by decide) M2 _ z1 (fin z2) z3 (fun M3 x1 x2 x3 => B_Ac_askPay_85 ?_))))
    rw [w32_i (x := 0 + 1) (by omega)]
    refine B_Ac_askPay_60 (fun z => by exfalso; omega) (fun _ => B_Ac_askPay_66 (fun _ => B_Ac_askPay_85 ?_) (fun z => absurd (by decide +kernel) z))
    rw [w32_i (x := 0 + 1 + 1) (by omega)]
    exact B_Ac_askPay_60 (fun _ => B_Ac_askPay_91 (done x2 x1 x3)) (fun z => by exfalso; omega)
  · refine B_Ac_askPay_8 (fun _ => B_Ac_askPay_18 (LP_askGoal (k := 0) (w := 1) h ha (by omega) n M1 (by omega) y1 start y3 (fun M2 z1 z2 z3 => ?_))) (fun z => absurd (by decide +kernel) z)
    refine B_Ac_askPay_60 (fun z => by exfalso; omega) (fun _ => B_Ac_askPay_66 (fun _ => B_Ac_askPay_85 ?_) (fun z => absurd (by decide +kernel) z))
    rw [w32_i (x := 0 + 1) (by omega)]
    refine B_Ac_askPay_60 (fun z => by exfalso; omega) (fun _ => B_Ac_askPay_66 (fun z => absurd z (by decide +kernel)) (fun _ => B_Ac_askPay_75 (row 0 (by decide) M2 _ z1 (fin z2) z3 (fun M3 x1 x2 x3 => B_Ac_askPay_85 ?_))))
    rw [w32_i (x := 0 + 1 + 1) (by omega)]
    exact B_Ac_askPay_60 (fun _ => B_Ac_askPay_91 (done x2 x1 x3)) (fun z => by exfalso; omega)
  · refine B_Ac_askPay_8 (fun z => absurd z (by decide +kernel)) (fun _ => B_Ac_askPay_14 (LP_askGoal (k := 0) (w := 0) h ha (by omega) n M1 (by omega) y1 start y3 (fun M2 z1 z2 z3 => ?_)))
    refine B_Ac_askPay_60 (fun z => by exfalso; omega) (fun _ => B_Ac_askPay_66 (fun z => absurd z (by decide +kernel)) (fun _ => B_Ac_askPay_75 (row 0 (by decide) M2 _ z1 (fin z2) z3 (fun M3 x1 x2 x3 => B_Ac_askPay_85 ?_))))
    rw [w32_i (x := 0 + 1) (by omega)]
    refine B_Ac_askPay_60 (fun z => by exfalso; omega) (fun _ => B_Ac_askPay_66 (fun z => absurd z (by decide +kernel)) (fun _ => B_Ac_askPay_75 (row 1 (by decide) M3 _ x1 x2 x3 (fun M4 v1 v2 v3 => B_Ac_askPay_85 ?_))))
    rw [w32_i (x := 0 + 1 + 1) (by omega)]
    exact B_Ac_askPay_60 (fun _ => B_Ac_askPay_91 (done v2 v1 v3)) (fun z => by exfalso; omega)
end PZ
