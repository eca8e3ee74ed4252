/-! THE REFERENCE'S SEARCH from its start -/
section RG
variable {X : vX} {d : Nat} {M M0 : vM} {Q : Option vV → vM → Prop} {n acts a worlds w : Nat} {co : Nat → Int} {re D : Int} {cw : Nat → Nat → Nat → Int} {Z : Nat → Int}
theorem fb_clear {w4 w5 : vV} (hw : w < 3) (hbit : ¬ j_iand (j_ishr (worlds : Int) (w : Int)) 1 = 1) (k : ∀ w4 w5, vw X (d + 1) 202 7 (vB6 a worlds (w + 1) w4 w5) [] M Q) : vw X (d + 1) 202 7 (vB6 a worlds w w4 w5) [] M Q := by
  have e : w32 ((w : Int) + 1) = ((w + 1 : Nat) : Int) := by rw [w32_i (by omega)]; omega
  have k2 : ∀ l4 w5, vw X (d + 1) 202 161 (vB6 a worlds w (vI l4) w5) [] M Q := fun l4 w5 => B_R_findBounds_161 (by rw [e]; exact k _ _)
  exact B_R_findBounds_7 (fun z => by exfalso; omega) (fun _ => B_R_findBounds_12 (B_R_findBounds_15 (fun _ => k2 _ _) (fun _ => B_R_findBounds_24 (fun _ => k2 _ _) (fun z => absurd z hbit))))
theorem wnx_m {p : Nat} (hp : p < wnx worlds) : p * acts + acts ≤ wnx worlds * acts := by
  have : (p + 1) * acts ≤ wnx worlds * acts := Nat.mul_le_mul_right _ hp
  rw [Nat.succ_mul] at this
  exact this
theorem fb_set {p : Nat} {w4 w5 : vV} (h : RbH n acts a worlds cw co re M0) (hN : wnx worlds * acts ≤ 8) (hp : p < wnx worlds) (hbit : j_iand (j_ishr (worlds : Int) ((wq worlds p : Nat) : Int)) 1 = 1) (hR : vRefs M) (f : Fr sFb M0 M) (hI : FbI n (p * acts) (rA acts a (wnx worlds) cw) (rC acts a (wnx worlds) co re) M) (k : ∀ M1 w4 w5, vRefs M1 → Fr sFb M0 M1 → FbI n (p * acts + acts) (rA acts a (wnx worlds) cw) (rC acts a (wnx worlds) co re) M1 → vw X (d + 1) 202 7 (vB6 a worlds (wq worlds p + 1) w4 w5) [] M1 Q) : vw X (d + 1) 202 7 (vB6 a worlds (wq worlds p) w4 w5) [] M Q := by
  have hq := wq_r h.2.2.2.1 hp
  have hm := wnx_m (acts := acts) hp
  refine B_R_findBounds_7 (fun z => by exfalso; omega) (fun _ => B_R_findBounds_12 (LP_fb_world (b := 0) (R0 := p * acts) (bA := rA acts a (wnx worlds) cw) (bC := rC acts a (wnx worlds) co re) h hp (by omega) hbit (fun b s hb hs => ?_) (fun b hb => ?_) acts M _ (by omega) hR f hI (fun M1 y1 y2 y3 l4 w5 => B_R_findBounds_161 ?_)))
  · unfold rA
    rw [if_pos (by omega), (pq_e hb).1, (pq_e hb).2]
  · unfold rC
    rw [if_pos (by omega), (pq_e hb).2]
  · rw [show w32 (((wq worlds p : Nat) : Int) + 1) = ((wq worlds p + 1 : Nat) : Int) by rw [w32_i (by omega)]; omega]
    exact k M1 _ _ y1 y2 y3
theorem S_findBounds (hR : vRefs M) (h : RbH n acts a worlds cw co re M) (q : ∀ M1, vRefs M1 → Fr sFb M M1 → BnH n (wnx worlds * acts + n) (rA acts a (wnx worlds) cw) (rC acts a (wnx worlds) co re) M1 → Q none M1) : cq X (d + 2) 202 [vR 81, vI (a : Int), vI (worlds : Int)] M Q := by
  obtain ⟨hn, h4, ha, hw, g0, g1, gc, gr, gw⟩ := h
  have h : RbH n acts a worlds cw co re M := ⟨hn, h4, ha, hw, g0, g1, gc, gr, gw⟩
  have hP : 1 ≤ wnx worlds ∧ wnx worlds ≤ 2 := by unfold wnx; split <;> omega
  have hN : wnx worlds * acts ≤ 8 := by
    have := Nat.mul_le_mul hP.2 h4
    omega
  have pr : ∀ r, r < wnx worlds * acts → r / acts < wnx worlds ∧ r % acts < acts := fun r hr => by
    have h0 : 0 < acts := by omega
    exact ⟨(Nat.div_lt_iff_lt_mul h0).mpr (by omega), Nat.mod_lt _ h0⟩
  have fin : ∀ (M1 : vM) (w4 w5 : vV), vRefs M1 → Fr sFb M M1 → FbI n (wnx worlds * acts) (rA acts a (wnx worlds) cw) (rC acts a (wnx worlds) co re) M1 → vw X (d + 1) 202 7 (vB6 a worlds 3 w4 w5) [] M1 Q := fun M1 w4 w5 y1 y2 y3 => by
    refine B_R_findBounds_7 (fun _ => B_R_findBounds_167 ?_) (fun z => by exfalso; omega)
    refine LP_fb_ones (k := 0) (R0 := wnx worlds * acts) (M0 := M) (bA := rA acts a (wnx worlds) cw) (bC := rC acts a (wnx worlds) co re) hn.2 g0 (by omega) (fun k s hk hs => ?_) (fun k hk => ?_) n M1 _ _ (by omega) y1 y2 y3 (fun M2 z1 z2 z3 => q M2 z1 z2 ⟨hn, by omega, by rw [z2 81 0 (by omega)]; exact g0, z3.1, fun r s hr hs => ⟨(z3.2 r hr).1 s hs, ?_⟩, fun r hr => ⟨(z3.2 r hr).2, ?_⟩⟩)
    · unfold rA
      rw [if_neg (by omega), Nat.add_sub_cancel_left]
    · unfold rC
      rw [if_neg (by omega)]
    · unfold rA
      by_cases e : r < wnx worlds * acts
      · rw [if_pos e]
        obtain ⟨p1, p2⟩ := pr r e
        have c1 := gw (r / acts) a s p1 ha hs
        by_cases e2 : r % acts = a
        · rw [if_pos e2]; unfold bd; omega
        · rw [if_neg e2]
          have c2 := gw (r / acts) (r % acts) s p1 p2 hs
          unfold bd; omega
      · rw [if_neg e]; unfold bd; split <;> omega
    · unfold rC
      by_cases e : r < wnx worlds * acts
      · rw [if_pos e]
        obtain ⟨p1, p2⟩ := pr r e
        have c1 := gc a ha
        have c2 := gc (r % acts) p2
        unfold bd; split <;> omega
      · rw [if_neg e]; unfold bd; omega
  have start : ∀ M1, M1 81 9 = 0 → FbI n (0 * acts) (rA acts a (wnx worlds) cw) (rC acts a (wnx worlds) co re) M1 := fun M1 e => ⟨by rw [Nat.zero_mul]; exact e, fun r hr => by rw [Nat.zero_mul] at hr; omega⟩
  refine E_R_findBounds (B_R_findBounds_0 hR (fun hR2 => ?_))
  have f0 : Fr sFb M (vm_up M 81 9 0) := Fr.refl.up (Or.inr ⟨rfl, rfl⟩)
  have s0 := start (vm_up M 81 9 0) (by rw [vm_up2, if_pos ⟨rfl, rfl⟩])
  have : worlds = 1 ∨ worlds = 2 ∨ worlds = 3 ∨ worlds = 4 := by omega
  rcases this with e | e | e | e <;> subst e
  · refine fb_set (p := 0) h hN (by decide) (by decide +kernel) hR2 f0 s0 (fun M1 w4 w5 y1 y2 y3 => ?_)
    refine fb_clear (w := 1) (by decide) (by decide +kernel) (fun w4 w5 => fb_clear (w := 2) (by decide) (by decide +kernel) (fun w4 w5 => fin M1 _ _ y1 y2 ?_))
    rw [show wnx 1 * acts = 0 * acts + acts by show 1 * acts = _; omega]
    exact y3
  · refine fb_clear (w := 0) (by decide) (by decide +kernel) (fun w4 w5 => fb_set (p := 0) h hN (by decide) (by decide +kernel) hR2 f0 s0 (fun M1 w4 w5 y1 y2 y3 => ?_))
    refine fb_clear (w := 2) (by decide) (by decide +kernel) (fun w4 w5 => fin M1 _ _ y1 y2 ?_)
    rw [show wnx 2 * acts = 0 * acts + acts by show 1 * acts = _; omega]
    exact y3
  · refine fb_set (p := 0) h hN (by decide) (by decide +kernel) hR2 f0 s0 (fun M1 w4 w5 y1 y2 y3 => ?_)
    refine fb_set (p := 1) h hN (by decide) (by decide +kernel) y1 y2 (by rw [show 1 * acts = 0 * acts + acts by omega]; exact y3) (fun M2 w4 w5 z1 z2 z3 => ?_)
    refine fb_clear (w := 2) (by decide) (by decide +kernel) (fun w4 w5 => fin M2 _ _ z1 z2 ?_)
    rw [show wnx 3 * acts = 1 * acts + acts by show 2 * acts = _; omega]
    exact z3
  · refine fb_clear (w := 0) (by decide) (by decide +kernel) (fun w4 w5 => fb_clear (w := 1) (by decide) (by decide +kernel) (fun w4 w5 => fb_set (p := 0) h hN (by decide) (by decide +kernel) hR2 f0 s0 (fun M1 w4 w5 y1 y2 y3 => fin M1 _ _ y1 y2 ?_)))
    rw [show wnx 4 * acts = 0 * acts + acts by show 1 * acts = _; omega]
    exact y3
abbrev sFL (b j : Nat) : Prop := (87 ≤ b ∧ b ≤ 91) ∨ (b = 81 ∧ (j = 9 ∨ j = 14 ∨ j = 15))
/-- to where the sets begin -/
theorem fl_start (hR : vRefs M) (h : RbH n acts a worlds cw co re M) (q : ∀ M1, vRefs M1 → Fr sFL M M1 → BnH n (wnx worlds * acts + n) (rA acts a (wnx worlds) cw) (rC acts a (wnx worlds) co re) M1 → GoH n a (wq worlds 0) (cw 0 a) M1 → M1 81 15 = 0 → vw X (d + 3) 206 38 (vL9 a (worlds : Int) (wq worlds 0) 0 vN vN vN) [] M1 Q) : cq X (d + 4) 206 [vR 81, vI (a : Int), vI (worlds : Int)] M Q := by
  refine E_R_findLeast (B_R_findLeast_0 (S_findBounds (d := d + 1) hR h (fun M1 y1 y2 y3 => ?_)))
  obtain ⟨hn, h4, ha, hw, g0, g1, gc, gr, gw⟩ := h
  have f2 : Fr sFL M (vm_up M1 81 15 0) := (y2.mono (fun b j y => by show sFL b j; omega)).up (by omega)
  have hB : BnH n (wnx worlds * acts + n) (rA acts a (wnx worlds) cw) (rC acts a (wnx worlds) co re) (vm_up M1 81 15 0) := BnH_fr (M0 := M1) y3 (Fr.refl.up (by omega))
  have hG : GoH n a (wq worlds 0) (cw 0 a) (vm_up M1 81 15 0) := ⟨by omega, wq_r hw (by unfold wnx; split <;> omega), fun s hs => by
    have c := gw 0 a s (by unfold wnx; split <;> omega) ha hs
    rw [f2 83 _ (by omega)]
    exact ⟨c.1, by unfold bd; omega⟩⟩
  have e15 : vm_up M1 81 15 0 81 15 = 0 := by rw [vm_up2, if_pos ⟨rfl, rfl⟩]
  have : worlds = 1 ∨ worlds = 2 ∨ worlds = 3 ∨ worlds = 4 := by omega
  rcases this with e | e | e | e <;> subst e
  · exact B_R_findLeast_6 y1 (fun z => absurd (by decide +kernel) z) (fun _ hR2 => B_R_findLeast_18 (q _ hR2 f2 hB hG e15))
  · exact B_R_findLeast_6 y1 (fun _ hR2 => B_R_findLeast_22 (fun z => absurd (by decide +kernel) z) (fun _ => B_R_findLeast_29 (q _ hR2 f2 hB hG e15))) (fun z => absurd z (by decide +kernel))
  · exact B_R_findLeast_6 y1 (fun z => absurd (by decide +kernel) z) (fun _ hR2 => B_R_findLeast_18 (q _ hR2 f2 hB hG e15))
  · exact B_R_findLeast_6 y1 (fun _ hR2 => B_R_findLeast_22 (fun _ => B_R_findLeast_33 (q _ hR2 f2 hB hG e15)) (fun z => absurd z (by decide +kernel))) (fun z => absurd z (by decide +kernel))
theorem S_findLeast_yes (hR : vRefs M) (h : RbH n acts a worlds cw co re M) (ho : OpH n (wnx worlds * acts + n) (rA acts a (wnx worlds) cw) (rC acts a (wnx worlds) co re) (cw 0 a) D Z) (q : ∀ M1, vRefs M1 → Fr sFL M M1 → FdH n D Z M1 → Q none M1) : cq X (d + 4) 206 [vR 81, vI (a : Int), vI (worlds : Int)] M Q := by
  obtain ⟨hD, ho1, s0, o1, o2, o3, o4, o5⟩ := ho
  refine fl_start hR h (fun M1 y1 y2 y3 y4 y5 => LP_sets_yes (set := 0) y3 y4 hD ho1 o1 o2 o3 o4 o5 (fun M2 z1 z2 z3 => q M2 z1 (y2.trans (z2.mono (fun b j y => by show sFL b j; omega))) z3) (2 ^ (wnx worlds * acts + n)) M1 _ _ _ (by omega) y1 Fr.refl (Or.inl y5) (fun z => by exfalso; omega) (fun z => by exfalso; omega))
theorem S_findLeast_no (hR : vRefs M) (h : RbH n acts a worlds cw co re M) (ho : ∀ (x : Nat → Int) (t : Int), 0 < t → cF n (wnx worlds * acts + n) (rA acts a (wnx worlds) cw) (rC acts a (wnx worlds) co re) x t → (∀ s, n ≤ s → x s = 0) → False) (q : ∀ M1, vRefs M1 → Fr sFL M M1 → M1 81 15 = 0 → Q none M1) : cq X (d + 4) 206 [vR 81, vI (a : Int), vI (worlds : Int)] M Q :=
  fl_start hR h (fun M1 y1 y2 y3 y4 y5 => LP_sets_no (set := 0) y3 y4 ho (fun M2 z1 z2 z3 => q M2 z1 (y2.trans (z2.mono (fun b j y => by show sFL b j; omega))) z3) (2 ^ (wnx worlds * acts + n)) M1 _ _ _ (by omega) y1 Fr.refl y5)
end RG
