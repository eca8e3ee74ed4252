/-! THE REFERENCE'S SEARCH as a whole -/
theorem j_ishl_n : ∀ N : Fin 13, j_ishl 1 (N.val : Int) = ((2 ^ N.val : Nat) : Int) := by decide +kernel
theorem p2_r {N : Nat} (h : N ≤ 12) : 2 ^ N ≤ 4096 := Nat.pow_le_pow_right (by decide) h
section RF
variable {X : vX} {d : Nat} {M M0 : vM} {Q : Option vV → vM → Prop} {n N a w : Nat} {bA : Nat → Nat → Int} {bC g Z : Nat → Int} {l2 D : Int}
theorem GoH_fr (h : GoH n a w g M0) (f : Fr (fun b _ => b ≠ 83) M0 M) : GoH n a w g M := ⟨h.1, h.2.1, fun s hs => by rw [f 83 _ (by omega)]; exact h.2.2 s hs⟩
/-- the least point, times D -/
def OpH (n N : Nat) (bA : Nat → Nat → Int) (bC g : Nat → Int) (D : Int) (Z : Nat → Int) : Prop := 0 < D ∧ (∀ (x : Nat → Int) (t : Int), 0 < t → cF n N bA bC x t → (∀ s, n ≤ s → x s = 0) → lxn (fun i => D * co0 (dot g x n) x i - Z i * t) (n + 1) 0) ∧ ∃ s0, s0 < 2 ^ N ∧ (bl s0 N).length = n ∧ detp n (pF bA (pkl s0 N)) ≠ 0 ∧ cF n N bA bC (crn n bA bC (pkl s0 N)) (crt n bA (pkl s0 N)) ∧ ∀ i, i ≤ n → D * co0 (dot g (crn n bA bC (pkl s0 N)) n) (crn n bA bC (pkl s0 N)) i = Z i * crt n bA (pkl s0 N)
def FdH (n : Nat) (D : Int) (Z : Nat → Int) (M : vM) : Prop := M 81 15 = 1 ∧ 0 < M 91 4 ∧ bd 500000 (M 91 4) ∧ (∀ s, s < n → bd 100000000 (M 91 s)) ∧ bd 5000000000 (M 81 14) ∧ ∀ i, i ≤ n → D * co0 (M 81 14) (M 91) i = Z i * M 91 4
theorem crn_z {pk : Nat → Nat} {s : Nat} (h : n ≤ s) : crn n bA bC pk s = 0 := by unfold crn; rw [if_neg (by omega)]
theorem LP_sets_no (hB : BnH n N bA bC M0) (hG : GoH n a w g M0) (hno : ∀ (x : Nat → Int) (t : Int), 0 < t → cF n N bA bC x t → (∀ s, n ≤ s → x s = 0) → False) (q : ∀ M1, vRefs M1 → Fr sFn M0 M1 → M1 81 15 = 0 → Q none M1) : ∀ (m set : Nat) (M : vM) (w5 w6 w8 : vV), set + m = 2 ^ N → vRefs M → Fr sFn M0 M → M 81 15 = 0 → vw X (d + 3) 206 38 (vL9 a l2 w set w5 w6 w8) [] M Q
  | 0, set, M, w5, w6, w8, hs, hR, f, h15 => by
    have hN := hB.2.1
    have p2 := p2_r hN
    have e9 : M 81 9 = (N : Int) := by rw [f 81 9 (by omega)]; exact hB.2.2.2.1
    have es := j_ishl_n ⟨N, by omega⟩
    simp only at es
    exact B_R_findLeast_38 (fun _ => B_R_findLeast_225 (q M hR f h15)) (fun z => by rw [e9, es] at z; exfalso; omega)
  | m + 1, set, M, w5, w6, w8, hs, hR, f, h15 => by
    have hN := hB.2.1
    have p2 := p2_r hN
    have e9 : M 81 9 = (N : Int) := by rw [f 81 9 (by omega)]; exact hB.2.2.2.1
    have es := j_ishl_n ⟨N, by omega⟩
    simp only at es
    refine B_R_findLeast_38 (fun z => by rw [e9, es] at z; exfalso; omega) (fun _ => ?_)
    clear es
    refine LP_one hR (BnH_fr hB (f.mono (fun b j y => by omega))) (GoH_fr hG (f.mono (fun b j y => by omega))) (Or.inl h15) (by omega) (fun M1 y1 y2 _ l5 w6 w8 => B_R_findLeast_219 ?_) (fun M1 y1 y2 y3 y4 y5 y6 y7 y8 y9 y10 y11 y12 y13 l5 w6 w8 => (hno _ _ (crt_p y4) y5 (fun s h => crn_z h)).elim)
    rw [w32_i (by omega)]
    exact LP_sets_no hB hG hno q m (set + 1) M1 _ _ _ (by omega) y1 (f.trans (y2.mono (fun b j y => by show sFn b j; omega))) (by rw [y2 81 15 (by omega)]; exact h15)
theorem LP_sets_yes (hB : BnH n N bA bC M0) (hG : GoH n a w g M0) (hD : 0 < D) (hopt : ∀ (x : Nat → Int) (t : Int), 0 < t → cF n N bA bC x t → (∀ s, n ≤ s → x s = 0) → lxn (fun i => D * co0 (dot g x n) x i - Z i * t) (n + 1) 0) {s0 : Nat} (hs0 : s0 < 2 ^ N) (hl0 : (bl s0 N).length = n) (hd0 : detp n (pF bA (pkl s0 N)) ≠ 0) (hc0 : cF n N bA bC (crn n bA bC (pkl s0 N)) (crt n bA (pkl s0 N))) (he0 : ∀ i, i ≤ n → D * co0 (dot g (crn n bA bC (pkl s0 N)) n) (crn n bA bC (pkl s0 N)) i = Z i * crt n bA (pkl s0 N)) (q : ∀ M1, vRefs M1 → Fr sFn M0 M1 → FdH n D Z M1 → Q none M1) : ∀ (m set : Nat) (M : vM) (w5 w6 w8 : vV), set + m = 2 ^ N → vRefs M → Fr sFn M0 M → FlH n M → (M 81 15 = 1 → lxn (fun i => D * co0 (M 81 14) (M 91) i - Z i * M 91 4) (n + 1) 0) → (s0 < set → FdH n D Z M) → vw X (d + 3) 206 38 (vL9 a l2 w set w5 w6 w8) [] M Q
  | 0, set, M, w5, w6, w8, hs, hR, f, hF, hl, hd => by
    have hN := hB.2.1
    have p2 := p2_r hN
    have e9 : M 81 9 = (N : Int) := by rw [f 81 9 (by omega)]; exact hB.2.2.2.1
    have es := j_ishl_n ⟨N, by omega⟩
    simp only at es
    exact B_R_findLeast_38 (fun _ => B_R_findLeast_225 (q M hR f (hd (by omega)))) (fun z => by rw [e9, es] at z; exfalso; omega)
  | m + 1, set, M, w5, w6, w8, hs, hR, f, hF, hl, hd => by
    have hN := hB.2.1
    have p2 := p2_r hN
    have e9 : M 81 9 = (N : Int) := by rw [f 81 9 (by omega)]; exact hB.2.2.2.1
    have es := j_ishl_n ⟨N, by omega⟩
    simp only at es
    refine B_R_findLeast_38 (fun z => by rw [e9, es] at z; exfalso; omega) (fun _ => ?_)
    clear es
    -- a best point as good as the least is the least
    refine LP_one hR (BnH_fr hB (f.mono (fun b j y => by omega))) (GoH_fr hG (f.mono (fun b j y => by omega))) hF (by omega) (fun M1 y1 y2 y3 l5 w6 w8 => B_R_findLeast_219 ?_) (fun M1 y1 y2 y3 y4 y5 y6 y7 y8 y9 y10 y11 y12 y13 l5 w6 w8 => B_R_findLeast_219 ?_)
    · rw [w32_i (by omega)]
      have e15 : M1 81 15 = M 81 15 := y2 81 15 (by omega)
      have e14 : M1 81 14 = M 81 14 := y2 81 14 (by omega)
      have e91 : ∀ s, M1 91 s = M 91 s := fun s => y2 91 s (by omega)
      have e91' : M1 91 = M 91 := funext e91
      refine LP_sets_yes hB hG hD hopt hs0 hl0 hd0 hc0 he0 q m (set + 1) M1 _ _ _ (by omega) y1 (f.trans (y2.mono (fun b j y => by show sFn b j; omega))) ?_ ?_ (fun hlt => ?_)
      · unfold FlH; rw [e15, e14, e91']; exact hF
      · rw [e15, e14, e91']; exact hl
      · have keep : FdH n D Z M → FdH n D Z M1 := fun h => by unfold FdH at h ⊢; rw [e15, e14, e91']; exact h
        by_cases hlt2 : s0 < set
        · exact keep (hd hlt2)
        · have es : set = s0 := by omega
          rw [es] at y3
          rcases y3 with z | z | z | ⟨h15, z⟩
          · exact absurd hl0 z
          · exact absurd z hd0
          · exact absurd hc0 z
          · have hF2 : 0 < M 91 4 ∧ bd 500000 (M 91 4) ∧ (∀ s, s < n → bd 100000000 (M 91 s)) ∧ bd 5000000000 (M 81 14) := by
              rcases hF with h | h
              · omega
              · exact h.2
            refine keep ⟨h15, hF2.1, hF2.2.1, hF2.2.2.1, hF2.2.2.2, fun i hi => ?_⟩
            have ct := crt_p hd0
            have z2 : lxn (fun i => -(D * co0 (M 81 14) (M 91) i - Z i * M 91 4)) (n + 1) 0 := by
              refine lxn_d ct (lxn_c (fun k _ hk => ?_) (lxn_m (Int.le_of_lt hD) z))
              show crt n bA (pkl s0 N) * -(D * co0 (M 81 14) (M 91) k - Z k * M 91 4) = D * (co0 (dot g (crn n bA bC (pkl s0 N)) n) (crn n bA bC (pkl s0 N)) k * M 91 4 - co0 (M 81 14) (M 91) k * crt n bA (pkl s0 N))
              have := he0 k (by omega)
              generalize co0 (dot g (crn n bA bC (pkl s0 N)) n) (crn n bA bC (pkl s0 N)) k = c1 at *
              generalize co0 (M 81 14) (M 91) k = c2 at *
              generalize crt n bA (pkl s0 N) = c3 at *
              clear hopt he0 hl q
              grind
            have := lxn_anti (hl h15) z2 (fun k _ _ => rfl) i (by omega) (by omega)
            omega
    · rw [w32_i (by omega)]
      have ct := crt_p y4
      have hx0 := hopt _ _ ct y5 (fun s h => crn_z h)
      have ec : ∀ i, i ≤ n → co0 (M1 81 14) (M1 91) i = co0 (dot g (crn n bA bC (pkl set N)) n) (crn n bA bC (pkl set N)) i := fun i hi => by
        cases i with
        | zero => exact y8
        | succ i => exact y9 i (by omega)
      have hl1 : lxn (fun i => D * co0 (M1 81 14) (M1 91) i - Z i * M1 91 4) (n + 1) 0 := lxn_c (fun k _ hk => by show D * co0 (M1 81 14) (M1 91) k - Z k * M1 91 4 = _; rw [ec k (by omega), y10]) hx0
      refine LP_sets_yes hB hG hD hopt hs0 hl0 hd0 hc0 he0 q m (set + 1) M1 _ _ _ (by omega) y1 (f.trans y2) (Or.inr ⟨y7, by rw [y10]; exact ct, y13, y12, y11⟩) (fun _ => hl1) (fun hlt => ⟨y7, by rw [y10]; exact ct, y13, y12, y11, ?_⟩)
      by_cases hlt2 : s0 < set
      · exfalso
        obtain ⟨h15, h1, h2, h3, h4, h5⟩ := hd hlt2
        rcases y6 with z | z
        · omega
        · refine lxp_irr (lxp_a (lxp_m hD z) (lxn_m (Int.le_of_lt h1) hx0)) (fun k _ hk => ?_)
          show D * (co0 (M 81 14) (M 91) k * crt n bA (pkl set N) - co0 (dot g (crn n bA bC (pkl set N)) n) (crn n bA bC (pkl set N)) k * M 91 4) + M 91 4 * (D * co0 (dot g (crn n bA bC (pkl set N)) n) (crn n bA bC (pkl set N)) k - Z k * crt n bA (pkl set N)) = 0
          have := h5 k (by omega)
          generalize co0 (dot g (crn n bA bC (pkl set N)) n) (crn n bA bC (pkl set N)) k = c1 at *
          generalize co0 (M 81 14) (M 91) k = c2 at *
          generalize crt n bA (pkl set N) = c3 at *
          clear hopt he0 hl q
          grind
      · have es : set = s0 := by omega
        intro i hi
        rw [ec i hi, y10, es]
        exact he0 i hi
end RF
