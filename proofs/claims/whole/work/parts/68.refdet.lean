/-! THE REFERENCE'S DETERMINANT -/
theorem j_ldiv_x {b q : Int} (hb : b ≠ 0) (h1 : bd 4000000000000000000 b) (h2 : bd 4000000000000000000 (b * q)) : j_ldiv (b * q) b = q := by
  have hq : (b * q).natAbs = b.natAbs * q.natAbs := Int.natAbs_mul b q
  have hq2 : 1 * q.natAbs ≤ b.natAbs * q.natAbs := Nat.mul_le_mul_right _ (by omega)
  unfold bd at h1 h2
  unfold j_ldiv
  rw [Int64.toInt_div, l64_e (by omega), l64_e (by omega), Int.mul_tdiv_cancel_left _ hb]
  show q.bmod 18446744073709551616 = _
  rw [w64_bmod, w64_i (by omega)]
section RD
variable {X : vX} {d : Nat} {M M0 : vM} {Q : Option vV → vM → Prop} {n cc : Nat} {l1 : Int} {G0 G : Nat → Nat → Int}
abbrev s89 (b _ : Nat) : Prop := b = 89
def mt (M : vM) (r s : Nat) : Int := M 89 (4 * r + s)
theorem mt_up {M : vM} {r s r' s' : Nat} {x : Int} (h1 : s < 4) (h2 : s' < 4) : mt (vm_up M 89 (4 * r + s) x) r' s' = if r' = r ∧ s' = s then x else mt M r' s' := by
  unfold mt
  rw [vm_up2]
  by_cases h : r' = r ∧ s' = s
  · rw [if_pos h, if_pos (by omega)]
  · rw [if_neg h, if_neg (by omega)]
/-- what is read of the bounds -/
def DtH (n : Nat) (l1 : Int) (G0 : Nat → Nat → Int) (M : vM) : Prop := (2 ≤ n ∧ n ≤ 4) ∧ (-1 ≤ l1 ∧ l1 < 4) ∧ M 81 0 = (n : Int) ∧ (∀ r, r < n → 0 ≤ M 88 r ∧ M 88 r < 12) ∧ ∀ r s : Nat, r < n → s < n → M 87 (5 * (M 88 r).toNat + (if (s : Int) = l1 then 4 else s)) = G0 r s
theorem ix4 {r s : Nat} (h1 : r < 4) (h2 : s < 4) : w32 (w32 (4 * (r : Int)) + (s : Int)) = ((4 * r + s : Nat) : Int) := by rw [w32_i (x := 4 * (r : Int)) (by omega), w32_i (by omega)]; omega
theorem LP_fill_row (h : DtH n l1 G0 M0) {r : Nat} (hr : r < n) : ∀ (w s : Nat) (M : vM), s + w = n → vRefs M → Fr s89 M0 M → (∀ r' s', s' < n → (r' < r ∨ (r' = r ∧ s' < s)) → mt M r' s' = G0 r' s') → (∀ M1, vRefs M1 → Fr s89 M0 M1 → (∀ r' s', s' < n → r' < r + 1 → mt M1 r' s' = G0 r' s') → ∀ l4, vw X d 203 64 [vR 81, vI l1, vI (n : Int), vI (r : Int), vI l4, vN, vN, vN, vN, vN, vN, vN] [] M1 Q) → vw X d 203 15 [vR 81, vI l1, vI (n : Int), vI (r : Int), vI (s : Int), vN, vN, vN, vN, vN, vN, vN] [] M Q
  | 0, s, M, hs, hR, f, hm, q => B_R_determinant_15 (fun _ => q M hR f (fun r' s' h1 h2 => hm r' s' h1 (by omega)) _) (fun z => by exfalso; omega)
  | w + 1, s, M, hs, hR, f, hm, q => by
    obtain ⟨hn, hl, h0, h88, h87⟩ := h
    have p := h88 r hr
    have g := h87 r s hr (by omega)
    obtain ⟨P, hP⟩ : ∃ P : Nat, M0 88 r = (P : Int) := ⟨(M0 88 r).toNat, by omega⟩
    rw [hP] at p g
    rw [Int.toNat_natCast] at g
    have e88 : M 88 r = (P : Int) := by rw [← hP]; exact f 88 r (by omega)
    have f87 : ∀ i, M 87 i = M0 87 i := fun i => f 87 i (by omega)
    have hP12 : P < 12 := by omega
    have hs4 : s < 4 := by omega
    have hr4 : r < 4 := by omega
    have r7 : 0 ≤ ((4 * r + s : Nat) : Int) ∧ ((4 * r + s : Nat) : Int) < (16 : Nat) := by omega
    have nx : ∀ x, vRefs (vm_up M 89 (4 * r + s) x) → x = G0 r s → vw X d 203 15 [vR 81, vI l1, vI (n : Int), vI (r : Int), vI (w32 ((s : Int) + 1)), vN, vN, vN, vN, vN, vN, vN] [] (vm_up M 89 (4 * r + s) x) Q := fun x hR2 hx => by
      rw [w32_i (by omega)]
      refine LP_fill_row ⟨hn, hl, h0, h88, h87⟩ hr w (s + 1) _ (by omega) hR2 (f.up rfl) (fun r' s' h1 h2 => ?_) q
      rw [mt_up hs4 (by omega)]
      by_cases e : r' = r ∧ s' = s
      · rw [if_pos e, hx, e.1, e.2]
      · rw [if_neg e]; exact hm r' s' h1 (by omega)
    have e5 : w32 (5 * M 88 r) = ((5 * P : Nat) : Int) := by rw [e88, w32_i (by omega)]; omega
    refine B_R_determinant_15 (fun z => by exfalso; omega) (fun _ => B_R_determinant_21 hR (by omega) (fun z => ?_) (fun z => ?_)) <;> rw [Int.toNat_natCast, e5, ix4 hr4 hs4]
    · rw [if_neg z] at g
      have e6 : w32 (((5 * P : Nat) : Int) + (s : Int)) = ((5 * P + s : Nat) : Int) := by rw [w32_i (by omega)]; omega
      have r6 : 0 ≤ w32 (((5 * P : Nat) : Int) + (s : Int)) ∧ w32 (((5 * P : Nat) : Int) + (s : Int)) < (60 : Nat) := by
        rw [e6]
        clear e6 e5 nx g q hm h87 h88 z
        omega
      refine B_R_determinant_53 hR r6 r7 (fun hR2 => ?_)
      rw [e6, Int.toNat_natCast, Int.toNat_natCast] at hR2 ⊢
      exact nx _ hR2 (by rw [f87]; exact g)
    · rw [if_pos z] at g
      have e6 : w32 (((5 * P : Nat) : Int) + 4) = ((5 * P + 4 : Nat) : Int) := by rw [w32_i (by omega)]; omega
      have r6 : 0 ≤ w32 (((5 * P : Nat) : Int) + 4) ∧ w32 (((5 * P : Nat) : Int) + 4) < (60 : Nat) := by
        rw [e6]
        clear e6 e5 nx g q hm h87 h88 z
        omega
      refine B_R_determinant_49 hR r6 r7 (fun hR2 => ?_)
      rw [e6, Int.toNat_natCast, Int.toNat_natCast] at hR2 ⊢
      exact nx _ hR2 (by rw [f87]; exact g)
theorem LP_fill (h : DtH n l1 G0 M0) : ∀ (w r : Nat) (M : vM) (w4 : vV), r + w = n → vRefs M → Fr s89 M0 M → (∀ r' s', s' < n → r' < r → mt M r' s' = G0 r' s') → (∀ M1, vRefs M1 → Fr s89 M0 M1 → (∀ r' s', s' < n → r' < n → mt M1 r' s' = G0 r' s') → vw X d 203 78 [vR 81, vI l1, vI (n : Int), vL 1, vN, vL 1, vN, vI 0, vN, vN, vN, vN] [] M1 Q) → vw X d 203 7 [vR 81, vI l1, vI (n : Int), vI (r : Int), w4, vN, vN, vN, vN, vN, vN, vN] [] M Q
  | 0, r, M, w4, hr, hR, f, hm, q => by
    have e : r = n := by omega
    subst e
    exact B_R_determinant_7 (fun _ => B_R_determinant_70 (q M hR f hm)) (fun z => by exfalso; omega)
  | w + 1, r, M, w4, hr, hR, f, hm, q => by
    have hn := h.1
    refine B_R_determinant_7 (fun z => by exfalso; omega) (fun _ => B_R_determinant_12 (LP_fill_row (s := 0) h (by omega) n M (by omega) hR f (fun r' s' h1 h2 => hm r' s' h1 (by omega)) (fun M1 y1 y2 y3 l4 => B_R_determinant_64 ?_)))
    rw [w32_i (by omega)]
    exact LP_fill h w (r + 1) M1 _ (by omega) y1 y2 y3 q
abbrev vD (n : Nat) (l1 l3 l5 l7 : Int) (w8 w9 w10 : vV) : List vV := [vR 81, vI l1, vI (n : Int), vL l3, vN, vL l5, vN, vI l7, w8, w9, w10, vN]
theorem LP_pivot {k : Nat} {l3 l5 : Int} {w9 w10 : vV} (hn : 2 ≤ n ∧ n ≤ 4) (hk : k < n) (hR : vRefs M) (q : ∀ p, k ≤ p → p ≤ n → (∀ r, k ≤ r → r < p → mt M r k = 0) → (p < n → mt M p k ≠ 0) → vw X d 203 119 (vD n l1 l3 l5 (k : Int) (vI (p : Int)) w9 w10) [] M Q) : ∀ (w p : Nat), p + w = n → k ≤ p → (∀ r, k ≤ r → r < p → mt M r k = 0) → vw X d 203 90 (vD n l1 l3 l5 (k : Int) (vI (p : Int)) w9 w10) [] M Q
  | 0, p, hp, hkp, hz => B_R_determinant_90 (fun _ => q p hkp (by omega) hz (fun z => by exfalso; omega)) (fun z => by exfalso; omega)
  | w + 1, p, hp, hkp, hz => by
    refine B_R_determinant_90 (fun z => by exfalso; omega) (fun _ => B_R_determinant_96 hR (by rw [ix4 (by omega) (by omega)]; omega) ?_ ?_) <;> rw [ix4 (by omega) (by omega), Int.toNat_natCast] <;> intro z
    · exact q p hkp (by omega) hz (fun _ => z)
    · refine B_R_determinant_113 ?_
      rw [w32_i (by omega)]
      refine LP_pivot hn hk hR q w (p + 1) (by omega) (by omega) (fun r h1 h2 => ?_)
      by_cases e : r = p
      · rw [e]; exact z
      · exact hz r h1 (by omega)
theorem LP_swap {k p : Nat} {l3 l5 : Int} (hn : 2 ≤ n ∧ n ≤ 4) (hk : k < n) (hp : p < n) (hkp : p ≠ k) : ∀ (w s : Nat) (M : vM) (w10 : vV), s + w = n → vRefs M → Fr s89 M0 M → (∀ r' s', r' < n → s' < n → mt M r' s' = if s' < s then mt M0 (if r' = p then k else if r' = k then p else r') s' else mt M0 r' s') → (∀ M1, vRefs M1 → Fr s89 M0 M1 → (∀ r' s', r' < n → s' < n → mt M1 r' s' = mt M0 (if r' = p then k else if r' = k then p else r') s') → ∀ l9 w10, vw X d 203 201 (vD n l1 l3 l5 (k : Int) (vI (p : Int)) (vI l9) w10) [] M1 Q) → vw X d 203 130 (vD n l1 l3 l5 (k : Int) (vI (p : Int)) (vI (s : Int)) w10) [] M Q
  | 0, s, M, w10, hs, hR, f, hm, q => B_R_determinant_130 (fun _ => q M hR f (fun r' s' h1 h2 => by rw [hm r' s' h1 h2, if_pos (by omega)]) _ _) (fun z => by exfalso; omega)
  | w + 1, s, M, w10, hs, hR, f, hm, q => by
    have i1 := ix4 (r := p) (s := s) (by omega) (by omega)
    have i2 := ix4 (r := k) (s := s) (by omega) (by omega)
    refine B_R_determinant_130 (fun z => by exfalso; omega) (fun _ => B_R_determinant_136 (fun z => by exfalso; omega) (fun _ => B_R_determinant_143 hR (by rw [i1]; omega) (by rw [i2]; omega) (by rw [i1]; omega) (by rw [i2]; omega) (fun hR2 => ?_)))
    rw [i1, i2, Int.toNat_natCast, Int.toNat_natCast] at hR2 ⊢
    rw [w32_i (by omega)]
    have e1 : M 89 (4 * p + s) = mt M0 p s := by have := hm p s hp (by omega); rw [if_neg (by omega)] at this; exact this
    have e2 : M 89 (4 * k + s) = mt M0 k s := by have := hm k s hk (by omega); rw [if_neg (by omega)] at this; exact this
    refine LP_swap hn hk hp hkp w (s + 1) _ _ (by omega) hR2 ((f.up rfl).up rfl) (fun r' s' h1 h2 => ?_) q
    rw [mt_up (by omega) (by omega)]
    by_cases a1 : r' = k ∧ s' = s
    · rw [if_pos a1, if_pos (by omega), e1, a1.1, a1.2, if_neg (by omega), if_pos rfl]
    · rw [if_neg a1, mt_up (by omega) (by omega)]
      by_cases a2 : r' = p ∧ s' = s
      · rw [if_pos a2, if_pos (by omega), e2, a2.1, a2.2, if_pos rfl]
      · rw [if_neg a2, hm r' s' h1 h2]
        by_cases a3 : s' < s
        · rw [if_pos a3, if_pos (show s' < s + 1 by omega)]
        · rw [if_neg a3]
          by_cases a4 : s' < s + 1
          · rw [if_pos a4, if_neg (by omega), if_neg (by omega)]
          · rw [if_neg a4]
/-- rows behind k: those before r, and in r the columns before s, are those of the next turn -/
def ElI (n : Nat) (G : Nat → Nat → Int) (k r s : Nat) (M : vM) : Prop := ∀ r' s', k ≤ r' → r' < n → k ≤ s' → s' < n → mt M r' s' = if k < r' ∧ k < s' ∧ (r' < r ∨ (r' = r ∧ s' < s)) then mn G (k + 1) r' s' else mn G k r' s'
theorem LP_el_row {k r : Nat} {l5 : Int} {l8 : Int} (hn : 2 ≤ n ∧ n ≤ 4) (hG : ∀ r s, r < n → s < n → bd (cb cc s) (G r s)) (hk : k + 1 < n) (hr : k < r ∧ r < n) (hb : mb G k ≠ 0) (hbb : bd 100000000 (mb G k)) : ∀ (w s : Nat) (M : vM), s + w = n → k < s → vRefs M → Fr s89 M0 M → ElI n G k r s M → (∀ M1, vRefs M1 → Fr s89 M0 M1 → ElI n G k (r + 1) (k + 1) M1 → ∀ w10, vw X d 203 313 (vD n l1 (mb G k) l5 (k : Int) (vI l8) (vI (r : Int)) (vI w10)) [] M1 Q) → vw X d 203 236 (vD n l1 (mb G k) l5 (k : Int) (vI l8) (vI (r : Int)) (vI (s : Int))) [] M Q
  | 0, s, M, hs, hks, hR, f, hm, q => B_R_determinant_236 (fun _ => q M hR f (fun r' s' h1 h2 h3 h4 => by
      rw [hm r' s' h1 h2 h3 h4]
      by_cases a : k < r' ∧ k < s' ∧ (r' < r ∨ (r' = r ∧ s' < s))
      · rw [if_pos a, if_pos (by omega)]
      · rw [if_neg a, if_neg (by omega)]) _) (fun z => by exfalso; omega)
  | w + 1, s, M, hs, hks, hR, f, hm, q => by
    have i1 := ix4 (r := r) (s := s) (by omega) (by omega)
    have i2 := ix4 (r := k) (s := k) (by omega) (by omega)
    have i3 := ix4 (r := r) (s := k) (by omega) (by omega)
    have i4 := ix4 (r := k) (s := s) (by omega) (by omega)
    have e1 : M 89 (4 * r + s) = mn G k r s := by have := hm r s (by omega) (by omega) (by omega) (by omega); rw [if_neg (by omega)] at this; exact this
    have e2 : M 89 (4 * k + k) = mn G k k k := by have := hm k k (by omega) (by omega) (by omega) (by omega); rw [if_neg (by omega)] at this; exact this
    have e3 : M 89 (4 * r + k) = mn G k r k := by have := hm r k (by omega) (by omega) (by omega) (by omega); rw [if_neg (by omega)] at this; exact this
    have e4 : M 89 (4 * k + s) = mn G k k s := by have := hm k s (by omega) (by omega) (by omega) (by omega); rw [if_neg (by omega)] at this; exact this
    have b1 := bd_m (mnr_b hn.2 hG (k := k) (r := r) (s := s) (by omega) (by omega) (by omega)) (mnr_b hn.2 hG (k := k) (r := k) (s := k) (by omega) (by omega) (by omega))
    have b2 := bd_m (mnr_b hn.2 hG (k := k) (r := r) (s := k) (by omega) (by omega) (by omega)) (mnr_b hn.2 hG (k := k) (r := k) (s := s) (by omega) (by omega) (by omega))
    have b3 := bd_s b1 b2
    have st := mn_step G (k := k) (by omega) r s
    refine B_R_determinant_236 (fun z => by exfalso; omega) (fun _ => B_R_determinant_242 hR (by rw [i1]; omega) (by rw [i2]; omega) (by rw [i3]; omega) (by rw [i4]; omega) hb (by rw [i1]; omega) (fun hR2 => ?_))
    rw [i1, i2, i3, i4, Int.toNat_natCast, Int.toNat_natCast, Int.toNat_natCast, Int.toNat_natCast, e1, e2, e3, e4, bd64 b1 (by decide), bd64 b2 (by decide), bd64 b3 (by decide), st, j_ldiv_x hb (bd_l hbb (by decide)) (by rw [← st]; exact bd_l b3 (by decide))] at hR2 ⊢
    rw [w32_i (by omega)]
    refine LP_el_row hn hG hk hr hb hbb w (s + 1) _ (by omega) (by omega) hR2 (f.up rfl) (fun r' s' h1 h2 h3 h4 => ?_) q
    rw [mt_up (by omega) (by omega)]
    by_cases a : r' = r ∧ s' = s
    · rw [if_pos a, if_pos (by omega), a.1, a.2]
    · rw [if_neg a, hm r' s' h1 h2 h3 h4]
      by_cases a2 : k < r' ∧ k < s' ∧ (r' < r ∨ (r' = r ∧ s' < s))
      · rw [if_pos a2, if_pos (by omega)]
      · rw [if_neg a2, if_neg (by omega)]
theorem LP_el {k : Nat} {l5 : Int} {l8 : Int} (hn : 2 ≤ n ∧ n ≤ 4) (hG : ∀ r s, r < n → s < n → bd (cb cc s) (G r s)) (hk : k + 1 < n) (hb : mb G k ≠ 0) (hbb : bd 100000000 (mb G k)) : ∀ (w r : Nat) (M : vM) (w10 : vV), r + w = n → k < r → vRefs M → Fr s89 M0 M → ElI n G k r (k + 1) M → (∀ M1, vRefs M1 → Fr s89 M0 M1 → ElI n G k n (k + 1) M1 → ∀ w9 w10, vw X d 203 319 (vD n l1 (mb G k) l5 (k : Int) (vI l8) (vI w9) w10) [] M1 Q) → vw X d 203 224 (vD n l1 (mb G k) l5 (k : Int) (vI l8) (vI (r : Int)) w10) [] M Q
  | 0, r, M, w10, hr, hkr, hR, f, hm, q => by
    have e : r = n := by omega
    rw [e] at hm
    exact B_R_determinant_224 (fun _ => q M hR f hm _ _) (fun z => by exfalso; omega)
  | w + 1, r, M, w10, hr, hkr, hR, f, hm, q => by
    refine B_R_determinant_224 (fun z => by exfalso; omega) (fun _ => B_R_determinant_230 ?_)
    rw [w32_i (x := (k : Int) + 1) (by omega)]
    refine LP_el_row (s := k + 1) hn hG hk (by omega) hb hbb (n - (k + 1)) M (by omega) (by omega) hR f hm (fun M1 y1 y2 y3 w10 => B_R_determinant_313 ?_)
    rw [w32_i (by omega)]
    exact LP_el hn hG hk hb hbb w (r + 1) M1 _ (by omega) (by omega) y1 y2 y3 q
theorem LP_det (hn : 2 ≤ n ∧ n ≤ 4) (q : ∀ M1, vRefs M1 → Fr s89 M0 M1 → Q (some (vL (detp n G0))) M1) : ∀ (w k : Nat) (M : vM) (G : Nat → Nat → Int) (sg : Int) (w8 w9 w10 : vV), k + w + 1 = n → vRefs M → Fr s89 M0 M → (sg = 1 ∨ sg = -1) → sg * detp n G = detp n G0 → (∀ r s, r < n → s < n → bd (cb cc s) (G r s)) → mb G k ≠ 0 → (∀ r s, k ≤ r → r < n → k ≤ s → s < n → mt M r s = mn G k r s) → vw X d 203 78 (vD n l1 (mb G k) sg (k : Int) w8 w9 w10) [] M Q
  | 0, k, M, G, sg, w8, w9, w10, hk, hR, f, hs, hd, hG, hb, hm => by
    have e1 : w32 ((n : Int) - 1) = (k : Int) := by rw [w32_i (by omega)]; omega
    have e2 : w32 (w32 (w32 (4 * w32 ((n : Int) - 1)) + (n : Int)) - 1) = ((4 * k + k : Nat) : Int) := by rw [e1, w32_i (x := 4 * (k : Int)) (by omega), w32_i (x := 4 * (k : Int) + (n : Int)) (by omega), w32_i (by omega)]; omega
    refine B_R_determinant_78 (fun _ => B_R_determinant_338 hR (by rw [e2]; omega) ?_) (fun z => by rw [e1] at z; exfalso; omega)
    have e3 : M 89 (4 * k + k) = detp n G := by
      have := hm k k (by omega) (by omega) (by omega) (by omega)
      rw [← mn_last G (n := n) (by omega), show n - 1 = k by omega]
      exact this
    have b := mnr_b hn.2 hG (k := k) (r := k) (s := k) (by omega) (by omega) (by omega)
    rw [← hm k k (by omega) (by omega) (by omega) (by omega), mt, e3] at b
    rw [e2, Int.toNat_natCast, e3, w64_i (by unfold bd at b; rcases hs with e | e <;> subst e <;> omega), hd]
    exact q M hR f
  | w + 1, k, M, G, sg, w8, w9, w10, hk, hR, f, hs, hd, hG, hb, hm => by
    have e1 : w32 ((n : Int) - 1) = (n : Int) - 1 := w32_i (by omega)
    refine B_R_determinant_78 (fun z => by rw [e1] at z; exfalso; omega) (fun _ => B_R_determinant_86 (LP_pivot (p := k) hn (by omega) hR (fun p h1 h2 h3 h4 => ?_) (n - k) (by omega) (Nat.le_refl k) (fun r h1 h2 => by exfalso; omega)))
    by_cases hpn : p = n
    · refine B_R_determinant_119 (fun z => by exfalso; omega) (fun _ => B_R_determinant_125 ?_)
      have z : detp n G = 0 := mn_zero G hn.2 (by omega) (fun r y1 y2 => by rw [← hm r k y1 y2 (by omega) (by omega)]; exact h3 r y1 (by omega)) hb
      rw [z, Int.mul_zero] at hd
      rw [hd]
      exact q M hR f
    · have hpl : p < n := by omega
      have hG' : ∀ r s, r < n → s < n → bd (cb cc s) (swp k p G r s) := fun r s y1 y2 => hG _ s (by split <;> (try split) <;> omega) y2
      have hb' : mb (swp k p G) k = mb G k := swp_mb (by omega) h1
      have hbb : bd 100000000 (mb G k) := by
        unfold mb
        by_cases e : k = 0
        · rw [if_pos e]; unfold bd; omega
        · rw [if_neg e]; exact mnr_b hn.2 hG (by omega) (by omega) (by omega)
      -- behind the change of rows
      have go : ∀ (M1 : vM) (sg' : Int) (w10 : vV), vRefs M1 → Fr s89 M0 M1 → (sg' = 1 ∨ sg' = -1) → sg' * detp n (swp k p G) = detp n G0 → (∀ r s, k ≤ r → r < n → k ≤ s → s < n → mt M1 r s = mn (swp k p G) k r s) → vw X d 203 224 (vD n l1 (mb G k) sg' (k : Int) (vI (p : Int)) (vI (w32 ((k : Int) + 1))) w10) [] M1 Q := fun M1 sg' w10 y1 y2 y3 y4 y5 => by
        rw [w32_i (by omega), ← hb']
        refine LP_el (r := k + 1) hn hG' (by omega) (by rw [hb']; exact hb) (by rw [hb']; exact hbb) (n - (k + 1)) M1 _ (by omega) (by omega) y1 y2 (fun r s z1 z2 z3 z4 => by rw [if_neg (by omega)]; exact y5 r s z1 z2 z3 z4) (fun M2 x1 x2 x3 w9 w10 => ?_)
        have i2 := ix4 (r := k) (s := k) (by omega) (by omega)
        have ep : mt M2 k k = mb (swp k p G) (k + 1) := by
          rw [x3 k k (by omega) (by omega) (by omega) (by omega), if_neg (by omega)]
          unfold mb
          rw [if_neg (by omega)]
          rfl
        refine B_R_determinant_319 x1 (by rw [i2]; omega) ?_
        rw [i2, Int.toNat_natCast, show M2 89 (4 * k + k) = mb (swp k p G) (k + 1) from ep, w32_i (by omega)]
        refine LP_det hn q w (k + 1) M2 (swp k p G) sg' _ _ _ (by omega) x1 x2 y3 y4 hG' ?_ (fun r s z1 z2 z3 z4 => by rw [x3 r s (by omega) z2 (by omega) z4, if_pos (by omega)])
        rw [← ep, x3 k k (by omega) (by omega) (by omega) (by omega), if_neg (by omega)]
        have hx := swp_mn (G := G) (k := k) (p := p) (j := k) (r := k) (s := k) (Nat.le_refl k) h1
        rcases hx with hx | hx
        · rw [hx]
          have h4' := h4 hpl
          rw [hm p k h1 hpl (by omega) (by omega)] at h4'
          by_cases e : k = p
          · rw [if_pos e, e]; rw [e] at h4'; exact h4'
          · rw [if_neg e, if_pos rfl]; exact h4'
        · omega
      refine B_R_determinant_119 (fun _ => B_R_determinant_127 ?_) (fun z => by exfalso; omega)
      by_cases e : p = k
      · have es : swp k p G = G := by
          funext r s
          unfold swp
          rw [e]
          by_cases y : r = k
          · rw [if_pos y, y]
          · rw [if_neg y, if_neg y]
        refine B_R_determinant_130 (fun z => by exfalso; omega) (fun _ => B_R_determinant_136 (fun _ => B_R_determinant_201 (fun _ => B_R_determinant_214 (go M sg _ hR f hs (by rw [es]; exact hd) (by rw [es]; exact hm))) (fun z => by exfalso; omega)) (fun z => by exfalso; omega))
      · refine LP_swap (M0 := M) (s := 0) hn (by omega) hpl e n M _ (by omega) hR Fr.refl (fun r' s' y1 y2 => by rw [if_neg (by omega)]) (fun M1 y1 y2 y3 l9 w10 => B_R_determinant_201 (fun z => by exfalso; omega) (fun _ => B_R_determinant_208 ?_))
        rw [w64_i (x := -sg) (by omega)]
        refine go M1 (-sg) _ y1 (f.trans y2) (by omega) ?_ (fun r s z1 z2 z3 z4 => ?_)
        · rw [swp_det hn.2 (by omega) hpl (by omega), ← hd, Int.neg_mul_neg]
        · rw [y3 r s z2 z4]
          have hx := swp_mn (G := G) (k := k) (p := p) (j := k) (r := r) (s := s) (Nat.le_refl k) h1
          rcases hx with hx | hx
          · rw [hx]
            exact hm _ s (by split <;> (try split) <;> omega) (by split <;> (try split) <;> omega) z3 z4
          · omega
theorem S_determinant (hR : vRefs M) (h : DtH n l1 G0 M) (hG : ∀ r s, r < n → s < n → bd (cb cc s) (G0 r s)) (q : ∀ M1, vRefs M1 → Fr s89 M M1 → Q (some (vL (detp n G0))) M1) : cq X (d + 1) 203 [vR 81, vI l1] M Q := by
  refine E_R_determinant (B_R_determinant_0 ?_)
  rw [h.2.2.1]
  refine LP_fill (r := 0) h n M _ (by omega) hR Fr.refl (fun r' s' _ h2 => by omega) (fun M1 y1 y2 y3 => ?_)
  exact LP_det (cc := cc) (k := 0) (G := G0) h.1 q (n - 1) M1 1 _ _ _ (by have := h.1; omega) y1 y2 (Or.inl rfl) (Int.one_mul _) hG (by unfold mb; rw [if_pos rfl]; decide) (fun r s _ h2 _ h4 => y3 r s h4 h2)
end RD
