/-! THE CLASS'S SOLVER: an exchange -/
section SX
variable {X : vX} {d : Nat} {M : vM} {Q : Option vV → vM → Prop} {n m r c : Nat} {A : Nat → Nat → Int} {C : Nat → Int} {B : Nat → Nat}
abbrev sSv (b j : Nat) : Prop := (b = 13 ∧ 1 ≤ j) ∨ (15 ≤ b ∧ b ≤ 27)
abbrev sRw (b : Nat) (_ : Nat) : Prop := 15 ≤ b ∧ b ≤ 27
theorem vm_up2 {M : vM} {a b k j : Nat} {x : Int} : vm_up M a k x b j = if b = a ∧ j = k then x else M b j := rfl
theorem vS0_row (h : r < 13) : vS0[15 + r]? = some (.inr (1, 5)) := by
  have : r = 0 ∨ r = 1 ∨ r = 2 ∨ r = 3 ∨ r = 4 ∨ r = 5 ∨ r = 6 ∨ r = 7 ∨ r = 8 ∨ r = 9 ∨ r = 10 ∨ r = 11 ∨ r = 12 := by omega
  rcases this with rfl | rfl | rfl | rfl | rfl | rfl | rfl | rfl | rfl | rfl | rfl | rfl | rfl <;> rfl
theorem vFree_row (h : r < 13) : vFree (15 + r) := by
  have e : ∀ q ∈ vRefT, q.1 < 15 ∨ 27 < q.1 := by decide +kernel
  refine ⟨fun z => ?_, fun q hq => by have := e q hq; omega⟩
  simp only [List.mem_cons, List.not_mem_nil, or_false] at z
  omega
/-- rows below i are new (but r), and the first q entries of row i -/
def ExR (n m r : Nat) (A : Nat → Nat → Int) (C : Nat → Int) (B B' : Nat → Nat) (i q : Nat) (M1 : vM) : Prop := ∀ i', i' < 1 + n + m → i' ≠ r → ∀ j, j ≤ n → M1 (15 + i') j = if i' < i ∨ (i' = i ∧ j < q) then lpE A C B' (ml n i') j else lpE A C B (ml n i') j
def ExL (n r : Nat) (A : Nat → Nat → Int) (C : Nat → Int) (B : Nat → Nat) (M1 : vM) : Prop := ∀ j, j ≤ n → M1 (15 + r) j = lpE A C B (ml n r) j
theorem lpE_X (hA : LpA n m A C) (hc : c < n) (hp : 0 < lpT A B (ml n r) c) (i : Nat) {j : Nat} (hj : j ≤ n) (hjc : j ≠ c + 1) : lpE A C B i j * lpT A B (ml n r) c - lpT A B i c * lpE A C B (ml n r) j = lpD A B * lpE A C (lpX B (ml n r) c) i j := by
  have hn := hA.1
  cases j with
  | zero => exact (lp_X0 (by omega) (by omega)).symm
  | succ j => exact (lp_XTj (by omega) (by omega) (by omega) (by omega)).symm
theorem lpE_c {i : Nat} : lpE A C (lpX B r c) i (c + 1) = lpE A C B i (c + 1) := lp_XT
theorem LP_exch_row (hA : LpA n m A C) (hb : LpB A C) (hS : LpS n m A B) (hS' : LpS n m A (lpX B (ml n r) c)) (hr : r < 1 + n + m) (hc : c < n) (hp : 0 < lpT A B (ml n r) c) {i : Nat} (hi : i < 1 + n + m) (hir : i ≠ r) : ∀ (w q : Nat) (M1 : vM), q + w = n + 1 → vRefs M1 → SvH n m B A M1 → ExR n m r A C B (lpX B (ml n r) c) i q M1 → ExL n r A C B M1 → Fr sRw M M1 → (∀ M1, vRefs M1 → SvH n m B A M1 → ExR n m r A C B (lpX B (ml n r) c) (i + 1) 0 M1 → ExL n r A C B M1 → Fr sRw M M1 → ∀ w6 w8, vw X d 94 118 [vR 13, vI (r : Int), vI ((c + 1 : Nat) : Int), vL (lpT A B (ml n r) c), vN, vI (i : Int), w6, vN, w8] [] M1 Q) → vw X d 94 57 [vR 13, vI (r : Int), vI ((c + 1 : Nat) : Int), vL (lpT A B (ml n r) c), vN, vI (i : Int), vL (lpT A B (ml n i) c), vN, vI (q : Int)] [] M1 Q
  | 0, q, M1, hw, hR, hH, hE, hL, f, k => by
    refine B_So_exchange_57 (fun _ => k M1 hR hH (fun i' h1 h2 j hj => ?_) hL f _ _) (fun z => by rw [hH.1] at z; exfalso; omega)
    rw [hE i' h1 h2 j hj]
    by_cases y : i' < i ∨ (i' = i ∧ j < q)
    · rw [if_pos y, if_pos (by omega)]
    · rw [if_neg y, if_neg (by omega)]
  | w + 1, q, M1, hw, hR, hH, hE, hL, f, k => by
    have hn := hA.1
    have hm := hA.2.1
    refine B_So_exchange_57 (fun z => by rw [hH.1] at z; exfalso; omega) (fun _ => B_So_exchange_66 (fun z => B_So_exchange_112 ?_) (fun z => ?_))
    · rw [w32_i (by omega)]
      refine LP_exch_row hA hb hS hS' hr hc hp hi hir w (q + 1) M1 (by omega) hR hH (fun i' h1 h2 j hj => ?_) hL f k
      rw [hE i' h1 h2 j hj]
      by_cases y : i' = i ∧ j = q
      · rw [if_neg (by omega), if_pos (by omega), show j = c + 1 by omega]
        exact lpE_c.symm
      · by_cases y2 : i' < i ∨ (i' = i ∧ j < q)
        · rw [if_pos y2, if_pos (by omega)]
        · rw [if_neg y2, if_neg (by omega)]
    · have e1 : M1 (15 + i) q = lpE A C B (ml n i) q := by rw [hE i hi hir q (by omega), if_neg (by omega)]
      have e2 : M1 (15 + r) q = lpE A C B (ml n r) q := hL q (by omega)
      have hx := lpE_X (B := B) (r := r) hA hc hp (ml n i) (j := q) (by omega) (by omega)
      have b1 := bd_m (lp_bE hb hS hn (ml n i) (show q ≤ n by omega)) (lp_bTw hb hS (ml n r) (show c < 4 by omega))
      have b2 := bd_m (lp_bTw hb hS (ml n i) (show c < 4 by omega)) (lp_bE hb hS hn (ml n r) (show q ≤ n by omega))
      have b3 := bd_s b1 b2
      have b4 := lp_bE hb hS' hn (ml n i) (show q ≤ n by omega)
      have b5 := lp_bD (SvS_B hb hS)
      have hD := hS.1
      refine B_So_exchange_72 hR (by omega) (by omega) (by omega) (by omega) (by omega) (by rw [hH.2.2]; omega) (by omega) (fun hR2 => ?_)
      have ev : j_ldiv (w64 ((w64 ((M1 (15 + i) q) * lpT A B (ml n r) c)) - (w64 (lpT A B (ml n i) c * (M1 (15 + r) q))))) (M1 13 3) = lpE A C (lpX B (ml n r) c) (ml n i) q := by
        rw [e1, e2, hH.2.2, bd64 b1 (by decide), bd64 b2 (by decide), bd64 b3 (by decide)]
        rw [j_ldiv_eq (by unfold bd at b3; omega) (by unfold bd at b5; omega), hx]
        exact Int.mul_tdiv_cancel_left _ (by omega)
      simp only [Int.toNat_natCast, ev] at hR2 ⊢
      rw [w32_i (by omega)]
      refine LP_exch_row hA hb hS hS' hr hc hp hi hir w (q + 1) _ (by omega) hR2 ?_ (fun i' h1 h2 j hj => ?_) (fun j hj => ?_) (f.up (by omega)) k
      · refine ⟨?_, ?_, ?_⟩
        · rw [vm_up2, if_neg (by omega)]; exact hH.1
        · rw [vm_up2, if_neg (by omega)]; exact hH.2.1
        · rw [vm_up2, if_neg (by omega)]; exact hH.2.2
      · rw [vm_up2]
        by_cases y : i' = i ∧ j = q
        · rw [if_pos (by omega), if_pos (by omega), y.1, y.2]
        · rw [if_neg (by omega), hE i' h1 h2 j hj]
          by_cases y2 : i' < i ∨ (i' = i ∧ j < q)
          · rw [if_pos y2, if_pos (by omega)]
          · rw [if_neg y2, if_neg (by omega)]
      · rw [vm_up2, if_neg (by omega)]
        exact hL j hj
theorem LP_exch_rows (hA : LpA n m A C) (hb : LpB A C) (hS : LpS n m A B) (hS' : LpS n m A (lpX B (ml n r) c)) (hr : r < 1 + n + m) (hc : c < n) (hp : 0 < lpT A B (ml n r) c) : ∀ (w i : Nat) (M1 : vM) (w6 w8 : vV), i + w = 1 + n + m → vRefs M1 → SvH n m B A M1 → ExR n m r A C B (lpX B (ml n r) c) i 0 M1 → ExL n r A C B M1 → Fr sRw M M1 → (∀ M1, vRefs M1 → SvH n m B A M1 → ExR n m r A C B (lpX B (ml n r) c) (1 + n + m) 0 M1 → Fr sRw M M1 → ∀ w6 w8, vw X d 94 127 [vR 13, vI (r : Int), vI ((c + 1 : Nat) : Int), vL (lpT A B (ml n r) c), vN, vI 0, w6, vN, w8] [] M1 Q) → vw X d 94 28 [vR 13, vI (r : Int), vI ((c + 1 : Nat) : Int), vL (lpT A B (ml n r) c), vN, vI (i : Int), w6, vN, w8] [] M1 Q
  | 0, i, M1, w6, w8, hw, hR, hH, hE, hL, f, k => by
    refine B_So_exchange_28 (fun _ => B_So_exchange_124 (k M1 hR hH ?_ f _ _)) (fun z => by rw [hH.2.1] at z; exfalso; omega)
    rw [show i = 1 + n + m by omega] at hE
    exact hE
  | w + 1, i, M1, w6, w8, hw, hR, hH, hE, hL, f, k => by
    have hn := hA.1
    have hm := hA.2.1
    refine B_So_exchange_28 (fun z => by rw [hH.2.1] at z; exfalso; omega) (fun _ => B_So_exchange_37 (fun z => B_So_exchange_118 ?_) (fun z => B_So_exchange_43 hR (by omega) (by omega) ?_))
    · rw [w32_i (by omega)]
      refine LP_exch_rows hA hb hS hS' hr hc hp w (i + 1) M1 _ _ (by omega) hR hH (fun i' h1 h2 j hj => ?_) hL f k
      rw [hE i' h1 h2 j hj]
      by_cases y : i' < i ∨ (i' = i ∧ j < 0)
      · rw [if_pos y, if_pos (by omega)]
      · rw [if_neg y, if_neg (by omega)]
    · have e1 : M1 (15 + i) (c + 1) = lpT A B (ml n i) c := by rw [hE i (by omega) (by omega) (c + 1) (by omega), if_neg (by omega)]; rfl
      rw [Int.toNat_natCast, Int.toNat_natCast, e1]
      refine LP_exch_row hA hb hS hS' hr hc hp (by omega) (by omega) (n + 1) 0 M1 (by omega) hR hH hE hL f (fun M2 y1 y2 y3 y4 y5 w6 w8 => B_So_exchange_118 ?_)
      rw [w32_i (by omega)]
      exact LP_exch_rows hA hb hS hS' hr hc hp w (i + 1) M2 _ _ (by omega) y1 y2 y3 y4 y5 k
theorem LP_exch_line (hA : LpA n m A C) (hr : r < 1 + n + m) (hc : c < n) (hp : 0 < lpT A B (ml n r) c) : ∀ (w q : Nat) (M1 : vM) (w6 w8 : vV), q + w = n + 1 → vRefs M1 → SvH n m B A M1 → (∀ j, j < q → M1 (15 + r) j = if j = c + 1 then lpT A B (ml n r) c else 0) → Fr (fun b _ => b = 15 + r) M M1 → (∀ M1, vRefs M1 → SvH n m (lpX B (ml n r) c) A M1 → (∀ j, j ≤ n → M1 (15 + r) j = if j = c + 1 then lpT A B (ml n r) c else 0) → Fr (fun b j => (b = 13 ∧ 1 ≤ j) ∨ b = 15 + r) M M1 → Q none M1) → vw X d 94 127 [vR 13, vI (r : Int), vI ((c + 1 : Nat) : Int), vL (lpT A B (ml n r) c), vN, vI (q : Int), w6, vN, w8] [] M1 Q
  | 0, q, M1, w6, w8, hw, hR, hH, hE, f, k => by
    have hn := hA.1
    refine B_So_exchange_127 (fun _ => B_So_exchange_162 hR (fun hR2 => k _ hR2 ⟨?_, ?_, ?_⟩ (fun j hj => ?_) ((f.mono (fun b j y => Or.inr y)).up (Or.inl ⟨rfl, by decide⟩)))) (fun z => by rw [hH.1] at z; exfalso; omega)
    · rw [vm_up2, if_neg (by omega)]; exact hH.1
    · rw [vm_up2, if_neg (by omega)]; exact hH.2.1
    · rw [vm_up2, if_pos (by omega)]; exact (lp_XD (by omega)).symm
    · rw [vm_up2, if_neg (by omega)]; exact hE j (by omega)
  | w + 1, q, M1, w6, w8, hw, hR, hH, hE, f, k => by
    have hn := hA.1
    have hm := hA.2.1
    have hq0 : vS0[15 + r]? = some (.inr (1, 5)) := by
      have : r < 13 := by omega
      exact vS0_row this
    have hq1 : vFree (15 + r) := vFree_row (by omega)
    have fin : ∀ x : Int, x = (if q = c + 1 then lpT A B (ml n r) c else 0) → vRefs (vm_up M1 (15 + r) q x) → vw X d 94 127 [vR 13, vI (r : Int), vI ((c + 1 : Nat) : Int), vL (lpT A B (ml n r) c), vN, vI (w32 ((q : Int) + 1)), w6, vN, w8] [] (vm_up M1 (15 + r) q x) Q := fun x hx hR2 => by
      rw [w32_i (by omega)]
      refine LP_exch_line hA hr hc hp w (q + 1) _ _ _ (by omega) hR2 ⟨?_, ?_, ?_⟩ (fun j hj => ?_) (f.up rfl) k
      · rw [vm_up2, if_neg (by omega)]; exact hH.1
      · rw [vm_up2, if_neg (by omega)]; exact hH.2.1
      · rw [vm_up2, if_neg (by omega)]; exact hH.2.2
      · rw [vm_up2]
        by_cases y : j = q
        · rw [if_pos (by omega), y]; exact hx
        · rw [if_neg (by omega)]; exact hE j (by omega)
    refine B_So_exchange_127 (fun z => by rw [hH.1] at z; exfalso; omega) (fun _ => B_So_exchange_136 hR (by omega) (fun z => ?_) (fun z => ?_))
    · rw [Int.toNat_natCast]
      refine B_So_exchange_154 hq0 hq1 hR (by omega) (fun hR2 => ?_)
      rw [Int.toNat_natCast] at hR2 ⊢
      exact fin 0 (by rw [if_neg (by omega)]) hR2
    · rw [Int.toNat_natCast]
      refine B_So_exchange_150 hq0 hq1 hR (by omega) (fun hR2 => ?_)
      rw [Int.toNat_natCast] at hR2 ⊢
      exact fin _ (by rw [if_pos (by omega)]) hR2
theorem S_exchange (hR : vRefs M) (hA : LpA n m A C) (hb : LpB A C) (hS : LpS n m A B) (hS' : LpS n m A (lpX B (ml n r) c)) (hT : SvT n m A C B M) (hr : r < 1 + n + m) (hc : c < n) (hp : 0 < lpT A B (ml n r) c) (q : ∀ M1, vRefs M1 → SvT n m A C (lpX B (ml n r) c) M1 → Fr sSv M M1 → Q none M1) : cq X (d + 1) 94 [vR 13, vI (r : Int), vI ((c + 1 : Nat) : Int)] M Q := by
  have hn := hA.1
  have hm := hA.2.1
  have e1 : M (15 + r) (c + 1) = lpT A B (ml n r) c := hT.2 r hr (c + 1) (by omega)
  refine E_So_exchange (B_So_exchange_0 hR (by omega) (by omega) (fun z => by rw [hT.1.2.2] at z; have := hS.1; exfalso; omega) (fun _ => ?_))
  rw [Int.toNat_natCast, Int.toNat_natCast, e1]
  refine B_So_exchange_18 (fun _ => B_So_exchange_25 ?_) (fun z => by exfalso; omega)
  refine LP_exch_rows (M := M) (i := 0) hA hb hS hS' hr hc hp (1 + n + m) M _ _ (by omega) hR hT.1 (fun i' h1 h2 j hj => ?_) (fun j hj => hT.2 r hr j hj) Fr.refl (fun M1 y1 y2 y3 y4 w6 w8 => ?_)
  · rw [if_neg (by omega)]; exact hT.2 i' h1 j hj
  · refine LP_exch_line (M := M1) hA hr hc hp (n + 1) 0 M1 _ _ (by omega) y1 y2 (fun j hj => by omega) Fr.refl (fun M2 z1 z2 z3 z4 => q M2 z1 ⟨z2, fun i hi j hj => ?_⟩ ((y4.mono (fun b j y => Or.inr y)).trans (z4.mono (fun b j y => by show (b = 13 ∧ 1 ≤ j) ∨ _; omega))))
    by_cases e : i = r
    · rw [e, z3 j hj]
      have eX : lpX B (ml n r) c c = ml n r := if_pos rfl
      cases j with
      | zero =>
        rw [if_neg (by omega)]
        show 0 = lp0 A C (lpX B (ml n r) c) (ml n r)
        have := lp_0B (A := A) (C := C) (B := lpX B (ml n r) c) (j := c) (by omega)
        rw [eX] at this
        exact this.symm
      | succ j =>
        show _ = lpT A (lpX B (ml n r) c) (ml n r) j
        have := lp_TB (A := A) (B := lpX B (ml n r) c) (j := c) (k := j) (by omega) (by omega)
        rw [eX] at this
        rw [this, lp_XD (by omega)]
        by_cases y : j = c
        · rw [if_pos (by omega), if_pos y.symm]
        · rw [if_neg (by omega), if_neg (fun z => y z.symm)]
    · rw [z4 (15 + i) j (by omega), y3 i hi e j hj, if_pos (by omega)]
end SX
