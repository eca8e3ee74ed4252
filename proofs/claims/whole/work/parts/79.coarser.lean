/-! COARSER -/
section CO
variable {X : vX} {d : Nat} {M M0 M1 : vM} {Q : Option vV → vM → Prop} {a w n : Nat} {a0 a1 a2 a3 x : Int} {B : Nat → Nat}
theorem LP_readsJoins (hx : 0 ≤ x ∧ x < 2147483648) (hn : 2 ≤ n ∧ n ≤ 4) (h0 : M0 1 0 = (n : Int)) (q1 : ∀ M1, vRefs M1 → Fr (fun b _ => b = 80) M0 M1 → (∀ k, k < n → dg x k < (n : Int)) → (∀ k, k < n → M1 80 k = dg x k) → Q (some (vI 1)) M1) (q2 : ∀ M1, vRefs M1 → Fr (fun b _ => b = 80) M0 M1 → (∃ k, k < n ∧ ¬ dg x k < (n : Int)) → Q (some (vI 0)) M1) : ∀ (m k : Nat) (M : vM), k + m = n → vRefs M → Fr (fun b _ => b = 80) M0 M → (∀ j, j < k → dg x j < (n : Int)) → (∀ j, j < k → M 80 j = dg x j) → vw X (d + 1) 177 20 [vR 0, vI x, vI (n : Int), vI (k : Int)] [] M Q
  | 0, k, M, hk, hR, f, h1, h2 => by
    have e : k = n := by omega
    subst e
    exact B_X_readsJoins_20 (fun _ => B_X_readsJoins_63 (q1 M hR f h1 h2)) (fun z => by exfalso; omega)
  | m + 1, k, M, hk, hR, f, h1, h2 => by
    have ed : j_iand (j_iushr x (w32 (4 * (k : Int)))) 15 = dg x k := by rw [dg_u hx (by omega), dg_i (by omega), Int.toNat_natCast]
    have er := dg_r x k
    refine B_X_readsJoins_20 (fun z => by exfalso; omega) (fun _ => B_X_readsJoins_25 hR (by omega) (by omega) (fun hR2 => ?_))
    rw [ed, Int.toNat_natCast] at hR2 ⊢
    rw [show (vm_up M 80 k (dg x k)) 80 k = dg x k by rw [vm_up2, if_pos ⟨rfl, rfl⟩]]
    have f2 : Fr (fun b _ => b = 80) M0 (vm_up M 80 k (dg x k)) := f.up rfl
    have e0 : vm_up M 80 k (dg x k) 1 0 = (n : Int) := by rw [f2 1 0 (by omega)]; exact h0
    refine S_isSight (B_X_readsJoins_52 (fun z => B_X_readsJoins_57 ?_) (fun z => B_X_readsJoins_55 (q2 _ hR2 f2 ⟨k, by omega, fun y => ?_⟩)))
    · have hd : dg x k < (n : Int) := by
        by_cases y : dg x k < (n : Int)
        · exact y
        · exact absurd (if_neg (by rw [e0]; omega)) z
      rw [w32_i (by omega)]
      refine LP_readsJoins hx hn h0 q1 q2 m (k + 1) _ (by omega) hR2 f2 (fun j hj => ?_) (fun j hj => ?_)
      · by_cases e : j = k
        · rw [e]; exact hd
        · exact h1 j (by omega)
      · rw [vm_up2]
        by_cases e : j = k
        · rw [if_pos ⟨rfl, e⟩, e]
        · rw [if_neg (by omega)]; exact h2 j (by omega)
    · rw [if_pos (by rw [e0]; omega)] at z
      omega
theorem S_readsJoins (hR : vRefs M) (hx : -2147483648 ≤ x ∧ x < 2147483648) (hn : 2 ≤ n ∧ n ≤ 4) (h0 : M 1 0 = (n : Int)) (q1 : ∀ M1, vRefs M1 → Fr (fun b _ => b = 80) M M1 → 0 ≤ x → j_ishr x (w32 (4 * (n : Int))) = 0 → (∀ k, k < n → dg x k < (n : Int)) → (∀ k, k < n → M1 80 k = dg x k) → Q (some (vI 1)) M1) (q2 : ∀ M1, vRefs M1 → Fr (fun b _ => b = 80) M M1 → (x < 0 ∨ j_ishr x (w32 (4 * (n : Int))) ≠ 0 ∨ ∃ k, k < n ∧ ¬ dg x k < (n : Int)) → Q (some (vI 0)) M1) : cq X (d + 2) 177 [vR 0, vI x] M Q := by
  refine E_X_readsJoins (B_X_readsJoins_0 hR (E_Ac_howManySights (B_Ac_howManySights_0 ?_)))
  rw [h0]
  by_cases h : x < 0
  · exact B_X_readsJoins_7 (fun z => absurd z (j_shr_neg (by omega) (by rw [w32_i (by omega)]; omega))) (fun _ => B_X_readsJoins_16 (q2 M hR Fr.refl (Or.inl h)))
  · have e := dg_u (x := x) (i := (n : Int)) (by omega) (by omega)
    refine B_X_readsJoins_7 (fun z => B_X_readsJoins_18 ?_) (fun z => B_X_readsJoins_16 (q2 M hR Fr.refl (Or.inr (Or.inl (by rw [← e]; exact z)))))
    exact LP_readsJoins (k := 0) (by omega) hn h0 (fun M1 y1 y2 y3 y4 => q1 M1 y1 y2 (by omega) (by rw [← e]; exact z) y3 y4) (fun M1 y1 y2 y3 => q2 M1 y1 y2 (Or.inr (Or.inr y3))) n M (by omega) hR Fr.refl (fun j hj => by exfalso; omega) (fun j hj => by exfalso; omega)
/-- the joined chances -/
def jto (x : Int) (k : Nat) : Nat := (dg x k).toNat
abbrev s83 (b j : Nat) : Prop := b = 83 ∧ 8 ≤ j % 12
def CoI (n w : Nat) (x : Int) (M0 : vM) (R : Nat) (M : vM) : Prop := ∀ b s, b < R → s < 4 → M 83 (12 * b + 8 + s) = js (jto x) (pch M0 b w) n s
abbrev vCr (a w : Nat) (x a3 l5 : Int) (w6 : vV) : List vV := [vR 81, vI (a : Int), vI (w : Int), vI x, vI a3, vI l5, w6]
theorem ix8 {b s : Nat} (hb : b < 4) (hs : s < 4) : w32 (w32 (w32 (12 * (b : Int)) + 8) + (s : Int)) = ((12 * b + 8 + s : Nat) : Int) := by rw [w32_i (x := 12 * (b : Int)) (by omega), w32_i (x := 12 * (b : Int) + 8) (by omega), w32_i (by omega)]; omega
theorem LP_co_zero {b : Nat} (hb : b < 4) {R : Nat} (hRb : R ≤ b) : ∀ (m s : Nat) (M : vM), s + m = 4 → vRefs M → Fr s83 M0 M → CoI n w x M0 R M → (∀ j, j < s → M 83 (12 * b + 8 + j) = 0) → (∀ M1, vRefs M1 → Fr s83 M0 M1 → CoI n w x M0 R M1 → (∀ j, j < 4 → M1 83 (12 * b + 8 + j) = 0) → vw X d 220 130 (vCr a w x a3 (b : Int) (vI 0)) [] M1 Q) → vw X d 220 98 (vCr a w x a3 (b : Int) (vI (s : Int))) [] M Q
  | 0, s, M, hs, hR, f, hI, hz, q => B_R_coarser_98 (fun _ => B_R_coarser_127 (q M hR f hI (fun j hj => hz j (by omega)))) (fun z => by exfalso; omega)
  | m + 1, s, M, hs, hR, f, hI, hz, q => by
    have i1 := ix8 (b := b) (s := s) hb (by omega)
    refine B_R_coarser_98 (fun z => by exfalso; omega) (fun _ => B_R_coarser_104 hR (by rw [i1]; omega) (fun hR2 => ?_))
    rw [i1, Int.toNat_natCast] at hR2 ⊢
    clear i1
    rw [w32_i (by omega)]
    refine LP_co_zero hb hRb m (s + 1) _ (by omega) hR2 (f.up ⟨rfl, by omega⟩) (fun c k h1 h2 => ?_) (fun j hj => ?_) q
    · rw [vm_up2, if_neg (by omega)]; exact hI c k h1 h2
    · rw [vm_up2]
      by_cases e : j = s
      · rw [if_pos (by omega)]
      · rw [if_neg (by omega)]; exact hz j (by omega)
theorem LP_co_add (hA0 : RA M0) (hn : 2 ≤ n ∧ n ≤ 4) (h0 : M0 1 0 = (n : Int)) (hw : w < 2) (hto : ∀ k, k < n → dg x k < (n : Int)) {b : Nat} (hb : b < 4) {R : Nat} (hRb : R ≤ b) : ∀ (m s : Nat) (M : vM), s + m = n → vRefs M → Fr s83 M0 M → CoI n w x M0 R M → (∀ j, j < 4 → M 83 (12 * b + 8 + j) = js (jto x) (pch M0 b w) s j) → (∀ M1, vRefs M1 → Fr s83 M0 M1 → CoI n w x M0 R M1 → (∀ j, j < 4 → M1 83 (12 * b + 8 + j) = js (jto x) (pch M0 b w) n j) → ∀ l6, vw X (d + 1) 220 180 (vCr a w x a3 (b : Int) (vI l6)) [] M1 Q) → vw X (d + 1) 220 130 (vCr a w x a3 (b : Int) (vI (s : Int))) [] M Q
  | 0, s, M, hs, hR, f, hI, hz, q => by
    have e0 : M 81 0 = (n : Int) := by rw [f 81 0 (by omega), hA0.2.1]; exact h0
    have e : s = n := by omega
    subst e
    exact B_R_coarser_130 (fun _ => q M hR f hI hz _) (fun z => by exfalso; omega)
  | m + 1, s, M, hs, hR, f, hI, hz, q => by
    have e0 : M 81 0 = (n : Int) := by rw [f 81 0 (by omega), hA0.2.1]; exact h0
    have ed : j_iand (j_ishr x (w32 (4 * (s : Int)))) 15 = ((jto x s : Nat) : Int) := by
      have := dg_r x s
      rw [dg_i (by omega), Int.toNat_natCast]
      unfold jto
      omega
    have hj : jto x s < 4 := by
      have := dg_r x s
      have := hto s (by omega)
      unfold jto
      omega
    have i1 : Unit → _ := fun _ => ix8 (b := b) (s := jto x s) hb hj
    have c := hA0.2.2.2.2.2.2.2.2.2.1 b w s hb hw (by omega)
    have cp : pch M0 b w s = M0 (4 + (2 * b + w)) s := by unfold pch; rw [if_pos ⟨hb, hw⟩]
    have cr : a_rc M (b : Int) (w : Int) (s : Int) = pch M0 b w s := by
      rw [a_rc, Int.toNat_natCast, Int.toNat_natCast, Int.toNat_natCast, f 83 _ (by omega), c.1, cp]
    have jr : 0 ≤ js (jto x) (pch M0 b w) s (jto x s) ∧ js (jto x) (pch M0 b w) s (jto x s) ≤ 48 := by
      have h1 := js_p (to := jto x) (v := pch M0 b w) (s := jto x s) s (fun i hi => by
        have := hA0.2.2.2.2.2.2.2.2.2.1 b w i hb hw (by omega)
        unfold pch
        rw [if_pos ⟨hb, hw⟩]
        exact this.2.1)
      have h2 := js_r (to := jto x) (v := pch M0 b w) (s := jto x s) (b := 12) (by omega) s (fun i hi => by
        have := hA0.2.2.2.2.2.2.2.2.2.1 b w i hb hw (by omega)
        unfold pch
        rw [if_pos ⟨hb, hw⟩]
        unfold bd
        omega)
      unfold bd at h2
      omega
    refine B_R_coarser_130 (fun z => by exfalso; omega) (fun _ => B_R_coarser_139 hR (by rw [ed, i1 ()]; omega) ?_)
    rw [ed, i1 (), Int.toNat_natCast]
    refine S_R_chance hR (by omega) (by omega) (by omega) ?_
    rw [cr]
    refine B_R_coarser_172 hR (by omega) (fun hR2 => ?_)
    rw [Int.toNat_natCast, hz _ hj, w32_i (x := js (jto x) (pch M0 b w) s (jto x s) + pch M0 b w s) (by rw [cp]; omega)] at hR2 ⊢
    rw [w32_i (by omega)]
    refine LP_co_add hA0 hn h0 hw hto hb hRb m (s + 1) _ (by omega) hR2 (f.up ⟨rfl, by omega⟩) (fun c k h1 h2 => ?_) (fun j hj2 => ?_) q
    · rw [vm_up2, if_neg (by omega)]; exact hI c k h1 h2
    · rw [vm_up2, js]
      by_cases e : jto x s = j
      · rw [if_pos (by omega), if_pos e, e]
      · rw [if_neg (by omega), if_neg e, hz j hj2]; omega
theorem LP_co_all (hA0 : RA M0) (hn : 2 ≤ n ∧ n ≤ 4) (h0 : M0 1 0 = (n : Int)) (hw : w < 2) (hto : ∀ k, k < n → dg x k < (n : Int)) : ∀ (m b : Nat) (M : vM) (w6 : vV), (b : Int) + m = M0 1 4 → vRefs M → Fr s83 M0 M → CoI n w x M0 b M → (∀ M1, vRefs M1 → Fr s83 M0 M1 → CoI n w x M0 (b + m) M1 → ∀ l5 w6, vw X (d + 1) 220 186 (vCr a w x a3 l5 w6) [] M1 Q) → vw X (d + 1) 220 86 (vCr a w x a3 (b : Int) w6) [] M Q
  | 0, b, M, w6, hb, hR, f, hI, q => by
    have e1 : M 81 1 = M0 1 4 := by rw [f 81 1 (by omega)]; exact hA0.2.2.2.1
    exact B_R_coarser_86 (fun _ => q M hR f hI _ _) (fun z => by exfalso; omega)
  | m + 1, b, M, w6, hb, hR, f, hI, q => by
    have e1 : M 81 1 = M0 1 4 := by rw [f 81 1 (by omega)]; exact hA0.2.2.2.1
    have h4 := hA0.2.2.1
    have hb4 : b < 4 := by omega
    refine B_R_coarser_86 (fun z => by exfalso; omega) (fun _ => B_R_coarser_95 (LP_co_zero (s := 0) hb4 (Nat.le_refl b) 4 M (by omega) hR f hI (fun j hj => by exfalso; omega) (fun M1 y1 y2 y3 y4 => ?_)))
    refine LP_co_add (s := 0) hA0 hn h0 hw hto hb4 (Nat.le_refl b) n M1 (by omega) y1 y2 y3 (fun j hj => by rw [y4 j hj]; rfl) (fun M2 z1 z2 z3 z4 l6 => B_R_coarser_180 ?_)
    rw [w32_i (by omega)]
    refine LP_co_all hA0 hn h0 hw hto m (b + 1) M2 _ (by omega) z1 z2 (fun c s h1 h2 => ?_) (fun M3 v1 v2 v3 => q M3 v1 v2 (by rw [show b + (m + 1) = b + 1 + m by omega]; exact v3))
    by_cases e : c = b
    · rw [e]; exact z4 s h2
    · exact z3 c s (by omega) h2
theorem LP_co_sights (hr : Rel M) (hn : 2 ≤ n ∧ n ≤ 4) (h0 : M 1 0 = (n : Int)) (q1 : (∀ k, k < n → dg x k < (n : Int)) → ∀ l5, vw X (d + 2) 220 83 (vCr a w x a3 l5 vN) [] M Q) (q2 : (¬ ∀ k, k < n → dg x k < (n : Int)) → Q (some (vL (-9223372036854775808))) M) : ∀ (m k : Nat), k + m = n → (∀ j, j < k → dg x j < (n : Int)) → vw X (d + 2) 220 48 (vCr a w x a3 (k : Int) vN) [] M Q
  | 0, k, hk, h => by
    have e0 : M 81 0 = (n : Int) := by rw [hr.2.1.2.1]; exact h0
    exact B_R_coarser_48 (fun _ => q1 (fun j hj => h j (by omega)) _) (fun z => by exfalso; omega)
  | m + 1, k, hk, h => by
    have e0 : M 81 0 = (n : Int) := by rw [hr.2.1.2.1]; exact h0
    have er := dg_r x k
    refine B_R_coarser_48 (fun z => by exfalso; omega) (fun _ => B_R_coarser_57 ?_)
    rw [dg_i (by omega), Int.toNat_natCast]
    refine S_R_isSight hr (B_R_coarser_70 (fun z => B_R_coarser_77 ?_) (fun z => B_R_coarser_73 (q2 (fun y => ?_))))
    · have hd : dg x k < (n : Int) := by
        by_cases y : dg x k < (n : Int)
        · exact y
        · exact absurd (if_neg (by rw [h0]; omega)) z
      rw [w32_i (by omega)]
      refine LP_co_sights hr hn h0 q1 q2 m (k + 1) (by omega) (fun j hj => ?_)
      by_cases e : j = k
      · rw [e]; exact hd
      · exact h j (by omega)
    · have := y k (by omega)
      rw [if_pos (by rw [h0]; omega)] at z
      omega
theorem op_coarser (hr : Rel M) (hx : -2147483648 ≤ a2 ∧ a2 < 2147483648) : cq X (d + 40) 141 [vR 0, vI a0, vI a1, vI a2, vI a3] M (fun v M1 => cq X (d + 40) 220 [vR 81, vI a0, vI a1, vI a2, vI a3] M1 (fun v2 M2 => v2 = v ∧ Rel M2)) := by
  have hn := nn_r hr.2.1
  by_cases h0 : 0 ≤ a0 ∧ a0 < M 1 4
  · by_cases h1 : 0 ≤ a1 ∧ a1 ≤ 1
    · obtain ⟨a, rfl⟩ : ∃ k : Nat, a0 = (k : Int) := ⟨a0.toNat, by omega⟩
      obtain ⟨w, rfl⟩ : ∃ k : Nat, a1 = (k : Int) := ⟨a1.toNat, by omega⟩
      have hw : w < 2 := by omega
      have hw' : w + 1 = 1 ∨ w + 1 = 2 ∨ w + 1 = 3 := by omega
      have f80 : ∀ {M1 : vM}, Fr (fun b _ => b = 80) M M1 → Fr sTmp M M1 := fun f => f.mono (fun b j y => by unfold sTmp; omega)
      refine E_X_coarser ?_
      refine B_X_coarser_0 hr.1 ?_
      refine S_isAct ?_
      refine B_X_coarser_8 (fun q9 => by rw [if_pos h0] at q9; omega) (fun _ => ?_)
      refine B_X_coarser_11 ?_
      refine S_isWorld ?_
      refine B_X_coarser_15 (fun q9 => by rw [if_pos h1] at q9; omega) (fun _ => ?_)
      refine B_X_coarser_18 ?_
      refine S_readsJoins (d := d + 37) hr.1 hx hn.1 hn.2.2.1 (fun M1 y1 y2 y3 y4 y5 y6 => B_X_coarser_23 (fun _ => ?_) (fun z => by exfalso; omega)) (fun M1 y1 y2 y3 => B_X_coarser_23 (fun z => absurd rfl z) (fun _ => B_X_coarser_26 ?_))
      · have hr1 := Rel_fr (f80 y2) hr
        obtain ⟨en, em, e2, e5⟩ := nn_fr (f80 y2)
        have e10 : M1 1 0 = (nn M : Int) := by rw [f80 y2 1 0 (by unfold sTmp; omega)]; exact hn.2.2.1
        have e14 : M1 1 4 = (mm M : Int) := by rw [f80 y2 1 4 (by unfold sTmp; omega)]; exact hn.2.2.2
        have hP : PyH (nn M) (mm M) (jto a2) M1 := ⟨hr1.2.1, e10, e14, fun k hk => by
          have := dg_r a2 k
          have h5 := y5 k hk
          rw [y6 k hk]
          unfold jto
          omega⟩
        have ha : a < mm M := by omega
        have hA := py_A (a := a) hP hw'
        have hb := py_B (a := a) hP ha hw'
        have hwn : wnx (w + 1) = 1 := by unfold wnx; rw [if_neg (by omega)]
        have hcw : ∀ j, 0 ≤ pcw (nn M) (jto a2) M1 (w + 1) 0 a j := fun j => (pcw_r (s := j) hP ha (wpx_r hw' (by unfold wnx; split <;> omega))).1
        -- the reference, from any memory that the class leaves
        have refr : ∀ (M2 : vM) (Q' : Option vV → vM → Prop), Rel M2 → Fr sTmp M1 M2 → (¬ (0 ≤ a3 ∧ a3 ≤ 1) → Q' (some (vL (-9223372036854775808))) M2) → (0 ≤ a3 ∧ a3 ≤ 1 → ∀ M3 l5 w6, Rel M3 → Fr sTmp M1 M3 → RbH (nn M) (mm M) a 4 (pcw (nn M) (jto a2) M1 (w + 1)) (M1 2) (M1 1 5) M3 → vw X (d + 39) 220 186 (vCr a w a2 a3 l5 w6) [] M3 Q') → cq X (d + 40) 220 [vR 81, vI (a : Int), vI (w : Int), vI a2, vI a3] M2 Q' := fun M2 Q' z1 z2 k1 k2 => by
          have g14 : M2 1 4 = M 1 4 := by rw [z2 1 4 (by unfold sTmp; omega), e14]; exact hn.2.2.2.symm
          have g10 : M2 1 0 = (nn M : Int) := by rw [z2 1 0 (by unfold sTmp; omega)]; exact e10
          have g81 : M2 81 0 = (nn M : Int) := by rw [z1.2.1.2.1]; exact g10
          have h0b : 0 ≤ (a : Int) ∧ (a : Int) < M2 1 4 := by rw [g14]; exact h0
          refine E_R_coarser ?_
          refine B_R_coarser_0 ?_
          refine S_R_isAct z1 ?_
          refine B_R_coarser_5 (fun q9 => by rw [if_pos h0b] at q9; omega) (fun _ => ?_)
          refine B_R_coarser_8 ?_
          refine S_R_isWorld ?_
          refine B_R_coarser_12 (fun q9 => by rw [if_pos h1] at q9; omega) (fun _ => ?_)
          refine B_R_coarser_15 (fun z => by exfalso; omega) (fun _ => B_R_coarser_19 (fun z => absurd (by rw [g81]; exact y4) z) (fun _ => B_R_coarser_30 (S_R_in ?_)))
          by_cases h4 : 0 ≤ a3 ∧ a3 ≤ 1
          · rw [if_pos h4]
            refine B_R_coarser_38 (fun _ => B_R_coarser_45 (LP_co_sights (d := d + 37) (k := 0) z1 hn.1 g10 (fun _ l5 => B_R_coarser_83 ?_) (fun z => absurd y5 z) (nn M) (by omega) (fun j hj => by exfalso; omega))) (fun z => by exfalso; omega)
            refine LP_co_all (d := d + 38) (b := 0) (M0 := M2) z1.2.1 hn.1 g10 hw y5 (mm M) M2 _ (by omega) z1.1 Fr.refl (fun b s h _ => by exfalso; omega) (fun M3 v1 v2 v3 l5 w6 => ?_)
            have fT : Fr sTmp M2 M3 := v2.mono (fun b j y => by unfold sTmp; omega)
            have hr3 := Rel_fr fT z1
            have f13 := z2.trans fT
            refine k2 h4 M3 l5 w6 hr3 f13 ⟨hn.1, hn.2.1, ha, by omega, by rw [hr3.2.1.2.1, fT 1 0 (by unfold sTmp; omega)]; exact g10, by rw [hr3.2.1.2.2.2.1, f13 1 4 (by unfold sTmp; omega)]; exact e14, fun b hb4 => ?_, ⟨by rw [hr3.2.1.2.2.2.2.2.1, f13 1 5 (by unfold sTmp; omega)], hr1.2.1.2.2.2.2.1⟩, fun p b s hp hb4 hs => ?_⟩
            · have c := hr1.2.1.2.2.2.2.2.2.1 b (by omega)
              refine ⟨?_, c.2⟩
              rw [(hr3.2.1.2.2.2.2.2.2.1 b (by omega)).1, f13 2 b (by unfold sTmp; omega)]
            · have hp0 : p = 0 := by unfold wnx at hp; rw [if_neg (by decide)] at hp; omega
              have hwp : wpx (w + 1) p = w := by unfold wpx; split <;> omega
              have c := pcw_r (worlds := w + 1) (p := p) (s := s) hP hb4 (by rw [hwp]; exact hw)
              refine ⟨?_, c.1, c.2⟩
              have e : wq 4 p = 2 := by unfold wq; rw [if_pos rfl]
              rw [e]
              have := v3 b s (by omega) (by omega)
              rw [show 12 * b + 4 * 2 + s = 12 * b + 8 + s by omega, this]
              unfold pcw
              rw [hwp]
              refine js_c _ (fun i _ => ?_)
              unfold pch
              by_cases y : b < 4 ∧ w < 2
              · rw [if_pos y, if_pos y]; exact z2 _ _ (by unfold sTmp; omega)
              · rw [if_neg y, if_neg y]
          · rw [if_neg h4]
            exact B_R_coarser_38 (fun z => absurd rfl z) (fun _ => B_R_coarser_41 (k1 h4))
        have hAg : AgH (nn M) (mm M) a (wnx (w + 1)) (pcw (nn M) (jto a2) M1 (w + 1)) := ⟨hn.1, hn.2.1, ha, by rw [hwn]; omega, fun p b s hs => pcw_z hP hs⟩
        refine B_X_coarser_30 y1 ?_
        rw [j_1w hw]
        refine S_askPay (d := d + 35) (worlds := w + 1) hP ha hw' y1 (fun M2 z1 z2 z3 => B_X_coarser_49 z1 ?_)
        refine S_solves (d := d + 35) hA hb (fun j hj => hcw j) z1 z2 (fun M3 B x1 x2 x3 x4 => B_X_coarser_56 (fun z => by exfalso; omega) (fun _ => B_X_coarser_59 x1 ?_)) (fun M3 B x1 x2 x3 => B_X_coarser_56 (fun _ => B_X_coarser_85 ?_) (fun z => absurd rfl z))
        · have f13 : Fr sTmp M1 M3 := sSv_T (z3.trans x4)
          have hr3 := Rel_fr f13 hr1
          obtain ⟨v1, v2, v3, v4⟩ := sv_shows hn.1.2 hb x2 x3.1
          have hD := x3.1.1
          have b0 := v4 0
          refine S_So_goal x1 (B_X_coarser_66 x1 (S_So_below (B_X_coarser_76 ?_)))
          rw [v1, show M3 15 0 = lp0 _ _ B 0 from v2 0 (by omega), w64_i (x := 12 * lpD (zA (nn M) (mm M) a (w + 1) (jto a2) M1) B) (by unfold bd at v3; omega)]
          unfold bd at v3 b0
          refine S_X_part (d := d + 36) (by omega) (by omega) (B_X_coarser_82 (refr M3 _ hr3 f13 (fun h4 => ?_) (fun h4 M4 l5 w6 u1 u2 u3 => B_R_coarser_186 ?_)))
          · rw [if_neg h4]; exact ⟨rfl, hr3⟩
          · have ag := agree_yes (P := wnx (w + 1)) hAg hA x3
            rw [hwn] at ag
            refine S_findLeast_yes (d := d + 35) (worlds := 4) u1.1 u3 ag (fun M5 t1 t2 t3 => B_R_coarser_192 (fun z => by rw [t3.1] at z; exfalso; omega) (fun _ => B_R_coarser_199 t1 ?_))
            have hr5 := Rel_fr (sFL_T t2) u1
            obtain ⟨g1, g2, g3, g4, g5, g6⟩ := t3
            have e0 : lpD (gA (mm M) a 1 (pcw (nn M) (jto a2) M1 (w + 1))) B * M5 81 14 = lp0 (gA (mm M) a 1 (pcw (nn M) (jto a2) M1 (w + 1))) (gC (mm M) a 1 (M1 2) (M1 1 5)) B 0 * M5 91 4 := g6 0 (by omega)
            rw [w64_i (x := 12 * M5 91 4) (by unfold bd at g3; omega), if_pos h4]
            unfold bd at g3 g5
            have eZ : zA (nn M) (mm M) a (w + 1) (jto a2) M1 = gA (mm M) a 1 (pcw (nn M) (jto a2) M1 (w + 1)) := by unfold zA gA; rw [hwn]
            have eZ2 : zC (mm M) a (w + 1) M1 = gC (mm M) a 1 (M1 2) (M1 1 5) := by unfold zC gC; rw [hwn]
            rw [eZ] at hD
            rw [eZ, eZ2]
            refine S_R_part (d := d + 37) (by omega) (by omega) (B_R_coarser_218 ⟨?_, hr5⟩)
            rw [fr_12 e0 hD g2]
        · have f13 : Fr sTmp M1 M3 := sSv_T (z3.trans x3)
          have hr3 := Rel_fr f13 hr1
          refine refr M3 _ hr3 f13 (fun _ => ⟨rfl, hr3⟩) (fun h4 M4 l5 w6 u1 u2 u3 => B_R_coarser_186 ?_)
          have ag := fun (x : Nat → Int) (t : Int) ht hf hx => agree_no (P := wnx (w + 1)) (x := x) (t := t) hAg hA x2 ht hf hx
          rw [hwn] at ag
          exact S_findLeast_no (d := d + 35) (worlds := 4) u1.1 u3 ag (fun M5 t1 t2 t3 => B_R_coarser_192 (fun _ => B_R_coarser_221 ⟨rfl, Rel_fr (sFL_T t2) u1⟩) (fun z => absurd t3 z))
      · have hr1 := Rel_fr (f80 y2) hr
        have e10 : M1 1 0 = (nn M : Int) := by rw [f80 y2 1 0 (by unfold sTmp; omega)]; exact hn.2.2.1
        have e81 : M1 81 0 = (nn M : Int) := by rw [hr1.2.1.2.1]; exact e10
        have h0b : 0 ≤ (a : Int) ∧ (a : Int) < M1 1 4 := by rw [f80 y2 1 4 (by unfold sTmp; omega)]; exact h0
        refine E_R_coarser ?_
        refine B_R_coarser_0 ?_
        refine S_R_isAct hr1 ?_
        refine B_R_coarser_5 (fun q9 => by rw [if_pos h0b] at q9; omega) (fun _ => ?_)
        refine B_R_coarser_8 ?_
        refine S_R_isWorld ?_
        refine B_R_coarser_12 (fun q9 => by rw [if_pos h1] at q9; omega) (fun _ => ?_)
        refine B_R_coarser_15 (fun _ => B_R_coarser_41 ⟨rfl, hr1⟩) (fun h5 => B_R_coarser_19 (fun _ => B_R_coarser_41 ⟨rfl, hr1⟩) (fun h6 => B_R_coarser_30 (S_R_in (B_R_coarser_38 (fun _ => B_R_coarser_45 ?_) (fun _ => B_R_coarser_41 ⟨rfl, hr1⟩)))))
        refine LP_co_sights (d := d + 37) (k := 0) hr1 hn.1 e10 (fun z l5 => ?_) (fun z => ⟨rfl, hr1⟩) (nn M) (by omega) (fun j hj => by exfalso; omega)
        exfalso
        rw [e81] at h6
        rcases y3 with y | y | ⟨k, y, y'⟩
        · omega
        · exact y h6
        · exact y' (z k y)
    · refine E_X_coarser ?_
      refine B_X_coarser_0 hr.1 ?_
      refine S_isAct ?_
      refine B_X_coarser_8 (fun q9 => by rw [if_pos h0] at q9; omega) (fun _ => ?_)
      refine B_X_coarser_11 ?_
      refine S_isWorld ?_
      refine B_X_coarser_15 (fun _ => ?_) (fun q9 => absurd (if_neg h1) q9)
      refine B_X_coarser_26 ?_
      refine E_R_coarser ?_
      refine B_R_coarser_0 ?_
      refine S_R_isAct hr ?_
      refine B_R_coarser_5 (fun q9 => by rw [if_pos h0] at q9; omega) (fun _ => ?_)
      refine B_R_coarser_8 ?_
      refine S_R_isWorld ?_
      refine B_R_coarser_12 (fun _ => ?_) (fun q9 => absurd (if_neg h1) q9)
      refine B_R_coarser_41 ?_
      exact ⟨rfl, hr⟩
  · refine E_X_coarser ?_
    refine B_X_coarser_0 hr.1 ?_
    refine S_isAct ?_
    refine B_X_coarser_8 (fun _ => ?_) (fun q9 => absurd (if_neg h0) q9)
    refine B_X_coarser_26 ?_
    refine E_R_coarser ?_
    refine B_R_coarser_0 ?_
    refine S_R_isAct hr ?_
    refine B_R_coarser_5 (fun _ => ?_) (fun q9 => absurd (if_neg h0) q9)
    refine B_R_coarser_41 ?_
    exact ⟨rfl, hr⟩
end CO
