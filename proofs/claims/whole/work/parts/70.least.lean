/-! THE REFERENCE'S SEARCH: one set of bounds after the other -/
theorem bitj {x i : Nat} (hx : x < 2147483648) (hi : i < 32) : j_iand (j_ishr (x : Int) (i : Int)) 1 = ((x / 2 ^ i % 2 : Nat) : Int) := by
  have := j_ishr_k (x := (x : Int)) (by omega) ⟨i, hi⟩
  simp only at this
  rw [this, j_iand_1, ← Int.natCast_ediv]
  omega
theorem bl_len {set i j : Nat} (h : i ≤ j) : (bl set i).length ≤ (bl set j).length := by
  induction j with
  | zero => have : i = 0 := by omega
            rw [this]; exact Nat.le_refl _
  | succ j ih =>
    by_cases e : i = j + 1
    · rw [e]; exact Nat.le_refl _
    · have := ih (by omega)
      rw [bl, List.length_append]
      omega
theorem getD_l {l l' : List Nat} {k : Nat} (h : k < l.length) : (l ++ l').getD k 0 = l.getD k 0 := by simp [List.getD_eq_getElem?_getD, List.getElem?_append_left h]
theorem getD_r {l : List Nat} {i : Nat} : (l ++ [i]).getD l.length 0 = i := by simp [List.getD_eq_getElem?_getD]
theorem bl_lt {set : Nat} : ∀ (i k : Nat), k < (bl set i).length → (bl set i).getD k 0 < i
  | 0, k, h => by simp [bl] at h
  | i + 1, k, h => by
    rw [bl] at h ⊢
    by_cases e : k < (bl set i).length
    · have := bl_lt i k e
      rw [getD_l e]
      omega
    · rw [List.length_append] at h
      by_cases z : set / 2 ^ i % 2 = 1
      · rw [if_pos z] at h ⊢
        have h1 : k = (bl set i).length := by
          have : ([i] : List Nat).length = 1 := rfl
          omega
        rw [h1, getD_r]
        omega
      · rw [if_neg z] at h
        have : ([] : List Nat).length = 0 := rfl
        omega
section RL
variable {X : vX} {d : Nat} {M M0 : vM} {Q : Option vV → vM → Prop} {n N a w set : Nat} {bA : Nat → Nat → Int} {bC g : Nat → Int} {l2 : Int}
abbrev sPk (b _ : Nat) : Prop := b = 88
abbrev sFl (b _ : Nat) : Prop := b = 88 ∨ b = 89 ∨ b = 90
abbrev sFn (b j : Nat) : Prop := b = 88 ∨ b = 89 ∨ b = 90 ∨ b = 91 ∨ (b = 81 ∧ (j = 14 ∨ j = 15))
abbrev pkl (set N r : Nat) : Nat := (bl set N).getD r 0
abbrev vL9 (a : Nat) (l2 : Int) (w set : Nat) (w5 w6 w8 : vV) : List vV := [vR 81, vI (a : Int), vI l2, vI (w : Int), vI (set : Int), w5, w6, vN, w8]
theorem LP_pick (hB : BnH n N bA bC M0) (hs : set < 4096) {w8 : vV} (q1 : ∀ M1, vRefs M1 → Fr sPk M0 M1 → (bl set N).length = n → (∀ k, k < n → M1 88 k = (pkl set N k : Int)) → ∀ l6, vw X d 206 120 (vL9 a l2 w set (vI (n : Int)) (vI l6) w8) [] M1 Q) (q2 : ∀ M1, vRefs M1 → Fr sPk M0 M1 → (bl set N).length ≠ n → ∀ w5 w6, vw X d 206 219 (vL9 a l2 w set (vI w5) w6 w8) [] M1 Q) : ∀ (m i : Nat) (M : vM), i + m = N → vRefs M → Fr sPk M0 M → (bl set i).length ≤ n → (∀ k, k < (bl set i).length → M 88 k = (pkl set i k : Int)) → vw X d 206 55 (vL9 a l2 w set (vI ((bl set i).length : Int)) (vI (i : Int)) w8) [] M Q
  | 0, i, M, hi, hR, f, hl, hk => by
    have e9 : M 81 9 = (N : Int) := by rw [f 81 9 (by omega)]; exact hB.2.2.2.1
    have e0 : M 81 0 = (n : Int) := by rw [f 81 0 (by omega)]; exact hB.2.2.1
    have e : i = N := by omega
    subst e
    refine B_R_findLeast_55 (fun _ => B_R_findLeast_111 (fun z => q2 M hR f (by omega) _ _) (fun z => ?_)) (fun z => by exfalso; omega)
    have e1 : (bl set i).length = n := by omega
    have := q1 M hR f e1 (fun k h => hk k (by omega)) (i : Int)
    rw [e1]
    exact this
  | m + 1, i, M, hi, hR, f, hl, hk => by
    have hN := hB.2.1
    have hn := hB.1
    have e9 : M 81 9 = (N : Int) := by rw [f 81 9 (by omega)]; exact hB.2.2.2.1
    have e0 : M 81 0 = (n : Int) := by rw [f 81 0 (by omega)]; exact hB.2.2.1
    have eb : Unit → _ := fun _ => bitj (x := set) (i := i) (by omega) (by omega)
    have nx : Unit → w32 ((i : Int) + 1) = ((i + 1 : Nat) : Int) := fun _ => by rw [w32_i (by omega)]; omega
    have nl : Unit → w32 (((bl set i).length : Int) + 1) = (((bl set i).length + 1 : Nat) : Int) := fun _ => by rw [w32_i (by omega)]; omega
    refine B_R_findLeast_55 (fun z => by exfalso; omega) (fun _ => B_R_findLeast_64 (fun z => by exfalso; omega) (fun _ => B_R_findLeast_73 (fun z => ?_) (fun z => ?_))) <;> rw [eb ()] at z
    · have e1 : bl set (i + 1) = bl set i := by rw [bl, if_neg (by omega), List.append_nil]
      refine B_R_findLeast_105 ?_
      rw [nx ()]
      have := LP_pick hB hs q1 q2 m (i + 1) M (by omega) hR f (by rw [e1]; exact hl) (fun k h => by rw [pkl, e1]; rw [e1] at h; exact hk k h)
      rw [e1] at this
      exact this
    · have e1 : bl set (i + 1) = bl set i ++ [i] := by rw [bl, if_pos (by omega)]
      have e2 : (bl set (i + 1)).length = (bl set i).length + 1 := by rw [e1, List.length_append]; rfl
      refine B_R_findLeast_84 (fun z2 => B_R_findLeast_102 ?_) (fun z2 => B_R_findLeast_93 hR (by omega) (fun hR2 => ?_))
      · rw [nx (), nl ()]
        have hlen := bl_len (set := set) (i := i + 1) (j := N) (by omega)
        by_cases y : i + 1 = N
        · exact B_R_findLeast_55 (fun _ => B_R_findLeast_111 (fun _ => q2 M hR f (by omega) _ _) (fun z => by exfalso; omega)) (fun z => by exfalso; omega)
        · exact B_R_findLeast_55 (fun z => by exfalso; omega) (fun _ => B_R_findLeast_64 (fun _ => B_R_findLeast_111 (fun _ => q2 M hR f (by omega) _ _) (fun z => by exfalso; omega)) (fun z => by exfalso; omega))
      · rw [Int.toNat_natCast] at hR2 ⊢
        rw [nx (), nl (), ← e2]
        refine LP_pick hB hs q1 q2 m (i + 1) _ (by omega) hR2 (f.up rfl) (by omega) (fun k h => ?_)
        rw [vm_up2, pkl, e1]
        by_cases y : k = (bl set i).length
        · rw [if_pos ⟨rfl, y⟩, y, getD_r]
        · rw [if_neg (by omega), getD_l (by omega)]
          exact hk k (by omega)
theorem LP_upper (hR : vRefs M) (hn : 2 ≤ n ∧ n ≤ 4) (h0 : M 81 0 = (n : Int)) (ha : a < 4) (hw : w < 3) (hg : ∀ s, s < n → M 83 (12 * a + 4 * w + s) = g s ∧ bd 12 (g s)) {x : Nat → Int} (hx : ∀ k, k < n → M 90 k = x k ∧ bd 100000000 (x k)) {l5 : Int} (q : ∀ l8, vw X (d + 1) 206 170 (vL9 a l2 w set (vI l5) (vL (dot g x n)) (vI l8)) [] M Q) : ∀ (m s : Nat), s + m = n → vw X (d + 1) 206 133 (vL9 a l2 w set (vI l5) (vL (dot g x s)) (vI (s : Int))) [] M Q
  | 0, s, hs => by
    have e : s = n := by omega
    subst e
    exact B_R_findLeast_133 (fun _ => q _) (fun z => by exfalso; omega)
  | m + 1, s, hs => by
    have g0 := hg s (by omega)
    have x0 := hx s (by omega)
    have b1 := bd_m g0.2 x0.2
    have b2 := dot_b (f := g) (g := x) (a := 12) (b := 100000000) s (fun i hi => (hg i (by omega)).2) (fun i hi => (hx i (by omega)).2)
    refine B_R_findLeast_133 (fun z => by exfalso; omega) (fun _ => B_R_findLeast_142 (S_R_chance hR (by omega) (by omega) (by omega) (B_R_findLeast_152 hR (by omega) ?_)))
    rw [a_rc, Int.toNat_natCast, Int.toNat_natCast, Int.toNat_natCast, g0.1, x0.1, bd64 b1 (by decide), w64_i (x := dot g x s + g s * x s) (by unfold bd at b1 b2; omega), w32_i (by omega)]
    exact LP_upper hR hn h0 ha hw hg hx q m (s + 1) (by omega)
theorem LP_keep {l5 up : Int} (q : ∀ M1, vRefs M1 → Fr (fun b _ => b = 91) M0 M1 → (∀ s, s < 5 → M1 91 s = M0 90 s) → ∀ l8, vw X d 206 219 (vL9 a l2 w set (vI l5) (vL up) (vI l8)) [] M1 Q) : ∀ (m s : Nat) (M : vM), s + m = 5 → vRefs M → Fr (fun b _ => b = 91) M0 M → (∀ k, k < s → M 91 k = M0 90 k) → vw X d 206 193 (vL9 a l2 w set (vI l5) (vL up) (vI (s : Int))) [] M Q
  | 0, s, M, hs, hR, f, hk => B_R_findLeast_193 (fun _ => q M hR f (fun k h => hk k (by omega)) _) (fun z => by exfalso; omega)
  | m + 1, s, M, hs, hR, f, hk => by
    refine B_R_findLeast_193 (fun z => by exfalso; omega) (fun _ => B_R_findLeast_199 hR (by omega) (by omega) (fun hR2 => ?_))
    rw [Int.toNat_natCast] at hR2 ⊢
    rw [w32_i (by omega)]
    refine LP_keep q m (s + 1) _ (by omega) hR2 (f.up rfl) (fun k h => ?_)
    rw [vm_up2]
    by_cases e : k = s
    · rw [if_pos ⟨rfl, e⟩, e, f 90 s (by omega)]
    · rw [if_neg (by omega)]; exact hk k (by omega)
abbrev cF (n N : Nat) (bA : Nat → Nat → Int) (bC : Nat → Int) (x : Nat → Int) (t : Int) : Prop := ∀ r, r < N → bC r * t ≤ dot (bA r) x n
/-- the best so far -/
def FlH (n : Nat) (M : vM) : Prop := M 81 15 = 0 ∨ (M 81 15 = 1 ∧ 0 < M 91 4 ∧ bd 500000 (M 91 4) ∧ (∀ s, s < n → bd 100000000 (M 91 s)) ∧ bd 5000000000 (M 81 14))
def GoH (n a w : Nat) (g : Nat → Int) (M : vM) : Prop := a < 4 ∧ w < 3 ∧ ∀ s, s < n → M 83 (12 * a + 4 * w + s) = g s ∧ bd 12 (g s)
theorem LP_one (hR : vRefs M) (hB : BnH n N bA bC M) (hG : GoH n a w g M) (hF : FlH n M) (hs : set < 4096) {w5 w6 w8 : vV}
    (q1 : ∀ M1, vRefs M1 → Fr sFl M M1 → ((bl set N).length ≠ n ∨ detp n (pF bA (pkl set N)) = 0 ∨ (¬ cF n N bA bC (crn n bA bC (pkl set N)) (crt n bA (pkl set N))) ∨ (M 81 15 = 1 ∧ lxn (fun i => co0 (dot g (crn n bA bC (pkl set N)) n) (crn n bA bC (pkl set N)) i * M 91 4 - co0 (M 81 14) (M 91) i * crt n bA (pkl set N)) (n + 1) 0)) → ∀ l5 w6 w8, vw X (d + 3) 206 219 (vL9 a l2 w set (vI l5) w6 w8) [] M1 Q)
    (q2 : ∀ M1, vRefs M1 → Fr sFn M M1 → (bl set N).length = n → detp n (pF bA (pkl set N)) ≠ 0 → cF n N bA bC (crn n bA bC (pkl set N)) (crt n bA (pkl set N)) → (M 81 15 = 0 ∨ lxp (fun i => co0 (M 81 14) (M 91) i * crt n bA (pkl set N) - co0 (dot g (crn n bA bC (pkl set N)) n) (crn n bA bC (pkl set N)) i * M 91 4) (n + 1) 0) → M1 81 15 = 1 → M1 81 14 = dot g (crn n bA bC (pkl set N)) n → (∀ s, s < n → M1 91 s = crn n bA bC (pkl set N) s) → M1 91 4 = crt n bA (pkl set N) → bd 5000000000 (M1 81 14) → (∀ s, s < n → bd 100000000 (M1 91 s)) → bd 500000 (M1 91 4) → ∀ l5 w6 w8, vw X (d + 3) 206 219 (vL9 a l2 w set (vI l5) w6 w8) [] M1 Q) : vw X (d + 3) 206 49 (vL9 a l2 w set w5 w6 w8) [] M Q := by
  have hn := hB.1
  have hN := hB.2.1
  refine B_R_findLeast_49 (LP_pick (M0 := M) (i := 0) hB hs (fun M1 y1 y2 y3 y4 l6 => B_R_findLeast_120 ?_) (fun M1 y1 y2 y3 w5 w6 => q1 M1 y1 (y2.mono (fun b j y => Or.inl y)) (Or.inl y3) _ _ _) N M (by omega) hR Fr.refl (Nat.zero_le _) (fun k h => by simp [bl] at h))
  have hp : PkH n N (pkl set N) M1 := fun r hr => ⟨y4 r hr, bl_lt N r (by omega)⟩
  have hB1 : BnH n N bA bC M1 := BnH_fr hB (y2.mono (fun b j y => by omega))
  refine S_isCorner y1 hB1 hp (fun M2 z1 z2 z3 => B_R_findLeast_124 (fun _ => q1 M2 z1 ((y2.mono (fun b j y => Or.inl y)).trans (z2.mono (fun b j y => Or.inr y))) (by rcases z3 with z | z; exact Or.inr (Or.inl z); exact Or.inr (Or.inr (Or.inl z))) _ _ _) (fun z => absurd rfl z)) (fun M2 z1 z2 z3 z4 z5 z6 => B_R_findLeast_124 (fun z => by exfalso; omega) (fun _ => B_R_findLeast_127 ?_))
  have f2 : Fr sFl M M2 := (y2.mono (fun b j y => Or.inl y)).trans (z2.mono (fun b j y => Or.inr y))
  have hx : ∀ k, k < n → M2 90 k = crn n bA bC (pkl set N) k ∧ bd 100000000 (crn n bA bC (pkl set N) k) := fun k hk => ⟨z6 k hk, crn_b hB1 hp k⟩
  have hg2 : ∀ s, s < n → M2 83 (12 * a + 4 * w + s) = g s ∧ bd 12 (g s) := fun s h => by rw [f2 83 _ (by omega)]; exact hG.2.2 s h
  have e0 : M2 81 0 = (n : Int) := by rw [f2 81 0 (by omega)]; exact hB.2.2.1
  have bt := crt_b hB1 hp
  have bu : bd 5000000000 (dot g (crn n bA bC (pkl set N)) n) := bd_l (dot_b (a := 12) (b := 100000000) n (fun i hi => (hG.2.2 i hi).2) (fun i hi => (hx i hi).2)) (by omega)
  have new : ∀ l5 l8 : Int, (M 81 15 = 0 ∨ lxp (fun i => co0 (M 81 14) (M 91) i * crt n bA (pkl set N) - co0 (dot g (crn n bA bC (pkl set N)) n) (crn n bA bC (pkl set N)) i * M 91 4) (n + 1) 0) → vw X (d + 3) 206 179 (vL9 a l2 w set (vI l5) (vL (dot g (crn n bA bC (pkl set N)) n)) (vI l8)) [] M2 Q := fun l5 l8 hl => B_R_findLeast_179 z1 (fun hR2 => by
    refine LP_keep (M0 := vm_up (vm_up M2 81 15 1) 81 14 (dot g (crn n bA bC (pkl set N)) n)) (s := 0) (fun M3 x1 x2 x3 l8 => q2 M3 x1 ?_ y3 z3 z4 hl ?_ ?_ (fun s h => ?_) ?_ ?_ (fun s h => ?_) ?_ _ _ _) 5 _ (by omega) hR2 Fr.refl (fun k h => by exfalso; omega)
    · exact (((f2.mono (fun b j y => by show sFn b j; omega)).up (by omega)).up (by omega)).trans (x2.mono (fun b j y => by show sFn b j; omega))
    · rw [x2 81 15 (by omega), vm_up2, if_neg (by omega), vm_up2, if_pos ⟨rfl, rfl⟩]
    · rw [x2 81 14 (by omega), vm_up2, if_pos ⟨rfl, rfl⟩]
    · rw [x3 s (by omega), vm_up2, if_neg (by omega), vm_up2, if_neg (by omega)]; exact z6 s h
    · rw [x3 4 (by omega), vm_up2, if_neg (by omega), vm_up2, if_neg (by omega)]; exact z5
    · rw [x2 81 14 (by omega), vm_up2, if_pos ⟨rfl, rfl⟩]; exact bu
    · rw [x3 s (by omega), vm_up2, if_neg (by omega), vm_up2, if_neg (by omega), z6 s h]; exact (hx s h).2
    · rw [x3 4 (by omega), vm_up2, if_neg (by omega), vm_up2, if_neg (by omega), z5]; exact crt_b5 hB1 hp)
  refine LP_upper (s := 0) (x := crn n bA bC (pkl set N)) z1 hn e0 hG.1 hG.2.1 hg2 hx (fun l8 => B_R_findLeast_170 ?_) n (by omega)
  have e15 : M2 81 15 = M 81 15 := f2 81 15 (by omega)
  rcases hF with h15 | ⟨h15, h1, h2, h3, h4⟩
  · exact S_isLess0 (by rw [e15]; exact h15) (B_R_findLeast_176 (fun z => by exfalso; omega) (fun _ => new _ _ (Or.inl h15)))
  · refine S_isLess (x := crn n bA bC (pkl set N)) (y := M 91) z1 hn e0 z6 (fun s h => f2 91 s (by omega)) z5 (f2 91 4 (by omega)) (f2 81 14 (by omega)) (fun s h => (hx s h).2) h3 bt (bd_l h2 (by decide)) bu h4 (by omega) (fun z => B_R_findLeast_176 (fun z => by exfalso; omega) (fun _ => new _ _ (Or.inr z))) (fun z => B_R_findLeast_176 (fun _ => q1 M2 z1 f2 (Or.inr (Or.inr (Or.inr ⟨h15, z⟩))) _ _ _) (fun y => absurd rfl y))
end RL
