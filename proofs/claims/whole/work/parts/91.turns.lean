/-! THE REFERENCE READS A TEXT: turns; arguments, atoms, products, sums -/
section TU
variable {X : vX} {d : Nat} {M : vM} {Q : Option vV → vM → Prop} {Z : YZ} {st cs ops : List Int} {o k n : Nat} {m : Int}
/-- a turn begins: an operand is wanted (1), or not (0) -/
abbrev Wt (X : vX) (d : Nat) (Q : Option vV → vM → Prop) (wants : Int) (k : Nat) (M : vM) : Prop := ∀ w3, vw X (d + 5) 258 19 [vR 81, vI (k : Int), vI wants, w3] [] M Q
abbrev BN (Z : YZ) (cs st : List Int) (k : Nat) : Prop := cs.length + st.length ≤ k ∧ k ≤ Z.2.2
/-- a fault at f -/
abbrev Ft (Z : YZ) (Q : Option vV → vM → Prop) (f : Nat) : Prop := ∀ M1, vRefs M1 → Fr (sYZ Z.2.1) Z.1 M1 → Q (some (vI (f : Int))) M1
def OpW (X : vX) (d : Nat) (Z : YZ) (Q : Option vV → vM → Prop) (st : List Int) (o : Nat) (cs : List Int) : OpR → Prop
  | .inl f => f ≤ 900 ∧ Ft Z Q f
  | .inr (.inl (c, k)) => (1 ≤ k ∧ k ≤ 900 ∧ yg Z (k - 1) ≠ 40) ∧ ∀ M1, YS Z M1 st o (cs ++ [c]) → Wt X d Q 0 k M1
  | .inr (.inr (m, k)) => (1 ≤ k ∧ k ≤ 900 ∧ yg Z (k - 1) = 40) ∧ ∀ M1, YS Z M1 (m :: st) (o + 1) cs → Wt X d Q 1 k M1
theorem S_turn1 (H : YH Z) (h : YS Z M st o cs) (hk : k < 900) (hl : st.length ≤ 119) (hc : cs.length < 120) (ho : o ≤ 5) (q : OpW X d Z Q st o cs (opd (yg Z) o k)) : Wt X d Q 1 k M := fun w3 => by
  refine B_R_reads_19 (fun _ => B_R_reads_31 (fun z => absurd z (by decide)) (fun _ => B_R_reads_35 (S_operand (d := d + 2) H h hk (by omega) hc ho ?_))) (fun z => absurd z (by decide))
  rcases hq : opd (yg Z) o k with f | ⟨c, k'⟩ | ⟨m, k'⟩ <;> rw [hq] at q
  · have q : f ≤ 900 ∧ Ft Z Q f := q
    refine B_R_reads_40 (fun z => by exfalso; omega) (fun _ => B_R_reads_53 ?_)
    rw [w32_i (by omega), show -1 - (-1 - (f : Int)) = (f : Int) by omega]
    exact q.2 M h.1 h.2.1
  · have q : (1 ≤ k' ∧ k' ≤ 900 ∧ yg Z (k' - 1) ≠ 40) ∧ ∀ M1, YS Z M1 st o (cs ++ [c]) → Wt X d Q 0 k' M1 := q
    refine fun M1 y => B_R_reads_40 (fun _ => B_R_reads_57 (fun z => absurd z (by decide)) (fun _ => B_R_reads_61 ?_)) (fun z => by exfalso; omega)
    rw [w32_i (by omega), show (k' : Int) - 1 = ((k' - 1 : Nat) : Int) by omega]
    exact S_byteAt H y (by omega) (B_R_reads_68 (fun _ => B_R_reads_77 (q.2 M1 y _)) (fun z => absurd z q.1.2.2))
  · have q : (1 ≤ k' ∧ k' ≤ 900 ∧ yg Z (k' - 1) = 40) ∧ ∀ M1, YS Z M1 (m :: st) (o + 1) cs → Wt X d Q 1 k' M1 := q
    refine fun M1 y => B_R_reads_40 (fun _ => B_R_reads_57 (fun z => absurd z (by decide)) (fun _ => B_R_reads_61 ?_)) (fun z => by exfalso; omega)
    rw [w32_i (by omega), show (k' : Int) - 1 = ((k' - 1 : Nat) : Int) by omega]
    exact S_byteAt H y (by omega) (B_R_reads_68 (fun z => absurd q.1.2.2 z) (fun _ => B_R_reads_73 (q.2 M1 y _)))
/-- behind an operand, the text going on -/
theorem turn0 (h : YS Z M st o cs) (H : YH Z) (hk : k < Z.2.2) (q : cq X (d + 5) 257 [vR 81, vI (k : Int)] M (fun r M1 => (∃ k' : Nat, r = some (vI (k' : Int)) ∧ (yg Z k = 41 → Wt X d Q 0 k' M1) ∧ (yg Z k ≠ 41 → Wt X d Q 1 k' M1) ∧ ∃ st o cs, YS Z M1 st o cs) ∨ (r = some (vI (-1 - (k : Int))) ∧ Q (some (vI (k : Int))) M1))) : Wt X d Q 0 k M := fun w3 => by
  have e42 : M 81 42 = (Z.2.2 : Int) := by rw [h.2.1 81 42 (by omega)]; exact H.2.2.1
  have h120 := H.2.1
  refine B_R_reads_19 (fun z => absurd rfl z) (fun _ => B_R_reads_23 (fun z => by exfalso; omega) (fun _ => B_R_reads_31 (fun _ => B_R_reads_43 (cq.mono q (fun r M1 hr => ?_))) (fun z => absurd rfl z)))
  rcases hr with ⟨k', e, q1, q2, st', o', cs', y⟩ | ⟨e, q1⟩
  · rw [e]
    refine B_R_reads_48 (fun _ => B_R_reads_57 (fun _ => B_R_reads_81 (S_byteAt H y (by omega) (B_R_reads_86 (fun z => B_R_reads_95 (q1 z _)) (fun z => B_R_reads_91 (q2 z _))))) (fun z => absurd rfl z)) (fun z => by exfalso; omega)
  · rw [e]
    refine B_R_reads_48 (fun z => by exfalso; omega) (fun _ => B_R_reads_53 ?_)
    rw [w32_i (by omega), show -1 - (-1 - (k : Int)) = (k : Int) by omega]
    exact q1
/-- the text's end, with a ( open -/
theorem turn0_end (h : YS Z M st o cs) (H : YH Z) (hk : k = Z.2.2) (ho : 0 < o) (q : Ft Z Q k) : Wt X d Q 0 k M := fun w3 => by
  have e42 : M 81 42 = (Z.2.2 : Int) := by rw [h.2.1 81 42 (by omega)]; exact H.2.2.1
  have e45 := h.2.2.2.1
  refine B_R_reads_19 (fun z => absurd rfl z) (fun _ => B_R_reads_23 (fun _ => B_R_reads_102 (fun z => by exfalso; omega) (fun _ => B_R_reads_109 ?_)) (fun z => by exfalso; omega))
  rw [e42, ← hk]
  exact q M h.1 h.2.1
abbrev oOps (ops : List Int) : Prop := ∀ x ∈ ops, isOp x
/-- an argument's end, that something follows -/
theorem S_arg0 (H : YH Z) (h : YS Z M (ops ++ m :: st) o cs) (hb : cs.length + (ops.length + (st.length + 1)) ≤ k ∧ k ≤ Z.2.2) (hv : rk (yg Z k) = 0) (hop : oOps ops) (hm : isM0 m) (ho : 0 < o) (q1 : yg Z k = ndm m → k + 1 ≤ Z.2.2 → ∀ M1, YS Z M1 (nxm m :: st) o (cs ++ cds ops) → Wt X d Q 1 (k + 1) M1) (q2 : yg Z k ≠ ndm m → Ft Z Q k) : Wt X d Q 0 k M := by
  have h120 := H.2.1
  have hnd : ndm m ≠ -1 := by unfold ndm; rcases hm with y | y | y | y | y <;> rw [y] <;> decide
  have n41 : ndm m ≠ 41 := by unfold ndm; rcases hm with y | y | y | y | y <;> rw [y] <;> decide
  by_cases hk : k = Z.2.2
  · refine turn0_end h H hk ho (q2 (fun z => ?_))
    have := (yg_r H k).2.2 (by rw [z]; exact hnd)
    omega
  · by_cases hg : yg Z k = ndm m
    · exact turn0 h H (by omega) (S_behind_next (d := d + 1) H h (by omega) (by omega) hop hm hg (fun M1 y => Or.inl ⟨k + 1, rfl, fun z => absurd (hg.symm.trans z) n41, fun _ => q1 hg (by omega) M1 y, _, _, _, y⟩))
    · exact turn0 h H (by omega) (S_behind_bad (d := d + 1) H h (by omega) (by omega) hop (Or.inl hm) hv hg (Or.inr ⟨rfl, q2 hg M h.1 h.2.1⟩))
/-- the last argument's end -/
theorem S_arg1 (H : YH Z) (h : YS Z M (ops ++ m :: st) o cs) (hb : cs.length + (ops.length + (st.length + 1)) ≤ k ∧ k ≤ Z.2.2) (hv : rk (yg Z k) = 0) (hop : oOps ops) (hm : isM1 m) (ho : 1 ≤ o ∧ o ≤ 5) (q1 : yg Z k = 41 → k + 1 ≤ Z.2.2 → ∀ M1, YS Z M1 st (o - 1) (cs ++ cds ops ++ (if m = 40 then [] else [20000 + m])) → Wt X d Q 0 (k + 1) M1) (q2 : yg Z k ≠ 41 → Ft Z Q k) : Wt X d Q 0 k M := by
  have h120 := H.2.1
  have e41 : ndm m = 41 := by unfold ndm; rcases hm with y | y | y | y <;> rw [y] <;> decide
  by_cases hk : k = Z.2.2
  · refine turn0_end h H hk (by omega) (q2 (fun z => ?_))
    have := (yg_r H k).2.2 (by rw [z]; decide)
    omega
  · by_cases hg : yg Z k = 41
    · exact turn0 h H (by omega) (S_behind_close (d := d + 1) H h (by omega) (by omega) hop hm ho hg (fun M1 y => Or.inl ⟨k + 1, rfl, fun _ => q1 hg (by omega) M1 y, fun z => absurd hg z, _, _, _, y⟩))
    · exact turn0 h H (by omega) (S_behind_bad (d := d + 1) H h (by omega) (by omega) hop (Or.inr hm) hv (by rw [e41]; exact hg) (Or.inr ⟨rfl, q2 hg M h.1 h.2.1⟩))
/-- a sum, n ( more that may be open -/
def YSum (X : vX) (d : Nat) (Z : YZ) (n : Nat) : Prop := ∀ (st cs : List Int) (k : Nat) (M : vM) (Q : Option vV → vM → Prop), YS Z M st (5 - n) cs → Low 1 st → BN Z cs st k → (∀ f, kp_lvl (yg Z) Z.2.2 n k = .inl f → Ft Z Q f) → (∀ c k' ops cs' M1, kp_lvl (yg Z) Z.2.2 n k = .inr (c, k') → YS Z M1 (ops ++ st) (5 - n) cs' → oOps ops → cs' ++ cds ops = cs ++ c → rk (yg Z k') = 0 → k < k' → (cs'.length + (ops.length + st.length) ≤ k' ∧ k' ≤ Z.2.2) → Wt X d Q 0 k' M1) → Wt X d Q 1 k M
/-- what an argument of the m more gives, then the rest -/
theorem S_argA {m' : Nat} (H : YH Z) (hn : m' < 5) (hS : YSum X d Z m') (hm : isM0 m) (h : YS Z M (m :: st) (5 - m') cs) (hb : BN Z cs (m :: st) k) (F : List Int → Nat → KR) (q2 : ∀ f, kp_then (kp_lvl (yg Z) Z.2.2 m' k) (fun c1 k => kp_need (yg Z) (ndm m) k (F c1)) = .inl f → (∀ c1 k1, kp_lvl (yg Z) Z.2.2 m' k = .inr (c1, k1) → yg Z k1 = ndm m → False) → Ft Z Q f) (q1 : ∀ c1 k1 M1, kp_lvl (yg Z) Z.2.2 m' k = .inr (c1, k1) → kp_then (kp_lvl (yg Z) Z.2.2 m' k) (fun c1 k => kp_need (yg Z) (ndm m) k (F c1)) = F c1 (k1 + 1) → k < k1 → YS Z M1 (nxm m :: st) (5 - m') (cs ++ c1) → BN Z (cs ++ c1) (nxm m :: st) (k1 + 1) → Wt X d Q 1 (k1 + 1) M1) : Wt X d Q 1 k M := by
  have rm := rk_m (Or.inl hm)
  refine hS (m :: st) cs k M Q h (show rk m < 1 by omega) hb (fun f e => q2 f (by rw [e]; rfl) (fun c1 k1 e2 => by rw [e] at e2; cases e2)) (fun c k' ops cs' M1 e y1 y2 y3 y4 y5 y6 => ?_)
  have y6a : cs'.length + (ops.length + (st.length + 1)) ≤ k' := y6.1
  have le : (cs' ++ cds ops).length = (cs ++ c).length := by rw [y3]
  rw [List.length_append, List.length_map] at le
  refine S_arg0 H y1 ⟨y6a, y6.2⟩ y4 y2 hm (by omega) (fun hg hk M2 z => ?_) (fun hg => q2 k' ?_ (fun c1 k1 e2 e3 => ?_))
  · rw [y3] at z
    refine q1 c k' M2 e ?_ y5 z ⟨?_, hk⟩
    · rw [e]
      show kp_need (yg Z) (ndm m) k' (F c) = _
      unfold kp_need
      rw [if_pos hg]
    · show (cs ++ c).length + (st.length + 1) ≤ k' + 1
      omega
  · rw [e]
    show kp_need (yg Z) (ndm m) k' (F c) = _
    unfold kp_need
    rw [if_neg hg]
  · rw [e] at e2
    cases e2
    exact hg e3
theorem S_argB {m' : Nat} (H : YH Z) (hn : m' < 5) (hS : YSum X d Z m') (hm : isM1 m) (h : YS Z M (m :: st) (5 - m') cs) (hb : BN Z cs (m :: st) k) (F : List Int → Nat → KR) (q2 : ∀ f, kp_then (kp_lvl (yg Z) Z.2.2 m' k) (fun c1 k => kp_need (yg Z) 41 k (F c1)) = .inl f → (∀ c1 k1, kp_lvl (yg Z) Z.2.2 m' k = .inr (c1, k1) → yg Z k1 = 41 → False) → Ft Z Q f) (q1 : ∀ c1 k1 M1, kp_lvl (yg Z) Z.2.2 m' k = .inr (c1, k1) → kp_then (kp_lvl (yg Z) Z.2.2 m' k) (fun c1 k => kp_need (yg Z) 41 k (F c1)) = F c1 (k1 + 1) → k < k1 → YS Z M1 st (5 - (m' + 1)) (cs ++ c1 ++ (if m = 40 then [] else [20000 + m])) → BN Z (cs ++ c1 ++ (if m = 40 then [] else [20000 + m])) st (k1 + 1) → Wt X d Q 0 (k1 + 1) M1) : Wt X d Q 1 k M := by
  have rm := rk_m (Or.inr hm)
  refine hS (m :: st) cs k M Q h (show rk m < 1 by omega) hb (fun f e => q2 f (by rw [e]; rfl) (fun c1 k1 e2 => by rw [e] at e2; cases e2)) (fun c k' ops cs' M1 e y1 y2 y3 y4 y5 y6 => ?_)
  have y6a : cs'.length + (ops.length + (st.length + 1)) ≤ k' := y6.1
  have le : (cs' ++ cds ops).length = (cs ++ c).length := by rw [y3]
  rw [List.length_append, List.length_map] at le
  have lm : (if m = 40 then ([] : List Int) else [20000 + m]).length ≤ 1 := by split <;> simp
  refine S_arg1 H y1 ⟨y6a, y6.2⟩ y4 y2 hm (by omega) (fun hg hk M2 z => ?_) (fun hg => q2 k' ?_ (fun c1 k1 e2 e3 => ?_))
  · rw [y3, show 5 - m' - 1 = 5 - (m' + 1) by omega] at z
    refine q1 c k' M2 e ?_ y5 z ⟨?_, hk⟩
    · rw [e]
      show kp_need (yg Z) 41 k' (F c) = _
      unfold kp_need
      rw [if_pos hg]
    · rw [List.length_append]
      omega
  · rw [e]
    show kp_need (yg Z) 41 k' (F c) = _
    unfold kp_need
    rw [if_neg hg]
  · rw [e] at e2
    cases e2
    exact hg e3
end TU
