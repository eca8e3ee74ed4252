/-! THE REFERENCE READS A TEXT: behind an operand; one turn -/
section BH
variable {X : vX} {d : Nat} {M : vM} {Q : Option vV → vM → Prop} {Z : YZ} {st cs ops : List Int} {o k : Nat} {m : Int}
theorem LP_scan (hR : vRefs M) {l1 l2 : Int} (hlow : Low 1 st) (q : vw X (d + 1) 257 74 [vR 81, vI l1, vI l2, vI ((st.length : Int) - 1), vN, vN] [] M Q) : ∀ (ops : List Int), SQ M (ops ++ st) → (ops ++ st).length ≤ 120 → (∀ x ∈ ops, isOp x) → vw X (d + 1) 257 52 [vR 81, vI l1, vI l2, vI (((ops ++ st).length : Int) - 1), vN, vN] [] M Q
  | [], hs, hl, ho => by
    cases st with
    | nil => exact B_R_behind_52 (fun _ => q) (fun z => by simp at z)
    | cons y r =>
      have hs2 : M 110 r.length = y := hs.1
      have hl2 : r.length + 1 ≤ 120 := hl
      have e : ((([] ++ y :: r : List Int).length : Int) - 1) = (r.length : Int) := by show ((r.length + 1 : Nat) : Int) - 1 = _; omega
      have e2 : (((y :: r : List Int).length : Int) - 1) = (r.length : Int) := by show ((r.length + 1 : Nat) : Int) - 1 = _; omega
      rw [e2] at q
      rw [e]
      refine B_R_behind_52 (fun _ => q) (fun _ => B_R_behind_56 hR (by omega) ?_)
      rw [Int.toNat_natCast, hs2]
      exact S_rank (B_R_behind_65 (fun _ => q) (fun z => by have : rk y < 1 := hlow; exfalso; omega))
  | x :: ops, hs, hl, ho => by
    have hs2 : M 110 (ops ++ st).length = x := hs.1
    have hl2 : (ops ++ st).length + 1 ≤ 120 := hl
    have e : (((x :: ops ++ st : List Int).length : Int) - 1) = ((ops ++ st).length : Int) := by show (((ops ++ st).length + 1 : Nat) : Int) - 1 = _; omega
    have ox := ho x (List.mem_cons_self ..)
    rw [e]
    refine B_R_behind_52 (fun z => by exfalso; omega) (fun _ => B_R_behind_56 hR (by omega) ?_)
    rw [Int.toNat_natCast, hs2]
    have r1 : 0 < rk x := by unfold rk; rcases ox with z | z | z <;> rw [z] <;> decide
    refine S_rank (B_R_behind_65 (fun z => by exfalso; omega) (fun _ => B_R_behind_68 ?_))
    rw [w32_i (by omega)]
    exact LP_scan hR hlow q ops hs.2 (by omega) (fun z hz => ho z (List.mem_cons_of_mem _ hz))
theorem rk_op {x : Int} (h : isOp x) : 1 ≤ rk x := by unfold rk; rcases h with z | z | z <;> rw [z] <;> decide
/-- an operator -/
theorem S_behind_op (H : YH Z) (h : YS Z M (ops ++ st) o cs) (hk : k < 900) (hv : 0 < rk (yg Z k)) (hl : cs.length + ops.length + st.length ≤ 120) (ho : ∀ x ∈ ops, isOp x ∧ rk (yg Z k) ≤ rk x) (hlow : Low (rk (yg Z k)) st) (q : ∀ M1, YS Z M1 (yg Z k :: st) o (cs ++ cds ops) → Q (some (vI ((k + 1 : Nat) : Int))) M1) : cq X (d + 4) 257 [vR 81, vI (k : Int)] M Q := by
  refine E_R_behind (B_R_behind_0 (S_byteAt H h (by omega) (B_R_behind_5 (S_rank (B_R_behind_10 (fun z => by exfalso; omega) (fun _ => B_R_behind_13 (S_rank (B_R_behind_18 (S_unwinds H hlow h hl ho (fun M1 y => B_R_behind_21 y.1 ?_ (fun hR2 => ?_)))))))))))
  · rw [y.2.2.1]; omega
  · have e44 := y.2.2.1
    rw [e44, Int.toNat_natCast, show (vm_up M1 110 st.length (yg Z k)) 81 44 = (st.length : Int) by rw [vm_up2, if_neg (by omega)]; exact e44, w32_i (x := (st.length : Int) + 1) (by omega)] at hR2 ⊢
    rw [w32_i (x := (k : Int) + 1) (by omega)]
    exact q _ (YS_push y rfl hR2)
def nxm (m : Int) : Int := if m = 105 then 106 else if m = 109 then 77 else if m = 120 then 88 else if m = 106 then 107 else if m = 107 then 73 else 0
def ndm (m : Int) : Int := if m = 105 then 60 else if m = 109 ∨ m = 120 ∨ m = 106 ∨ m = 107 then 44 else 41
abbrev isM0 (m : Int) : Prop := m = 105 ∨ m = 109 ∨ m = 120 ∨ m = 106 ∨ m = 107
abbrev isM1 (m : Int) : Prop := m = 40 ∨ m = 77 ∨ m = 88 ∨ m = 73
theorem rk_m (h : isM0 m ∨ isM1 m) : rk m = 0 := by unfold rk; rcases h with (z | z | z | z | z) | (z | z | z | z) <;> rw [z] <;> decide
/-- to where the mark is known -/
theorem bh_mark (H : YH Z) (h : YS Z M (ops ++ m :: st) o cs) (hk : k < 900) (hv : rk (yg Z k) = 0) (hl : cs.length + ops.length + (st.length + 1) ≤ 120) (ho : ∀ x ∈ ops, isOp x) (hm : rk m = 0) (q1 : yg Z k = 60 → vw X (d + 3) 257 96 [vR 81, vI (k : Int), vI (yg Z k), vI (st.length : Int), vI m, vN] [] M Q) (q2 : yg Z k ≠ 60 → vw X (d + 3) 257 108 [vR 81, vI (k : Int), vI (yg Z k), vI (st.length : Int), vI m, vN] [] M Q) : cq X (d + 4) 257 [vR 81, vI (k : Int)] M Q := by
  have ll : (ops ++ m :: st).length = ops.length + (st.length + 1) := List.length_append
  have e44 : M 81 44 = ((ops ++ m :: st).length : Int) := h.2.2.1
  have e110 : M 110 st.length = m := (SQ_app ops _ h.2.2.2.2.2.1).1
  refine E_R_behind (B_R_behind_0 (S_byteAt H h (by omega) (B_R_behind_5 (S_rank (B_R_behind_10 (fun _ => B_R_behind_45 ?_) (fun z => by exfalso; omega))))))
  rw [e44, w32_i (by omega)]
  refine LP_scan (d := d + 2) (st := m :: st) h.1 (show rk m < 1 by omega) ?_ ops h.2.2.2.2.2.1 (by omega) ho
  have e : (((m :: st : List Int).length : Int) - 1) = (st.length : Int) := by show ((st.length + 1 : Nat) : Int) - 1 = _; omega
  rw [e]
  refine B_R_behind_74 (fun _ => B_R_behind_82 h.1 (by omega) (fun z => ?_) (fun z => ?_)) (fun z => by exfalso; omega)
  · rw [Int.toNat_natCast, e110]; exact q2 z
  · rw [Int.toNat_natCast, e110]; exact q1 z
/-- a mark that goes on -/
theorem S_behind_next (H : YH Z) (h : YS Z M (ops ++ m :: st) o cs) (hk : k < 900) (hl : cs.length + ops.length + (st.length + 1) ≤ 120) (ho : ∀ x ∈ ops, isOp x) (hm : isM0 m) (hg : yg Z k = ndm m) (q : ∀ M1, YS Z M1 (nxm m :: st) o (cs ++ cds ops) → Q (some (vI ((k + 1 : Nat) : Int))) M1) : cq X (d + 4) 257 [vR 81, vI (k : Int)] M Q := by
  have hv : rk (yg Z k) = 0 := by rw [hg]; unfold ndm rk; rcases hm with z | z | z | z | z <;> rw [z] <;> decide
  have rm := rk_m (Or.inl hm)
  have go : vw X (d + 3) 257 174 [vR 81, vI (k : Int), vI (yg Z k), vI (st.length : Int), vI m, vI (nxm m)] [] M Q := by
    refine B_R_behind_174 (S_unwinds H (st := m :: st) (show rk m < 1 by omega) h (by show cs.length + ops.length + (st.length + 1) ≤ 120; omega) (fun x hx => ⟨ho x hx, rk_op (ho x hx)⟩) (fun M1 y => ?_))
    have e44 : M1 81 44 = ((st.length + 1 : Nat) : Int) := y.2.2.1
    have i1 : w32 (M1 81 44 - 1) = (st.length : Int) := by rw [e44, w32_i (by omega)]; omega
    refine B_R_behind_179 y.1 (by rw [i1]; omega) (fun hR2 => ?_)
    rw [i1, Int.toNat_natCast] at hR2 ⊢
    clear i1
    rw [w32_i (x := (k : Int) + 1) (by omega)]
    refine q _ ⟨hR2, y.2.1.up (by omega), ?_, ?_, ?_, ⟨?_, ?_⟩, fun i hi => ?_⟩
    · rw [vm_up2, if_neg (by omega)]; exact e44
    · rw [vm_up2, if_neg (by omega)]; exact y.2.2.2.1
    · rw [vm_up2, if_neg (by omega)]; exact y.2.2.2.2.1
    · rw [vm_up2, if_pos ⟨rfl, rfl⟩]
    · exact SQ_up st y.2.2.2.2.2.1.2 (Nat.le_refl _)
    · rw [vm_up2, if_neg (by omega)]; exact y.2.2.2.2.2.2 i hi
  refine bh_mark H h hk hv hl ho rm (fun z => ?_) (fun z => ?_)
  · have e : m = 105 := by rw [hg] at z; unfold ndm at z; rcases hm with y | y | y | y | y <;> rw [y] at z <;> first | exact y | (exfalso; revert z; decide)
    subst e
    exact B_R_behind_96 (fun y => absurd rfl y) (fun _ => B_R_behind_103 (fun y => absurd y (by decide)) (fun _ => go))
  · have e44 : yg Z k = 44 := by rw [hg] at z ⊢; unfold ndm at z ⊢; rcases hm with y | y | y | y | y <;> rw [y] at z ⊢ <;> first | rfl | (exfalso; revert z; decide)
    refine B_R_behind_108 (fun _ => ?_) (fun y => absurd e44 y)
    rcases hm with y | y | y | y | y <;> subst y
    · exact absurd hg z
    · exact B_R_behind_118 (fun y => absurd rfl y) (fun _ => B_R_behind_125 (fun y => absurd y (by decide)) (fun _ => go))
    · exact B_R_behind_118 (fun _ => B_R_behind_130 (fun y => absurd rfl y) (fun _ => B_R_behind_137 (fun y => absurd y (by decide)) (fun _ => go))) (fun y => absurd y (by decide))
    · exact B_R_behind_118 (fun _ => B_R_behind_130 (fun _ => B_R_behind_142 (fun y => absurd rfl y) (fun _ => B_R_behind_149 (fun y => absurd y (by decide)) (fun _ => go))) (fun y => absurd y (by decide))) (fun y => absurd y (by decide))
    · exact B_R_behind_118 (fun _ => B_R_behind_130 (fun _ => B_R_behind_142 (fun _ => B_R_behind_154 (fun y => absurd rfl y) (fun _ => B_R_behind_161 (fun y => absurd y (by decide)) (fun _ => go))) (fun y => absurd y (by decide))) (fun y => absurd y (by decide))) (fun y => absurd y (by decide))
/-- a mark that ends -/
theorem S_behind_close (H : YH Z) (h : YS Z M (ops ++ m :: st) o cs) (hk : k < 900) (hl : cs.length + ops.length + (st.length + 1) ≤ 120) (ho : ∀ x ∈ ops, isOp x) (hm : isM1 m) (ho1 : 1 ≤ o ∧ o ≤ 5) (hg : yg Z k = 41) (q : ∀ M1, YS Z M1 st (o - 1) (cs ++ cds ops ++ (if m = 40 then [] else [20000 + m])) → Q (some (vI ((k + 1 : Nat) : Int))) M1) : cq X (d + 4) 257 [vR 81, vI (k : Int)] M Q := by
  have hv : rk (yg Z k) = 0 := by rw [hg]; decide
  have rm := rk_m (Or.inr hm)
  have fin : vw X (d + 3) 257 230 [vR 81, vI (k : Int), vI (yg Z k), vI (st.length : Int), vI m, vI 0] [] M Q := by
    refine B_R_behind_230 (S_unwinds H (st := m :: st) (show rk m < 1 by omega) h (by show cs.length + ops.length + (st.length + 1) ≤ 120; omega) (fun x hx => ⟨ho x hx, rk_op (ho x hx)⟩) (fun M1 y => ?_))
    have e44 : M1 81 44 = ((st.length + 1 : Nat) : Int) := y.2.2.1
    have e45 := y.2.2.2.1
    have i1 : w32 (M1 81 44 - 1) = (st.length : Int) := by rw [e44, w32_i (by omega)]; omega
    have lc : (cs ++ cds ops).length = cs.length + ops.length := by rw [List.length_append, List.length_map]
    refine B_R_behind_235 y.1 (fun z hR2 => ?_) (fun z hR2 => ?_) <;> rw [i1, show (vm_up M1 81 44 (st.length : Int)) 81 45 = (o : Int) by rw [vm_up2, if_neg (by omega)]; exact e45, w32_i (x := (o : Int) - 1) (by omega)] at hR2 ⊢
    all_goals
      clear i1
      have hR1 : vRefs (vm_up M1 81 44 (st.length : Int)) := vRefs_up y.1 ⟨by decide, by decide⟩
      have y1 := YS_pop y hR1
      have y2 : YS Z (vm_up (vm_up M1 81 44 (st.length : Int)) 81 45 ((o : Int) - 1)) st (o - 1) (cs ++ cds ops) := ⟨hR2, y1.2.1.up (by omega), by rw [vm_up2, if_neg (by omega)]; exact y1.2.2.1, by rw [vm_up2, if_pos ⟨rfl, rfl⟩]; omega, by rw [vm_up2, if_neg (by omega)]; exact y1.2.2.2.2.1, SQ_fr (fun j => by rw [vm_up2, if_neg (by omega)]) st y1.2.2.2.2.2.1, fun i hi => by rw [vm_up2, if_neg (by omega)]; exact y1.2.2.2.2.2.2 i hi⟩
    · refine B_R_behind_272 ?_
      rw [w32_i (x := (k : Int) + 1) (by omega)]
      rw [if_pos z, List.append_nil] at q
      exact q _ y2
    · refine B_R_behind_262 ?_
      rw [w32_i (x := 20000 + m) (by rcases hm with x | x | x | x <;> omega)]
      refine S_puts H y2 (by omega) (fun M2 y3 => B_R_behind_272 ?_)
      rw [w32_i (x := (k : Int) + 1) (by omega)]
      rw [if_neg z] at q
      exact q _ y3
  refine bh_mark H h hk hv hl ho rm (fun z => by exfalso; omega) (fun _ => B_R_behind_108 (fun z => by exfalso; omega) (fun _ => B_R_behind_114 (fun _ => B_R_behind_196 (fun z => absurd hg z) (fun _ => ?_)) (fun y => absurd rfl y)))
  refine B_R_behind_202 (fun _ => fin) (fun z1 => B_R_behind_209 (fun _ => fin) (fun z2 => B_R_behind_216 (fun _ => fin) (fun z3 => B_R_behind_223 (fun z4 => ?_) (fun _ => fin))))
  exfalso
  rcases hm with x | x | x | x <;> omega
/-- no such sign here: a mark -/
theorem S_behind_bad (H : YH Z) (h : YS Z M (ops ++ m :: st) o cs) (hk : k < 900) (hl : cs.length + ops.length + (st.length + 1) ≤ 120) (ho : ∀ x ∈ ops, isOp x) (hm : isM0 m ∨ isM1 m) (hv : rk (yg Z k) = 0) (hg : yg Z k ≠ ndm m) (q : Q (some (vI (-1 - (k : Int)))) M) : cq X (d + 4) 257 [vR 81, vI (k : Int)] M Q := by
  have rm := rk_m hm
  have bad : ∀ l5 : Int, vw X (d + 3) 257 276 [vR 81, vI (k : Int), vI (yg Z k), vI (st.length : Int), vI m, vI l5] [] M Q := fun l5 => B_R_behind_276 (by rw [w32_i (by omega)]; exact q)
  have no41 : isM1 m → yg Z k ≠ 41 := fun x y => hg (by rw [y]; unfold ndm; rcases x with z | z | z | z <;> rw [z] <;> decide)
  have r196 : vw X (d + 3) 257 196 [vR 81, vI (k : Int), vI (yg Z k), vI (st.length : Int), vI m, vI 0] [] M Q := by
    refine B_R_behind_196 (fun _ => bad 0) (fun z => ?_)
    have hm0 : isM0 m := hm.resolve_right (fun x => no41 x z)
    refine B_R_behind_202 (fun y => ?_) (fun z1 => B_R_behind_209 (fun y => ?_) (fun z2 => B_R_behind_216 (fun y => ?_) (fun z3 => B_R_behind_223 (fun _ => bad 0) (fun y => ?_))))
    all_goals
      exfalso
      rcases hm0 with x | x | x | x | x <;> omega
  have r108 : vw X (d + 3) 257 108 [vR 81, vI (k : Int), vI (yg Z k), vI (st.length : Int), vI m, vN] [] M Q := by
    refine B_R_behind_108 (fun z => ?_) (fun _ => B_R_behind_114 (fun _ => r196) (fun y => absurd rfl y))
    have nd : m ≠ 109 ∧ m ≠ 120 ∧ m ≠ 106 ∧ m ≠ 107 := by
      refine ⟨fun y => hg ?_, fun y => hg ?_, fun y => hg ?_, fun y => hg ?_⟩ <;> rw [z, y] <;> decide
    exact B_R_behind_118 (fun _ => B_R_behind_130 (fun _ => B_R_behind_142 (fun _ => B_R_behind_154 (fun _ => B_R_behind_166 (fun _ => r196) (fun y => absurd rfl y)) (fun y => absurd y nd.2.2.2)) (fun y => absurd y nd.2.2.1)) (fun y => absurd y nd.2.1)) (fun y => absurd y nd.1)
  refine bh_mark H h hk hv hl ho rm (fun z => B_R_behind_96 (fun _ => r108) (fun y => ?_)) (fun _ => r108)
  exact absurd (by rw [z, y]; decide) hg
/-- no such sign here: no mark -/
theorem S_behind_none (H : YH Z) (h : YS Z M ops o cs) (hk : k < 900) (hl : cs.length + ops.length ≤ 120) (ho : ∀ x ∈ ops, isOp x) (hv : rk (yg Z k) = 0) (q : Q (some (vI (-1 - (k : Int)))) M) : cq X (d + 4) 257 [vR 81, vI (k : Int)] M Q := by
  have e44 : M 81 44 = (ops.length : Int) := h.2.2.1
  have bad : ∀ l5 : Int, vw X (d + 3) 257 276 [vR 81, vI (k : Int), vI (yg Z k), vI (-1), vI 0, vI l5] [] M Q := fun l5 => B_R_behind_276 (by rw [w32_i (by omega)]; exact q)
  have r196 : vw X (d + 3) 257 196 [vR 81, vI (k : Int), vI (yg Z k), vI (-1), vI 0, vI 0] [] M Q := B_R_behind_196 (fun _ => bad 0) (fun _ => B_R_behind_202 (fun y => absurd y (by decide)) (fun _ => B_R_behind_209 (fun y => absurd y (by decide)) (fun _ => B_R_behind_216 (fun y => absurd y (by decide)) (fun _ => B_R_behind_223 (fun _ => bad 0) (fun y => absurd y (by decide))))))
  have r108 : vw X (d + 3) 257 108 [vR 81, vI (k : Int), vI (yg Z k), vI (-1), vI 0, vN] [] M Q := B_R_behind_108 (fun _ => B_R_behind_118 (fun _ => B_R_behind_130 (fun _ => B_R_behind_142 (fun _ => B_R_behind_154 (fun _ => B_R_behind_166 (fun _ => r196) (fun y => absurd rfl y)) (fun y => absurd y (by decide))) (fun y => absurd y (by decide))) (fun y => absurd y (by decide))) (fun y => absurd y (by decide))) (fun _ => B_R_behind_114 (fun _ => r196) (fun y => absurd rfl y))
  refine E_R_behind (B_R_behind_0 (S_byteAt H h (by omega) (B_R_behind_5 (S_rank (B_R_behind_10 (fun _ => B_R_behind_45 ?_) (fun z => by exfalso; omega))))))
  rw [e44, w32_i (by omega)]
  have en : ops ++ [] = ops := List.append_nil ops
  have := LP_scan (X := X) (d := d + 2) (M := M) (Q := Q) (st := []) (l1 := (k : Int)) (l2 := yg Z k) h.1 trivial (B_R_behind_74 (fun z => by simp at z) (fun _ => B_R_behind_78 (fun _ => r108) (fun _ => B_R_behind_96 (fun _ => r108) (fun y => absurd y (by decide))))) ops (by rw [en]; exact h.2.2.2.2.2.1) (by rw [en]; omega) ho
  rw [en] at this
  exact this
end BH
