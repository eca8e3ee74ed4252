/-! THE REFERENCE READS A TEXT: its stack, its codes -/
def SQ (M : vM) : List Int → Prop
  | [] => True
  | y :: st => M 110 st.length = y ∧ SQ M st
theorem SQ_up {M : vM} {n : Nat} {y : Int} : ∀ (st : List Int), SQ M st → st.length ≤ n → SQ (vm_up M 110 n y) st
  | [], _, _ => trivial
  | x :: st, h, hn => by
    have hl : st.length + 1 ≤ n := hn
    refine ⟨?_, SQ_up st h.2 (by omega)⟩
    rw [vm_up2, if_neg (by omega)]
    exact h.1
theorem SQ_fr {M M1 : vM} (f : ∀ j, M1 110 j = M 110 j) : ∀ (st : List Int), SQ M st → SQ M1 st
  | [], _ => trivial
  | x :: st, h => ⟨by rw [f]; exact h.1, SQ_fr f st h.2⟩
theorem SQ_app {M : vM} : ∀ (a b : List Int), SQ M (a ++ b) → SQ M b
  | [], _, h => h
  | _ :: a, b, h => SQ_app a b h.2
/-- the memory at the start, the contract's number, the text's end -/
abbrev YZ : Type := vM × Nat × Nat
abbrev sYZ (C : Nat) (b j : Nat) : Prop := b = 110 ∨ (b = 108 ∧ 120 * C ≤ j) ∨ (b = 81 ∧ (j = 44 ∨ j = 45 ∨ j = 46))
def YH (Z : YZ) : Prop := Z.2.1 < 8 ∧ Z.2.2 ≤ 120 ∧ Z.1 81 42 = (Z.2.2 : Int) ∧ Z.1 81 38 = (Z.2.1 : Int) ∧ ∀ k, k < Z.2.2 → 0 ≤ Z.1 109 k ∧ Z.1 109 k ≤ 255
def yg (Z : YZ) (k : Nat) : Int := if k < Z.2.2 then Z.1 109 k else -1
def YS (Z : YZ) (M : vM) (st : List Int) (o : Nat) (cs : List Int) : Prop := vRefs M ∧ Fr (sYZ Z.2.1) Z.1 M ∧ M 81 44 = (st.length : Int) ∧ M 81 45 = (o : Int) ∧ M 81 46 = (cs.length : Int) ∧ SQ M st ∧ ∀ i, i < cs.length → M 108 (120 * Z.2.1 + i) = cs.getD i 0
def rk (c : Int) : Int := if c = 43 ∨ c = 45 then 1 else if c = 42 then 2 else 0
abbrev cds (ops : List Int) : List Int := ops.map (fun x => 20000 + x)
theorem getI_l {l l' : List Int} {k : Nat} (h : k < l.length) : (l ++ l').getD k 0 = l.getD k 0 := by simp [List.getD_eq_getElem?_getD, List.getElem?_append_left h]
theorem getI_r {l : List Int} {i : Int} : (l ++ [i]).getD l.length 0 = i := by simp [List.getD_eq_getElem?_getD]
section YD
variable {X : vX} {d : Nat} {M : vM} {Q : Option vV → vM → Prop} {Z : YZ} {st cs : List Int} {o k : Nat} {c0 : Int}
theorem S_byteAt (H : YH Z) (h : YS Z M st o cs) (hk : k < 1000) (q : Q (some (vI (yg Z k))) M) : cq X (d + 1) 250 [vR 81, vI (k : Int)] M Q := by
  have e42 : M 81 42 = (Z.2.2 : Int) := by rw [h.2.1 81 42 (by omega)]; exact H.2.2.1
  have h120 := H.2.1
  refine E_R_byteAt (B_R_byteAt_0 (fun z => B_R_byteAt_17 ?_) (fun z => B_R_byteAt_8 h.1 (by omega) ?_))
  · unfold yg at q
    rw [if_neg (by omega)] at q
    exact q
  · unfold yg at q
    rw [if_pos (by omega)] at q
    rw [Int.toNat_natCast, h.2.1 109 k (by omega)]
    exact q
theorem yg_r (H : YH Z) (k : Nat) : -1 ≤ yg Z k ∧ yg Z k ≤ 255 ∧ (yg Z k ≠ -1 → k < Z.2.2) := by
  unfold yg
  by_cases z : k < Z.2.2
  · rw [if_pos z]
    have := H.2.2.2.2 k z
    exact ⟨by omega, by omega, fun _ => z⟩
  · rw [if_neg z]; exact ⟨by omega, by omega, fun y => absurd rfl y⟩
theorem S_rank (q : Q (some (vI (rk c0))) M) : cq X (d + 1) 252 [vI c0] M Q := by
  unfold rk at q
  refine E_R_rank (B_R_rank_0 (fun z => B_R_rank_12 ?_) (fun z => B_R_rank_6 (fun z2 => B_R_rank_16 (fun z3 => B_R_rank_26 ?_) (fun z3 => B_R_rank_22 ?_)) (fun z2 => B_R_rank_12 ?_)))
  · rw [if_pos (Or.inl z)] at q; exact q
  · rw [if_neg (by omega), if_neg z3] at q; exact q
  · rw [if_neg (by omega), if_pos z3] at q; exact q
  · rw [if_pos (Or.inr z2)] at q; exact q
theorem S_puts (H : YH Z) (h : YS Z M st o cs) (hc : cs.length < 120) (q : ∀ M1, YS Z M1 st o (cs ++ [c0]) → Q none M1) : cq X (d + 1) 251 [vR 81, vI c0] M Q := by
  have e38 : M 81 38 = (Z.2.1 : Int) := by rw [h.2.1 81 38 (by omega)]; exact H.2.2.2.1
  have hC := H.1
  have e46 := h.2.2.2.2.1
  have i1 : Unit → w32 (w32 (120 * M 81 38) + M 81 46) = ((120 * Z.2.1 + cs.length : Nat) : Int) := fun _ => by rw [e38, e46, w32_i (x := 120 * (Z.2.1 : Int)) (by omega), w32_i (by omega)]; omega
  refine E_R_puts (B_R_puts_0 h.1 (by rw [i1 ()]; omega) (fun hR2 => ?_))
  rw [i1 (), Int.toNat_natCast, show (vm_up M 108 (120 * Z.2.1 + cs.length) c0) 81 46 = M 81 46 by rw [vm_up2, if_neg (by omega)], e46, w32_i (x := (cs.length : Int) + 1) (by omega)] at hR2 ⊢
  refine q _ ⟨hR2, (h.2.1.up (by omega)).up (by omega), ?_, ?_, ?_, ?_, fun i hi => ?_⟩
  · rw [vm_up2, if_neg (by omega), vm_up2, if_neg (by omega)]; exact h.2.2.1
  · rw [vm_up2, if_neg (by omega), vm_up2, if_neg (by omega)]; exact h.2.2.2.1
  · rw [vm_up2, if_pos ⟨rfl, rfl⟩, List.length_append]; rfl
  · exact SQ_fr (fun j => by rw [vm_up2, if_neg (by omega), vm_up2, if_neg (by omega)]) st h.2.2.2.2.2.1
  · rw [List.length_append] at hi
    have hi2 : i < cs.length + 1 := hi
    rw [vm_up2, if_neg (by omega), vm_up2]
    by_cases z : i = cs.length
    · rw [if_pos (by omega), z, getI_r]
    · rw [if_neg (by omega), getI_l (by omega)]; exact h.2.2.2.2.2.2 i (by omega)
theorem YS_pop {y : Int} (h : YS Z M (y :: st) o cs) (hR : vRefs (vm_up M 81 44 (st.length : Int))) : YS Z (vm_up M 81 44 (st.length : Int)) st o cs := by
  refine ⟨hR, h.2.1.up (by omega), by rw [vm_up2, if_pos ⟨rfl, rfl⟩], ?_, ?_, ?_, fun i hi => ?_⟩
  · rw [vm_up2, if_neg (by omega)]; exact h.2.2.2.1
  · rw [vm_up2, if_neg (by omega)]; exact h.2.2.2.2.1
  · exact SQ_fr (fun j => by rw [vm_up2, if_neg (by omega)]) st h.2.2.2.2.2.1.2
  · rw [vm_up2, if_neg (by omega)]; exact h.2.2.2.2.2.2 i hi
abbrev isOp (x : Int) : Prop := x = 42 ∨ x = 43 ∨ x = 45
/-- what stands on top of the stack counts less -/
def Low (v : Int) : List Int → Prop
  | [] => True
  | y :: _ => rk y < v
theorem LP_unwinds (H : YH Z) {v : Int} (hlow : Low v st) (q : ∀ M1 cs2, YS Z M1 st o cs2 → cs2 = cs → Q none M1) : ∀ (ops : List Int) (cs1 : List Int) (M : vM), YS Z M (ops ++ st) o cs1 → cs1 ++ cds ops = cs → cs1.length + ops.length + st.length ≤ 120 → (∀ x ∈ ops, isOp x ∧ v ≤ rk x) → vw X (d + 2) 253 0 [vR 81, vI v] [] M Q
  | [], cs1, M, h, hc, hl, ho => by
    have h0 : YS Z M st o cs1 := h
    have hl2 : cs1.length + 0 + st.length ≤ 120 := hl
    have fin : Q none M := q M cs1 h0 (by rw [← hc]; exact (List.append_nil cs1).symm)
    cases st with
    | nil => exact B_R_unwinds_0 (fun _ => B_R_unwinds_55 fin) (fun z => by rw [h0.2.2.1] at z; simp at z)
    | cons y st2 =>
      have hl3 : cs1.length + 0 + (st2.length + 1) ≤ 120 := hl2
      have e44 : M 81 44 = ((st2.length + 1 : Nat) : Int) := h0.2.2.1
      have i1 : Unit → w32 (M 81 44 - 1) = (st2.length : Int) := fun _ => by rw [e44, w32_i (by omega)]; omega
      refine B_R_unwinds_0 (fun z => by exfalso; omega) (fun _ => B_R_unwinds_7 h0.1 (by rw [i1 ()]; omega) ?_)
      rw [i1 (), Int.toNat_natCast, h0.2.2.2.2.2.1.1]
      exact S_rank (B_R_unwinds_21 (fun _ => B_R_unwinds_55 fin) (fun z => by have : rk y < v := hlow; exfalso; omega))
  | x :: ops, cs1, M, h, hc, hl, ho => by
    have h0 : YS Z M (x :: (ops ++ st)) o cs1 := h
    have hl3 : cs1.length + (ops.length + 1) + st.length ≤ 120 := hl
    have e44 : M 81 44 = (((ops ++ st).length + 1 : Nat) : Int) := h0.2.2.1
    have ll : (ops ++ st).length = ops.length + st.length := List.length_append
    have i1 : Unit → w32 (M 81 44 - 1) = ((ops ++ st).length : Int) := fun _ => by rw [e44, w32_i (by omega)]; omega
    obtain ⟨ox, rx⟩ := ho x (List.mem_cons_self ..)
    refine B_R_unwinds_0 (fun z => by exfalso; omega) (fun _ => B_R_unwinds_7 h0.1 (by rw [i1 ()]; omega) ?_)
    rw [i1 (), Int.toNat_natCast, h0.2.2.2.2.2.1.1]
    refine S_rank (B_R_unwinds_21 (fun z => by exfalso; omega) (fun _ => B_R_unwinds_25 h0.1 ?_ (fun hR2 => ?_)))
    · rw [i1 (), vm_up2, if_pos ⟨rfl, rfl⟩]; omega
    · rw [i1 ()] at hR2 ⊢
      rw [show (vm_up M 81 44 ((ops ++ st).length : Int)) 81 44 = ((ops ++ st).length : Int) by rw [vm_up2, if_pos ⟨rfl, rfl⟩], Int.toNat_natCast, show (vm_up M 81 44 ((ops ++ st).length : Int)) 110 (ops ++ st).length = x by rw [vm_up2, if_neg (by omega)]; exact h0.2.2.2.2.2.1.1, w32_i (x := 20000 + x) (by omega)]
      refine S_puts H (YS_pop h0 hR2) (by omega) (fun M1 y1 => B_R_unwinds_52 ?_)
      refine LP_unwinds H hlow q ops (cs1 ++ [20000 + x]) M1 y1 (by rw [← hc, List.append_assoc]; rfl) ?_ (fun z hz => ho z (List.mem_cons_of_mem _ hz))
      rw [List.length_append]
      show cs1.length + 1 + ops.length + st.length ≤ 120
      omega
theorem S_unwinds (H : YH Z) {v : Int} {ops : List Int} (hlow : Low v st) (h : YS Z M (ops ++ st) o cs) (hl : cs.length + ops.length + st.length ≤ 120) (ho : ∀ x ∈ ops, isOp x ∧ v ≤ rk x) (q : ∀ M1, YS Z M1 st o (cs ++ cds ops) → Q none M1) : cq X (d + 3) 253 [vR 81, vI v] M Q :=
  E_R_unwinds (LP_unwinds (cs := cs ++ cds ops) H hlow (fun M1 cs2 y e => by rw [e] at y; exact q M1 y) ops cs M h rfl hl ho)
theorem YS_push {y : Int} {i : Nat} (h : YS Z M st o cs) (hi : i = st.length) (hR : vRefs (vm_up (vm_up M 110 i y) 81 44 ((st.length + 1 : Nat) : Int))) : YS Z (vm_up (vm_up M 110 i y) 81 44 ((st.length + 1 : Nat) : Int)) (y :: st) o cs := by
  refine ⟨hR, (h.2.1.up (by omega)).up (by omega), by rw [vm_up2, if_pos ⟨rfl, rfl⟩]; rfl, ?_, ?_, ⟨?_, ?_⟩, fun j hj => ?_⟩
  · rw [vm_up2, if_neg (by omega), vm_up2, if_neg (by omega)]; exact h.2.2.2.1
  · rw [vm_up2, if_neg (by omega), vm_up2, if_neg (by omega)]; exact h.2.2.2.2.1
  · rw [vm_up2, if_neg (by omega), vm_up2, if_pos ⟨rfl, hi.symm⟩]
  · exact SQ_fr (fun j => by rw [vm_up2, if_neg (by omega)]) st (SQ_up st h.2.2.2.2.2.1 (by omega))
  · rw [vm_up2, if_neg (by omega), vm_up2, if_neg (by omega)]; exact h.2.2.2.2.2.2 j hj
theorem S_opensAt {m : Int} (H : YH Z) (h : YS Z M st o cs) (hk : k < 1000) (hl : st.length ≤ 120) (ho : o ≤ 5) (q1 : o = 5 → Q (some (vI (-1 - (k : Int)))) M) (q2 : o < 5 → ∀ M1, YS Z M1 (m :: st) (o + 1) cs → Q (some (vI ((k + 1 : Nat) : Int))) M1) : cq X (d + 1) 254 [vR 81, vI (k : Int), vI m] M Q := by
  have e45 := h.2.2.2.1
  have e44 := h.2.2.1
  refine E_R_opensAt (B_R_opensAt_0 (fun z => B_R_opensAt_12 h.1 ?_ (fun hR2 => ?_)) (fun z => B_R_opensAt_8 ?_))
  · rw [vm_up2, if_neg (by omega), e44]; omega
  · have a1 : (vm_up M 81 45 (w32 (M 81 45 + 1))) 81 44 = (st.length : Int) := by rw [vm_up2, if_neg (by omega)]; exact e44
    have a2 : w32 (M 81 45 + 1) = ((o + 1 : Nat) : Int) := by rw [e45, w32_i (by omega)]; omega
    rw [a2] at a1 hR2 ⊢
    clear a2
    rw [a1, Int.toNat_natCast, show (vm_up (vm_up M 81 45 ((o + 1 : Nat) : Int)) 110 st.length m) 81 44 = (st.length : Int) by rw [vm_up2, if_neg (by omega)]; exact a1, w32_i (x := (st.length : Int) + 1) (by omega)] at hR2 ⊢
    rw [w32_i (x := (k : Int) + 1) (by omega)]
    have hR1 : vRefs (vm_up M 81 45 ((o + 1 : Nat) : Int)) := vRefs_up h.1 ⟨by decide, by decide⟩
    have h1 : YS Z (vm_up M 81 45 ((o + 1 : Nat) : Int)) st (o + 1) cs := by
      refine ⟨hR1, h.2.1.up (by omega), a1, by rw [vm_up2, if_pos ⟨rfl, rfl⟩], by rw [vm_up2, if_neg (by omega)]; exact h.2.2.2.2.1, SQ_fr (fun j => by rw [vm_up2, if_neg (by omega)]) st h.2.2.2.2.2.1, fun j hj => by rw [vm_up2, if_neg (by omega)]; exact h.2.2.2.2.2.2 j hj⟩
    exact q2 (by omega) _ (YS_push h1 rfl hR2)
  · rw [w32_i (by omega)]
    exact q1 (by omega)
/-- what comes where something is wanted -/
abbrev OpR : Type := Nat ⊕ ((Int × Nat) ⊕ (Int × Nat))
abbrev oBad (f : Nat) : OpR := .inl f
abbrev oLeaf (c : Int) (k : Nat) : OpR := .inr (.inl (c, k))
abbrev oMark (m : Int) (k : Nat) : OpR := .inr (.inr (m, k))
def opn (o k : Nat) (m : Int) : OpR := if o = 5 then oBad k else oMark m (k + 1)
def opw (g : Nat → Int) (o k : Nat) : OpR :=
  if g k = 105 then (if g (k + 1) = 102 then (if g (k + 2) = 40 then opn o (k + 2) 105 else oBad (k + 2)) else oBad (k + 1))
  else if g (k + 1) = 105 then (if g (k + 2) = 110 then (if g (k + 3) = 40 then opn o (k + 3) 109 else oBad (k + 3)) else oBad (k + 2))
  else if g (k + 1) = 97 then (if g (k + 2) = 120 then (if g (k + 3) = 40 then opn o (k + 3) 120 else oBad (k + 3)) else oBad (k + 2))
  else oBad (k + 1)
def opd (g : Nat → Int) (o k : Nat) : OpR :=
  if 48 ≤ g k ∧ g k ≤ 57 then oLeaf (kp_num g 4 0 k).1 (kp_num g 4 0 k).2
  else if g k = 115 then oLeaf 10000 (k + 1)
  else if g k = 118 then oLeaf 10001 (k + 1)
  else if g k = 40 then opn o k 40
  else if g k = 109 ∨ g k = 105 then opw g o k
  else oBad k
/-- what is made of it -/
def OpQ (Z : YZ) (Q : Option vV → vM → Prop) (st : List Int) (o : Nat) (cs : List Int) (M : vM) : OpR → Prop
  | .inl f => Q (some (vI (-1 - (f : Int)))) M
  | .inr (.inl (c, k)) => ∀ M1, YS Z M1 st o (cs ++ [c]) → Q (some (vI (k : Int))) M1
  | .inr (.inr (m, k)) => ∀ M1, YS Z M1 (m :: st) (o + 1) cs → Q (some (vI (k : Int))) M1
theorem S_opn {m : Int} (H : YH Z) (h : YS Z M st o cs) (hk : k < 1000) (hl : st.length ≤ 120) (ho : o ≤ 5) (q : OpQ Z Q st o cs M (opn o k m)) : cq X (d + 1) 254 [vR 81, vI (k : Int), vI m] M Q := by
  unfold opn at q
  refine S_opensAt H h hk hl ho (fun z => ?_) (fun z M1 y => ?_)
  · rw [if_pos z] at q; exact q
  · rw [if_neg (by omega)] at q; exact q M1 y
theorem S_opensWord (H : YH Z) (h : YS Z M st o cs) (hk : k < 900) (hl : st.length ≤ 120) (ho : o ≤ 5) (q : OpQ Z Q st o cs M (opw (yg Z) o k)) : cq X (d + 2) 255 [vR 81, vI (k : Int)] M Q := by
  have n1 : Unit → w32 ((k : Int) + 1) = ((k + 1 : Nat) : Int) := fun _ => by rw [w32_i (by omega)]; omega
  have n2 : Unit → w32 ((k : Int) + 2) = ((k + 2 : Nat) : Int) := fun _ => by rw [w32_i (by omega)]; omega
  have n3 : Unit → w32 ((k : Int) + 3) = ((k + 3 : Nat) : Int) := fun _ => by rw [w32_i (by omega)]; omega
  have f2 : Unit → w32 (-2 - (k : Int)) = -1 - ((k + 1 : Nat) : Int) := fun _ => by rw [w32_i (by omega)]; omega
  have f3 : Unit → w32 (-3 - (k : Int)) = -1 - ((k + 2 : Nat) : Int) := fun _ => by rw [w32_i (by omega)]; omega
  have f4 : Unit → w32 (-4 - (k : Int)) = -1 - ((k + 3 : Nat) : Int) := fun _ => by rw [w32_i (by omega)]; omega
  unfold opw at q
  refine E_R_opensWord (B_R_opensWord_0 (S_byteAt H h (by omega) (B_R_opensWord_5 (fun z => B_R_opensWord_58 ?_) (fun z => B_R_opensWord_10 ?_))))
  · rw [if_neg z] at q
    rw [n1 ()]
    have min : yg Z (k + 1) = 105 ∨ yg Z (k + 1) = 97 → vw X (d + 1) 255 83 [vR 81, vI (k : Int), vI (yg Z (k + 1))] [] M Q := fun w => by
      refine B_R_opensWord_83 ?_
      rw [n2 ()]
      refine S_byteAt H h (by omega) (B_R_opensWord_90 (fun z2 => B_R_opensWord_101 (fun z3 => B_R_opensWord_111 ?_) (fun z3 => B_R_opensWord_106 ?_)) (fun z2 => B_R_opensWord_96 (fun z3 => B_R_opensWord_111 ?_) (fun z3 => B_R_opensWord_106 ?_)))
      · rw [if_neg z2, if_pos (w.resolve_left z2), if_pos z3] at q
        rw [n3 ()]
        refine S_byteAt H h (by omega) (B_R_opensWord_118 (fun z4 => B_R_opensWord_130 (fun _ => ?_) (fun y => absurd y z2)) (fun z4 => B_R_opensWord_123 ?_))
        · rw [if_pos z4] at q
          rw [n3 ()]
          refine B_R_opensWord_145 (S_opn H h (by omega) hl ho ?_)
          rcases hq : opn o (k + 3) 120 with f | ⟨c, k'⟩ | ⟨m, k'⟩ <;> rw [hq] at q
          · exact B_R_opensWord_150 q
          · exact fun M1 y => B_R_opensWord_150 (q M1 y)
          · exact fun M1 y => B_R_opensWord_150 (q M1 y)
        · rw [if_neg z4] at q
          rw [f4 ()]
          exact q
      · rw [if_neg z2, if_pos (w.resolve_left z2), if_neg z3] at q
        rw [f3 ()]
        exact q
      · rw [if_pos z2, if_pos z3] at q
        rw [n3 ()]
        refine S_byteAt H h (by omega) (B_R_opensWord_118 (fun z4 => B_R_opensWord_130 (fun y => absurd z2 y) (fun _ => ?_)) (fun z4 => B_R_opensWord_123 ?_))
        · rw [if_pos z4] at q
          rw [n3 ()]
          refine B_R_opensWord_140 (S_opn H h (by omega) hl ho ?_)
          rcases hq : opn o (k + 3) 109 with f | ⟨c, k'⟩ | ⟨m, k'⟩ <;> rw [hq] at q
          · exact B_R_opensWord_150 q
          · exact fun M1 y => B_R_opensWord_150 (q M1 y)
          · exact fun M1 y => B_R_opensWord_150 (q M1 y)
        · rw [if_neg z4] at q
          rw [f4 ()]
          exact q
      · rw [if_pos z2, if_neg z3] at q
        rw [f3 ()]
        exact q
    refine S_byteAt H h (by omega) (B_R_opensWord_65 (fun z2 => min (Or.inl z2)) (fun z2 => B_R_opensWord_72 (fun z3 => min (Or.inr z3)) (fun z3 => B_R_opensWord_78 ?_)))
    rw [if_neg z2, if_neg z3] at q
    rw [f2 ()]
    exact q
  · rw [if_pos z] at q
    rw [n1 ()]
    refine S_byteAt H h (by omega) (B_R_opensWord_17 (fun z2 => B_R_opensWord_29 ?_) (fun z2 => B_R_opensWord_22 ?_))
    · rw [if_pos z2] at q
      rw [n2 ()]
      refine S_byteAt H h (by omega) (B_R_opensWord_36 (fun z3 => B_R_opensWord_48 ?_) (fun z3 => B_R_opensWord_41 ?_))
      · rw [if_pos z3] at q
        rw [n2 ()]
        refine S_opn H h (by omega) hl ho ?_
        rcases hq : opn o (k + 2) 105 with f | ⟨c, k'⟩ | ⟨m, k'⟩ <;> rw [hq] at q
        · exact B_R_opensWord_57 q
        · exact fun M1 y => B_R_opensWord_57 (q M1 y)
        · exact fun M1 y => B_R_opensWord_57 (q M1 y)
      · rw [if_neg z3] at q
        rw [f3 ()]
        exact q
    · rw [if_neg z2] at q
      rw [f2 ()]
      exact q
theorem LP_opnum (H : YH Z) (h : YS Z M st o cs) (hk : k < 900) (hc : cs.length < 120) {l2 : Int} : ∀ (n i : Nat) (v : Int), i + n = 4 → 0 ≤ v → (v + 1) * 10 ^ n ≤ 10000 → (∀ M1, YS Z M1 st o (cs ++ [(kp_num (yg Z) n v (k + i)).1]) → Q (some (vI ((kp_num (yg Z) n v (k + i)).2 : Int))) M1) → vw X (d + 2) 256 25 [vR 81, vI (k : Int), vI l2, vI v, vI (i : Int)] [] M Q
  | 0, i, v, hi, hv, hv2, q => by
    refine B_R_operand_25 (fun _ => B_R_operand_75 (S_puts H h hc (fun M1 y => B_R_operand_80 ?_))) (fun z => by exfalso; omega)
    rw [w32_i (by omega), show (k : Int) + (i : Int) = ((k + i : Nat) : Int) by omega]
    exact q M1 y
  | n + 1, i, v, hi, hv, hv2, q => by
    have ix : Unit → w32 ((k : Int) + (i : Int)) = ((k + i : Nat) : Int) := fun _ => by rw [w32_i (by omega)]; omega
    have g := yg_r H (k + i)
    have hp : v * 10 + 10 ≤ 10000 := by
      have e : (v + 1) * 10 ^ (n + 1) = (v * 10 + 10) * 10 ^ n := by rw [Int.pow_succ]; grind
      have p1 : (1 : Int) ≤ 10 ^ n := Int.pow_pos (by decide)
      have := Int.mul_le_mul_of_nonneg_left p1 (show 0 ≤ v * 10 + 10 by omega)
      rw [e] at hv2
      omega
    refine B_R_operand_25 (fun z => by exfalso; omega) (fun _ => B_R_operand_31 ?_)
    rw [ix ()]
    refine S_byteAt H h (by omega) (B_R_operand_39 (S_R_in (B_R_operand_49 (fun z => B_R_operand_75 (S_puts H h hc (fun M1 y => B_R_operand_80 ?_))) (fun z => B_R_operand_52 ?_))))
    · have hno : ¬ (48 ≤ yg Z (k + i) ∧ yg Z (k + i) ≤ 57) := fun y => by rw [if_pos y] at z; omega
      rw [kp_num, if_neg hno] at q
      rw [ix ()]
      exact q M1 y
    · have hyes : 48 ≤ yg Z (k + i) ∧ yg Z (k + i) ≤ 57 := by
        by_cases y : 48 ≤ yg Z (k + i) ∧ yg Z (k + i) ≤ 57
        · exact y
        · exact absurd (if_neg y) z
      rw [kp_num, if_pos hyes] at q
      rw [ix ()]
      refine S_byteAt H h (by omega) (B_R_operand_64 ?_)
      rw [w32_i (x := 10 * v) (by omega), w32_i (x := 10 * v + yg Z (k + i)) (by omega), w32_i (x := 10 * v + yg Z (k + i) - 48) (by omega), w32_i (x := (i : Int) + 1) (by omega)]
      refine LP_opnum H h hk hc n (i + 1) _ (by omega) (by omega) ?_ (fun M1 y => ?_)
      · have e : (v + 1) * 10 ^ (n + 1) = (v * 10 + 10) * 10 ^ n := by rw [Int.pow_succ]; grind
        rw [e] at hv2
        have p1 : (0 : Int) ≤ 10 ^ n := Int.le_of_lt (Int.pow_pos (by decide))
        exact Int.le_trans (Int.mul_le_mul_of_nonneg_right (by omega) p1) hv2
      · have e : 10 * v + yg Z (k + i) - 48 = v * 10 + yg Z (k + i) - 48 := by omega
        rw [e] at y ⊢
        rw [show k + (i + 1) = k + i + 1 by omega] at y ⊢
        exact q M1 y
theorem S_operand (H : YH Z) (h : YS Z M st o cs) (hk : k < 900) (hl : st.length ≤ 120) (hc : cs.length < 120) (ho : o ≤ 5) (q : OpQ Z Q st o cs M (opd (yg Z) o k)) : cq X (d + 3) 256 [vR 81, vI (k : Int)] M Q := by
  have n1 : Unit → w32 ((k : Int) + 1) = ((k + 1 : Nat) : Int) := fun _ => by rw [w32_i (by omega)]; omega
  have f1 : Unit → w32 (-1 - (k : Int)) = -1 - (k : Int) := fun _ => by rw [w32_i (by omega)]
  unfold opd at q
  refine E_R_operand (B_R_operand_0 (S_byteAt H h (by omega) (B_R_operand_5 (S_R_in (B_R_operand_17 (fun z => ?_) (fun z => B_R_operand_20 ?_))))))
  · have hno : ¬ (48 ≤ yg Z k ∧ yg Z k ≤ 57) := fun y => by rw [if_pos y] at z; omega
    rw [if_neg hno] at q
    refine B_R_operand_85 (fun z1 => B_R_operand_97 (fun y => absurd z1 y) (fun _ => B_R_operand_104 (S_puts H h hc (fun M1 y => B_R_operand_116 ?_)))) (fun z1 => B_R_operand_91 (fun z2 => B_R_operand_120 (fun z3 => B_R_operand_136 (fun z4 => B_R_operand_148 ?_) (fun z4 => B_R_operand_142 (fun z5 => B_R_operand_156 ?_) (fun z5 => B_R_operand_148 ?_))) (fun z3 => B_R_operand_126 ?_)) (fun z2 => B_R_operand_97 (fun _ => B_R_operand_110 (S_puts H h hc (fun M1 y => B_R_operand_116 ?_))) (fun y => absurd y z1)))
    · rw [if_pos z1] at q
      rw [n1 ()]
      exact q M1 y
    · rw [if_neg z1, if_neg z2, if_neg z3, if_pos (Or.inl z4)] at q
      refine S_opensWord H h (by omega) hl ho ?_
      rcases hq : opw (yg Z) o k with f | ⟨c, k'⟩ | ⟨m, k'⟩ <;> rw [hq] at q
      · exact B_R_operand_153 q
      · exact fun M1 y => B_R_operand_153 (q M1 y)
      · exact fun M1 y => B_R_operand_153 (q M1 y)
    · rw [if_neg z1, if_neg z2, if_neg z3, if_neg (by omega)] at q
      rw [f1 ()]
      exact q
    · rw [if_neg z1, if_neg z2, if_neg z3, if_pos (Or.inr z5)] at q
      refine S_opensWord H h (by omega) hl ho ?_
      rcases hq : opw (yg Z) o k with f | ⟨c, k'⟩ | ⟨m, k'⟩ <;> rw [hq] at q
      · exact B_R_operand_153 q
      · exact fun M1 y => B_R_operand_153 (q M1 y)
      · exact fun M1 y => B_R_operand_153 (q M1 y)
    · rw [if_neg z1, if_neg z2, if_pos z3] at q
      refine S_opn H h (by omega) hl ho ?_
      rcases hq : opn o k 40 with f | ⟨c, k'⟩ | ⟨m, k'⟩ <;> rw [hq] at q
      · exact B_R_operand_133 q
      · exact fun M1 y => B_R_operand_133 (q M1 y)
      · exact fun M1 y => B_R_operand_133 (q M1 y)
    · rw [if_neg z1, if_pos z2] at q
      rw [n1 ()]
      exact q M1 y
  · have hyes : 48 ≤ yg Z k ∧ yg Z k ≤ 57 := by
      by_cases y : 48 ≤ yg Z k ∧ yg Z k ≤ 57
      · exact y
      · exact absurd (if_neg y) z
    rw [if_pos hyes] at q
    exact LP_opnum H h hk hc 4 0 0 (by omega) (by omega) (by decide) q
end YD
