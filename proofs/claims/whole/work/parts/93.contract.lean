/-! CONTRACT -/
section CT
variable {X : vX} {d : Nat} {M : vM} {Q : Option vV → vM → Prop} {Z : YZ}
/-- the reference reads all of it -/
theorem S_reads (H : YH Z) (hR : vRefs Z.1) (qf : ∀ f, kp_all (yg Z) Z.2.2 = .inl f → ∀ M1, vRefs M1 → Fr (sYZ Z.2.1) Z.1 M1 → Q (some (vI (f : Int))) M1) (qa : ∀ c, kp_all (yg Z) Z.2.2 = .inr c → c.length ≤ Z.2.2 → ∀ M1, YS Z M1 [] 0 c → Q (some (vI (-1))) M1) : cq X (d + 6) 258 [vR 81] Z.1 Q := by
  have h120 := H.2.1
  refine E_R_reads (B_R_reads_0 hR (fun hR2 => ?_))
  have h0 : YS Z (vm_up (vm_up (vm_up Z.1 81 44 0) 81 45 0) 81 46 0) [] (5 - 5) [] := ⟨hR2, ((Fr.refl.up (by omega)).up (by omega)).up (by omega), by rw [vm_up2, if_neg (by omega), vm_up2, if_neg (by omega), vm_up2, if_pos ⟨rfl, rfl⟩]; rfl, by rw [vm_up2, if_neg (by omega), vm_up2, if_pos ⟨rfl, rfl⟩]; rfl, by rw [vm_up2, if_pos ⟨rfl, rfl⟩]; rfl, trivial, fun i hi => by simp at hi⟩
  refine S_ysum H 5 (Nat.le_refl 5) [] [] 0 _ Q h0 trivial ⟨Nat.le_refl _, Nat.zero_le _⟩ (fun f e => qf f (by unfold kp_all; rw [e])) (fun c k' ops cs' M1 e y1 y2 y3 y4 y5 y6 => ?_) vN
  have y6a : cs'.length + (ops.length + 0) ≤ k' := y6.1
  have en : ops ++ [] = ops := List.append_nil ops
  have y1' := y1
  rw [en] at y1'
  have le : (cs' ++ cds ops).length = ([] ++ c).length := by rw [y3]
  rw [List.length_append, List.length_map, List.nil_append] at le
  by_cases hk : k' = Z.2.2
  · intro w3
    have e42 : M1 81 42 = (Z.2.2 : Int) := by rw [y1.2.1 81 42 (by omega)]; exact H.2.2.1
    have e45 : M1 81 45 = ((5 - 5 : Nat) : Int) := y1.2.2.2.1
    refine B_R_reads_19 (fun z => absurd rfl z) (fun _ => B_R_reads_23 (fun _ => B_R_reads_102 (fun _ => B_R_reads_114 ?_) (fun z => by rw [e45] at z; simp at z)) (fun z => by exfalso; omega))
    refine S_unwinds (d := d + 2) (st := []) H trivial y1 (by show cs'.length + ops.length + 0 ≤ 120; omega) (fun x hx => ⟨y2 x hx, rk_op (y2 x hx)⟩) (fun M2 z => B_R_reads_119 ?_)
    rw [y3] at z
    exact qa c (by unfold kp_all; rw [e]; dsimp only; rw [if_neg (by omega)]) (by omega) M2 z
  · exact turn0 y1 H (by omega) (S_behind_none (d := d + 1) H y1' (by omega) (by omega) y2 y4 (Or.inr ⟨rfl, qf k' (by unfold kp_all; rw [e]; dsimp only; rw [if_pos (by omega)]) M1 y1.1 y1.2.1⟩))
theorem KTx_fr {M M1 : vM} {k : Nat} (h : KTx M k) (f : M1 (59 + k) = M (59 + k)) (e1 : M1 67 k = M 67 k) (e2 : M1 107 k = M 107 k) (e3 : ∀ i, i < 120 → M1 108 (120 * k + i) = M 108 (120 * k + i)) : KTx M1 k := by
  obtain ⟨r1, c, r2, r3, r4, r5⟩ := h
  unfold KTx
  rw [f, e1, e2]
  exact ⟨r1, c, r2, r3, r4, fun i hi => by rw [e3 i (by omega)]; exact r5 i hi⟩
end CT
