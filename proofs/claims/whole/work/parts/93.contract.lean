/-! CONTRACT -/
section CT
variable {X : vX} {d : Nat} {M : vM} {Q : Option vV → vM → Prop} {Z : YZ}
/-- the reference reads all of it -/
theorem S_reads (H : YH Z) (hR : vRefs Z.1) (qf : ∀ f, kp_all (yg Z) Z.2.2 = .inl f → ∀ M1, vRefs M1 → Fr (sYZ Z.2.1) Z.1 M1 → Q (some (vI (f : Int))) M1) (qa : ∀ c, kp_all (yg Z) Z.2.2 = .inr c → c.length ≤ Z.2.2 → ∀ M1, YS Z M1 [] 0 c → Q (some (vI (-1))) M1) : cq X (d + 6) 258 [vR 81] Z.1 Q := by
  have h120 := H.2.1
  refine E_R_reads (B_R_reads_0 hR (fun hR2 => ?_))
  have h0 : YS Z (vm_up (vm_up (vm_up Z.1 81 44 0) 81 45 0) 81 46 0) [] (5 - 5) [] := ⟨hR2, ((Fr.refl.up (by omega)).up (by omega)).up (by omega), by rw [vm_up2, if_neg (by omega), vm_up2, if_neg (by omega), vm_up2, if_pos ⟨rfl, rfl⟩]; rfl, by rw [vm_up2, if_neg (by omega), vm_up2, if_pos ⟨rfl, rfl⟩]; rfl, by rw [vm_up2, if_pos ⟨rfl, rfl⟩]; rfl, trivial, fun i hi => by simp at hi⟩
  refine S_ysum H 5 (Nat.le_refl 5) [] [] 0 _ Q h0 trivial ⟨Nat.le_refl _, Nat.zero_le _⟩ (fun f e => qf f (by unfold kp_all; rw [e])) (fun c k' ops cs' M1 e y1 y2 y3 y4 y5 y6 => ?_) vN
  have y6a : cs'.length + (ops.length + 0) ≤ k' := y6.1
  have en : ops ++ [] = ops := List.append_nil ops
  have y1' := y1
  rw [en] at y1'
  have le : (cs' ++ cds ops).length = ([] ++ c).length := by rw [y3]
  rw [List.length_append, List.length_map, List.nil_append] at le
  by_cases hk : k' = Z.2.2
  · intro w3
    have e42 : M1 81 42 = (Z.2.2 : Int) := by rw [y1.2.1 81 42 (by omega)]; exact H.2.2.1
    have e45 : M1 81 45 = ((5 - 5 : Nat) : Int) := y1.2.2.2.1
    refine B_R_reads_19 (fun z => absurd rfl z) (fun _ => B_R_reads_23 (fun _ => B_R_reads_102 (fun _ => B_R_reads_114 ?_) (fun z => by rw [e45] at z; simp at z)) (fun z => by exfalso; omega))
    refine S_unwinds (d := d + 2) (st := []) H trivial y1 (by show cs'.length + ops.length + 0 ≤ 120; omega) (fun x hx => ⟨y2 x hx, rk_op (y2 x hx)⟩) (fun M2 z => B_R_reads_119 ?_)
    rw [y3] at z
    exact qa c (by unfold kp_all; rw [e]; dsimp only; rw [if_neg (by omega)]) (by omega) M2 z
  · exact turn0 y1 H (by omega) (S_behind_none (d := d + 1) H y1' (by omega) (by omega) y2 y4 (Or.inr ⟨rfl, qf k' (by unfold kp_all; rw [e]; dsimp only; rw [if_pos (by omega)]) M1 y1.1 y1.2.1⟩))
theorem KTx_fr {M M1 : vM} {k : Nat} (h : KTx M k) (f : M1 (59 + k) = M (59 + k)) (e1 : M1 67 k = M 67 k) (e2 : M1 107 k = M 107 k) (e3 : ∀ i, i < 120 → M1 108 (120 * k + i) = M 108 (120 * k + i)) : KTx M1 k := by
  obtain ⟨r1, c, r2, r3, r4, r5⟩ := h
  unfold KTx
  rw [f, e1, e2]
  exact ⟨r1, c, r2, r3, r4, fun i hi => by rw [e3 i (by omega)]; exact r5 i hi⟩
end CT
section OC
variable {X : vX} {d : Nat} {M M1 : vM} {Q : Option vV → vM → Prop}
theorem kg_eq (hr : Rel M) {M1 : vM} (f57 : M1 57 = M 57) (f109 : M1 109 = M 109) {C e : Nat} (he : (e : Int) = M 56 4) : kp_g (M1 57) e = yg (M1, C, e) := by
  have hK := hr.2.2.2.2.2.2.1
  have hK2 := hK.2.1
  funext k
  unfold kp_g yg
  dsimp only
  by_cases z : k < e
  · rw [if_pos z, if_pos z, f57, f109]
    exact (hK.2.2.1 k (by omega) (by omega)).1.symm
  · rw [if_neg z, if_neg z]
theorem op_contract (hr : Rel M) : cq X (d + 40) 159 [vR 0] M (fun v M1 => cq X (d + 40) 259 [vR 81] M1 (fun v2 M2 => v2 = v ∧ Rel M2)) := by
  have hK := hr.2.2.2.2.2.2.1
  obtain ⟨k1, k2, k3, k4, k5, k6⟩ := hK
  by_cases hf : M 56 5 < 8
  · obtain ⟨C, hC⟩ : ∃ C : Nat, M 56 5 = (C : Int) := ⟨(M 56 5).toNat, by omega⟩
    obtain ⟨e, he⟩ : ∃ e : Nat, M 56 4 = (e : Int) := ⟨(M 56 4).toNat, by omega⟩
    have go : vw X (d + 39) 159 15 [vR 0] [] M (fun v M1 => cq X (d + 40) 259 [vR 81] M1 (fun v2 M2 => v2 = v ∧ Rel M2)) := by
      refine B_X_contract_15 hr.1 (E_Co_readTape (B_Co_readTape_0 hr.1 (fun hR2 => ?_)))
      rw [he]
      have u57 : (vm_up M 56 4 0) 57 = M 57 := funext (fun j => by rw [vm_up2, if_neg (by omega)])
      have hn0 : ∀ b j : Nat, ¬ (b = 56 ∧ j = 4) → (vm_up M 56 4 0) b j = M b j := fun b j h => by rw [vm_up2, if_neg h]
      -- the reference, behind the class
      have refr : ∀ (M1 : vM) (Q' : Option vV → vM → Prop), vRefs M1 → M1 81 42 = (e : Int) → M1 81 38 = (C : Int) → M1 57 = M 57 → M1 109 = M 109 → (∀ f, kp_all (kp_g (M 57) e) e = .inl f → ∀ M2, vRefs M2 → Fr (fun b j => sYZ C b j ∨ (b = 81 ∧ j = 42)) M1 M2 → M2 81 42 = 0 → Q' (some (vI (w32 (-10 - (f : Int))))) M2) → (∀ c, kp_all (kp_g (M 57) e) e = .inr c → c.length ≤ e → ∀ M2, vRefs M2 → Fr (fun b j => sYZ C b j ∨ (b = 81 ∧ (j = 42 ∨ j = 38)) ∨ (b = 107 ∧ j = C)) M1 M2 → M2 81 42 = 0 → M2 81 38 = ((C + 1 : Nat) : Int) → M2 107 C = (c.length : Int) → (∀ i, i < c.length → M2 108 (120 * C + i) = c.getD i 0) → Q' (some (vI (C : Int))) M2) → cq X (d + 40) 259 [vR 81] M1 Q' := fun M1 Q' r1 r2 r3 r4 r5 qf qa => by
        have H : YH (M1, C, e) := ⟨by show C < 8; omega, by show e ≤ 120; omega, r2, r3, fun k hk => by
          have hk : k < e := hk
          show 0 ≤ M1 109 k ∧ M1 109 k ≤ 255
          rw [r5, (k3 k (by omega) (by omega)).1]
          omega⟩
        have eg : kp_g (M 57) e = yg (M1, C, e) := by
          have := kg_eq hr (M1 := M1) r4 r5 (C := C) (e := e) he.symm
          rw [r4] at this
          exact this
        rw [eg] at qf qa
        refine E_R_contract (B_R_contract_0 (fun _ => B_R_contract_12 ?_) (fun z => by exfalso; omega))
        refine S_reads (d := d + 33) (Z := (M1, C, e)) H r1 (fun f ef M2 z1 z2 => B_R_contract_16 z1 (fun z => by exfalso; omega) (fun _ hR3 => B_R_contract_27 ?_)) (fun c ec lc M2 z => B_R_contract_16 z.1 (fun _ hR3 => B_R_contract_32 hR3 ?_ (fun hR4 => ?_)) (fun y => absurd rfl y))
        · skip
          exact qf f ef _ hR3 (fun b j hb => by rw [vm_up2, if_neg (fun y => hb (by omega))]; exact z2 b j (fun y => hb (Or.inl y))) (by rw [vm_up2, if_pos ⟨rfl, rfl⟩])
        · have e38 : M2 81 38 = (C : Int) := by rw [z.2.1 81 38 (by omega)]; exact r3
          rw [vm_up2, if_neg (by omega), e38]; omega
        · have e38 : M2 81 38 = (C : Int) := by rw [z.2.1 81 38 (by omega)]; exact r3
          have e46 := z.2.2.2.2.1
          have c38 : (vm_up M2 81 42 0) 81 38 = (C : Int) := by rw [vm_up2, if_neg (by omega)]; exact e38
          have c46 : (vm_up M2 81 42 0) 81 46 = (c.length : Int) := by rw [vm_up2, if_neg (by omega)]; exact e46
          rw [c38, c46, Int.toNat_natCast, show (vm_up (vm_up M2 81 42 0) 107 C (c.length : Int)) 81 38 = (C : Int) by rw [vm_up2, if_neg (by omega)]; exact c38, w32_i (x := (C : Int) + 1) (by omega)] at hR4 ⊢
          rw [show (vm_up (vm_up (vm_up M2 81 42 0) 107 C (c.length : Int)) 81 38 ((C : Int) + 1)) 81 38 = (C : Int) + 1 by rw [vm_up2, if_pos ⟨rfl, rfl⟩], w32_i (x := (C : Int) + 1 - 1) (by omega), show (C : Int) + 1 - 1 = (C : Int) by omega]
          refine qa c ec lc _ hR4 (fun b j hb => by rw [vm_up2, if_neg (fun y => hb (by omega)), vm_up2, if_neg (fun y => hb (by omega)), vm_up2, if_neg (fun y => hb (by omega))]; exact z.2.1 b j (fun y => hb (Or.inl y))) ?_ ?_ ?_ (fun i hi => ?_)
          · rw [vm_up2, if_neg (by omega), vm_up2, if_neg (by omega), vm_up2, if_pos ⟨rfl, rfl⟩]
          · rw [vm_up2, if_pos ⟨rfl, rfl⟩]; omega
          · rw [vm_up2, if_neg (by omega), vm_up2, if_pos ⟨rfl, rfl⟩]
          · rw [vm_up2, if_neg (by omega), vm_up2, if_neg (by omega), vm_up2, if_neg (by omega)]; exact z.2.2.2.2.2.2 i hi
      refine S_works (d := d + 4) (q1 := 57) (e := e) (sn := 0) (sv := 0) hR2 rfl (by decide) (by omega) (by omega) (by omega) (fun M1 x f ef y1 y2 y3 => B_Co_readTape_24 y1 (E_Re_fault (B_Re_fault_0 (B_Co_readTape_32 (fun z => by exfalso; omega) (fun _ => B_Co_readTape_35 y1 (E_Re_fault (B_Re_fault_0 (B_Co_readTape_44 (B_X_contract_22 ?_))))))))) (fun M1 x c ec hV y1 y2 y3 => B_Co_readTape_24 y1 (E_Re_fault (B_Re_fault_0 (B_Co_readTape_32 (fun _ => B_Co_readTape_46 y1 ?_ ?_ ?_ (fun hR5 => B_X_contract_22 ?_)) (fun z => by exfalso; omega)))))
      · rw [u57] at ef
        have g : ∀ b j : Nat, ¬ (b = 56 ∧ j = 4) → b ≠ 68 → M1 b j = M b j := fun b j h1 h2 => by rw [y2 b j h2]; exact hn0 b j h1
        rw [y3]
        refine refr M1 _ y1 (by rw [g 81 42 (by omega) (by omega), k1, he]) (by rw [g 81 38 (by omega) (by omega), k4, hC]) (funext (fun j => g 57 j (by omega) (by omega))) (funext (fun j => g 109 j (by omega) (by omega))) (fun f' ef' M2 z1 z2 z3 => ?_) (fun c ec => by rw [ef] at ec; cases ec)
        rw [ef] at ef'
        cases ef'
        have g2 : ∀ b j : Nat, ¬ (b = 56 ∧ j = 4) → b ≠ 68 → b ≠ 110 → ¬ (b = 108 ∧ 120 * C ≤ j) → ¬ (b = 81 ∧ (j = 44 ∨ j = 45 ∨ j = 46 ∨ j = 42)) → M2 b j = M b j := fun b j h1 h2 h3 h4 h5 => by rw [z2 b j (by omega)]; exact g b j h1 h2
        refine ⟨rfl, Rel_K (fun b j hb => g2 b j (fun z => hb (by unfold sK sRK; omega)) (fun z => hb (by unfold sK sTmp; omega)) (fun z => hb (by unfold sK sTmp; omega)) (fun z => hb (by unfold sK sRK; omega)) (fun z => hb (by unfold sK sTmp sRK; omega))) hr ⟨?_, ?_, fun k hk hk2 => ?_, ?_, ?_, fun k hk hk2 => ?_⟩⟩
        · rw [z3, z2 56 4 (by omega), y2 56 4 (by omega), vm_up2, if_pos ⟨rfl, rfl⟩]
        · rw [z2 56 4 (by omega), y2 56 4 (by omega), vm_up2, if_pos ⟨rfl, rfl⟩]; omega
        · rw [z2 56 4 (by omega), y2 56 4 (by omega), vm_up2, if_pos ⟨rfl, rfl⟩] at hk2; omega
        · rw [g2 81 38 (by omega) (by omega) (by omega) (by omega) (by omega), g2 56 5 (by omega) (by omega) (by omega) (by omega) (by omega)]; exact k4
        · rw [g2 56 5 (by omega) (by omega) (by omega) (by omega) (by omega)]; exact k5
        · rw [g2 56 5 (by omega) (by omega) (by omega) (by omega) (by omega)] at hk2
          exact KTx_fr (k6 k hk hk2) (funext (fun j => g2 (59 + k) j (by omega) (by omega) (by omega) (by omega) (by omega))) (g2 67 k (by omega) (by omega) (by omega) (by omega) (by omega)) (g2 107 k (by omega) (by omega) (by omega) (by omega) (by omega)) (fun i hi => g2 108 _ (by omega) (by omega) (by omega) (by omega) (by omega))
      · have e565 : M1 56 5 = (C : Int) := by rw [y2 56 5 (by omega), hn0 56 5 (by omega)]; exact hC
        rw [e565]; omega
      · exact ⟨by omega, by omega, by omega, by omega, by omega, by decide⟩
      · have e565 : M1 56 5 = (C : Int) := by rw [y2 56 5 (by omega), hn0 56 5 (by omega)]; exact hC
        have h56 : (vm_cpy M1 57 (59 + (M1 56 5).toNat) 0 0 ((e : Int)).toNat) 56 5 = M1 56 5 := if_neg (fun z => by omega)
        rw [h56, e565]; omega
      · rw [u57] at ec
        have g : ∀ b j : Nat, ¬ (b = 56 ∧ j = 4) → b ≠ 68 → M1 b j = M b j := fun b j h1 h2 => by rw [y2 b j h2]; exact hn0 b j h1
        have e565 : M1 56 5 = (C : Int) := by rw [g 56 5 (by omega) (by omega)]; exact hC
        have e564 : M1 56 4 = 0 := by rw [y2 56 4 (by omega), vm_up2, if_pos ⟨rfl, rfl⟩]
        rw [e565, Int.toNat_natCast, Int.toNat_natCast] at hR5 ⊢
        obtain ⟨Mc, hMc⟩ : ∃ Mc, Mc = vm_cpy M1 57 (59 + C) 0 0 e := ⟨_, rfl⟩
        rw [← hMc] at hR5 ⊢
        have c1 : ∀ b j : Nat, b ≠ 59 + C → Mc b j = M1 b j := fun b j hb => by rw [hMc]; exact if_neg (fun z => hb z.1)
        have c2 : ∀ j : Nat, j < e → Mc (59 + C) j = M1 57 j := fun j hj => by
          rw [hMc]
          show (if 59 + C = 59 + C ∧ 0 ≤ j ∧ j < 0 + e then M1 57 (0 + (j - 0)) else M1 (59 + C) j) = _
          rw [if_pos ⟨rfl, Nat.zero_le j, by omega⟩, Nat.zero_add, Nat.sub_zero]
        have d565 : Mc 56 5 = (C : Int) := by rw [c1 56 5 (by omega)]; exact e565
        rw [d565, Int.toNat_natCast, show (vm_up Mc 67 C (e : Int)) 56 5 = (C : Int) by rw [vm_up2, if_neg (by omega)]; exact d565, w32_i (x := (C : Int) + 1) (by omega)] at hR5 ⊢
        rw [show (vm_up (vm_up Mc 67 C (e : Int)) 56 5 ((C : Int) + 1)) 56 5 = (C : Int) + 1 by rw [vm_up2, if_pos ⟨rfl, rfl⟩], w32_i (x := (C : Int) + 1 - 1) (by omega), show (C : Int) + 1 - 1 = (C : Int) by omega]
        have gN : ∀ b j : Nat, ¬ (b = 56 ∧ (j = 4 ∨ j = 5)) → b ≠ 68 → b ≠ 59 + C → ¬ (b = 67 ∧ j = C) → (vm_up (vm_up Mc 67 C (e : Int)) 56 5 ((C : Int) + 1)) b j = M b j := fun b j h1 h2 h3 h4 => by rw [vm_up2, if_neg (by omega), vm_up2, if_neg h4, c1 b j h3]; exact g b j (by omega) h2
        refine refr _ _ hR5 (by rw [gN 81 42 (by omega) (by omega) (by omega) (by omega), k1, he]) (by rw [gN 81 38 (by omega) (by omega) (by omega) (by omega), k4, hC]) (funext (fun j => gN 57 j (by omega) (by omega) (by omega) (by omega))) (funext (fun j => gN 109 j (by omega) (by omega) (by omega) (by omega))) (fun f ef => by rw [ec] at ef; cases ef) (fun c' ec' lc M2 z1 z2 z3 z4 z5 z6 => ?_)
        rw [ec] at ec'
        cases ec'
        have g2 : ∀ b j : Nat, ¬ (b = 56 ∧ (j = 4 ∨ j = 5)) → b ≠ 68 → b ≠ 59 + C → ¬ (b = 67 ∧ j = C) → b ≠ 110 → ¬ (b = 108 ∧ 120 * C ≤ j) → ¬ (b = 81 ∧ (j = 44 ∨ j = 45 ∨ j = 46 ∨ j = 42 ∨ j = 38)) → ¬ (b = 107 ∧ j = C) → M2 b j = M b j := fun b j h1 h2 h3 h4 h5 h6 h7 h8 => by rw [z2 b j (by omega)]; exact gN b j h1 h2 h3 h4
        have m564 : M2 56 4 = 0 := by rw [z2 56 4 (by omega), vm_up2, if_neg (by omega), vm_up2, if_neg (by omega), c1 56 4 (by omega)]; exact e564
        have m565 : M2 56 5 = (C : Int) + 1 := by rw [z2 56 5 (by omega), vm_up2, if_pos ⟨rfl, rfl⟩]
        have m67 : M2 67 C = (e : Int) := by rw [z2 67 C (by omega), vm_up2, if_neg (by omega), vm_up2, if_pos ⟨rfl, rfl⟩]
        have mtx : ∀ j : Nat, j < e → M2 (59 + C) j = M 57 j := fun j hj => by
          rw [z2 (59 + C) j (by omega), vm_up2, if_neg (by omega), vm_up2, if_neg (by omega), c2 j hj]
          exact g 57 j (by omega) (by omega)
        refine ⟨rfl, Rel_K (fun b j hb => g2 b j (fun z => hb (by unfold sK sRK; omega)) (fun z => hb (by unfold sK sTmp; omega)) (fun z => hb (by unfold sK sRK; omega)) (fun z => hb (by unfold sK sRK; omega)) (fun z => hb (by unfold sK sTmp; omega)) (fun z => hb (by unfold sK sRK; omega)) (fun z => hb (by unfold sK sTmp sRK; omega)) (fun z => hb (by unfold sK sRK; omega))) hr ⟨?_, ?_, fun k hk hk2 => ?_, ?_, ?_, fun k hk hk2 => ?_⟩⟩
        · rw [z3, m564]
        · rw [m564]; omega
        · rw [m564] at hk2; omega
        · rw [z4, m565]; omega
        · rw [m565]; omega
        · rw [m565] at hk2
          by_cases hkC : k = C
          · subst hkC
            have eg : kp_g (M2 (59 + k)) e = kp_g (M 57) e := by
              funext i
              unfold kp_g
              by_cases y : i < e
              · rw [if_pos y, if_pos y, mtx i y]
              · rw [if_neg y, if_neg y]
            unfold KTx
            rw [m67, Int.toNat_natCast, eg]
            exact ⟨by omega, c, ec, by omega, z5, z6⟩
          · exact KTx_fr (k6 k hk (by omega)) (funext (fun j => g2 (59 + k) j (by omega) (by omega) (by omega) (by omega) (by omega) (by omega) (by omega) (by omega))) (g2 67 k (by omega) (by omega) (by omega) (by omega) (by omega) (by omega) (by omega) (by omega)) (g2 107 k (by omega) (by omega) (by omega) (by omega) (by omega) (by omega) (by omega) (by omega)) (fun i hi => g2 108 _ (by omega) (by omega) (by omega) (by omega) (by omega) (by omega) (by omega) (by omega))
    exact E_X_contract (B_X_contract_0 hr.1 (E_Co_isFull (B_Co_isFull_0 (fun _ => B_Co_isFull_13 (B_X_contract_7 (fun _ => go) (fun z => absurd rfl z))) (fun z => by exfalso; omega))))
  · refine E_X_contract (B_X_contract_0 hr.1 (E_Co_isFull (B_Co_isFull_0 (fun z => absurd z hf) (fun _ => B_Co_isFull_9 (B_X_contract_7 (fun z => by exfalso; omega) (fun _ => B_X_contract_10 ?_))))))
    exact E_R_contract (B_R_contract_0 (fun z => by exfalso; omega) (fun _ => B_R_contract_9 ⟨rfl, hr⟩))
end OC
