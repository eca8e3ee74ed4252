/-! THE REFERENCE READS A TEXT: atoms, products, sums -/
theorem num_k {g : Nat → Int} : ∀ (n : Nat) (v : Int) (k : Nat), k ≤ (kp_num g n v k).2 ∧ (k < (kp_num g n v k).2 → 48 ≤ g ((kp_num g n v k).2 - 1) ∧ g ((kp_num g n v k).2 - 1) ≤ 57) ∧ (1 ≤ n → 48 ≤ g k ∧ g k ≤ 57 → k < (kp_num g n v k).2)
  | 0, v, k => ⟨Nat.le_refl k, fun z => absurd z (Nat.lt_irrefl k), fun z => by omega⟩
  | n + 1, v, k => by
    rw [kp_num]
    by_cases z : 48 ≤ g k ∧ g k ≤ 57
    · rw [if_pos z]
      obtain ⟨h1, h2, _⟩ := num_k (g := g) n (v * 10 + g k - 48) (k + 1)
      refine ⟨by omega, fun _ => ?_, fun _ _ => by omega⟩
      by_cases y : k + 1 < (kp_num g n (v * 10 + g k - 48) (k + 1)).2
      · exact h2 y
      · rw [show (kp_num g n (v * 10 + g k - 48) (k + 1)).2 = k + 1 by omega, Nat.add_sub_cancel]; exact z
    · rw [if_neg z]
      exact ⟨Nat.le_refl k, fun y => absurd y (Nat.lt_irrefl k), fun _ y => absurd y z⟩
section YA
variable {X : vX} {d : Nat} {M : vM} {Q : Option vV → vM → Prop} {Z : YZ} {st cs ops : List Int} {o k n m' : Nat} {m : Int}
theorem S_ytwo (H : YH Z) (hn : m' < 5) (hS : YSum X d Z m') (hm : m = 109 ∨ m = 120) (h : YS Z M (m :: st) (5 - m') cs) (hb : BN Z cs (m :: st) k) {E : KR} (eE : E = kp_then (kp_lvl (yg Z) Z.2.2 m' k) (fun c1 k => kp_need (yg Z) 44 k (fun k => kp_then (kp_lvl (yg Z) Z.2.2 m' k) (fun c2 k => kp_need (yg Z) 41 k (fun k => .inr (c1 ++ c2 ++ [20000 + nxm m], k)))))) (qf : ∀ f, E = .inl f → Ft Z Q f) (q : ∀ c k' M1, E = .inr (c, k') → k < k' → YS Z M1 st (5 - (m' + 1)) (cs ++ c) → BN Z (cs ++ c) st k' → Wt X d Q 0 k' M1) : Wt X d Q 1 k M := by
  have hm0 : isM0 m := by rcases hm with z | z <;> rw [z] <;> decide
  have hm1 : isM1 (nxm m) := by rcases hm with z | z <;> rw [z] <;> decide
  have hw : ndm m = 44 := by rcases hm with z | z <;> rw [z] <;> decide
  have hx : nxm m ≠ 40 := by rcases hm with z | z <;> rw [z] <;> decide
  refine S_argA H hn hS hm0 h hb (fun c1 k => kp_then (kp_lvl (yg Z) Z.2.2 m' k) (fun c2 k => kp_need (yg Z) 41 k (fun k => .inr (c1 ++ c2 ++ [20000 + nxm m], k)))) (fun f e _ => qf f (by rw [eE, ← e, hw])) (fun c1 k1 M1 e1 e2 e3 y1 y2 => ?_)
  rw [hw] at e2
  have e4 := eE.trans e2
  refine S_argB H hn hS hm1 y1 y2 (fun c2 k => .inr (c1 ++ c2 ++ [20000 + nxm m], k)) (fun f e _ => qf f (e4.trans e)) (fun c2 k2 M2 g1 g2 g3 z1 z2 => ?_)
  rw [if_neg hx] at z1 z2
  have ea : cs ++ c1 ++ c2 ++ [20000 + nxm m] = cs ++ (c1 ++ c2 ++ [20000 + nxm m]) := by simp [List.append_assoc]
  rw [ea] at z1 z2
  exact q _ _ M2 (e4.trans g2) (by omega) z1 z2
theorem S_yif (H : YH Z) (hn : m' < 5) (hS : YSum X d Z m') (h : YS Z M (105 :: st) (5 - m') cs) (hb : BN Z cs (105 :: st) k) {E : KR} (eE : E = kp_then (kp_lvl (yg Z) Z.2.2 m' k) (fun c1 k => kp_need (yg Z) 60 k (fun k => kp_then (kp_lvl (yg Z) Z.2.2 m' k) (fun c2 k => kp_need (yg Z) 44 k (fun k => kp_then (kp_lvl (yg Z) Z.2.2 m' k) (fun c3 k => kp_need (yg Z) 44 k (fun k => kp_then (kp_lvl (yg Z) Z.2.2 m' k) (fun c4 k => kp_need (yg Z) 41 k (fun k => .inr (c1 ++ c2 ++ c3 ++ c4 ++ [20073], k)))))))))) (qf : ∀ f, E = .inl f → Ft Z Q f) (q : ∀ c k' M1, E = .inr (c, k') → k < k' → YS Z M1 st (5 - (m' + 1)) (cs ++ c) → BN Z (cs ++ c) st k' → Wt X d Q 0 k' M1) : Wt X d Q 1 k M := by
  refine S_argA (m := 105) H hn hS (by decide) h hb (fun c1 k => kp_then (kp_lvl (yg Z) Z.2.2 m' k) (fun c2 k => kp_need (yg Z) 44 k (fun k => kp_then (kp_lvl (yg Z) Z.2.2 m' k) (fun c3 k => kp_need (yg Z) 44 k (fun k => kp_then (kp_lvl (yg Z) Z.2.2 m' k) (fun c4 k => kp_need (yg Z) 41 k (fun k => .inr (c1 ++ c2 ++ c3 ++ c4 ++ [20073], k)))))))) (fun f e _ => qf f (eE.trans e)) (fun c1 k1 M1 e1 e2 e3 y1 y2 => ?_)
  have a1 := eE.trans e2
  refine S_argA (m := 106) H hn hS (by decide) y1 y2 (fun c2 k => kp_then (kp_lvl (yg Z) Z.2.2 m' k) (fun c3 k => kp_need (yg Z) 44 k (fun k => kp_then (kp_lvl (yg Z) Z.2.2 m' k) (fun c4 k => kp_need (yg Z) 41 k (fun k => .inr (c1 ++ c2 ++ c3 ++ c4 ++ [20073], k)))))) (fun f e _ => qf f (a1.trans e)) (fun c2 k2 M2 g1 g2 g3 z1 z2 => ?_)
  have a2 := a1.trans g2
  refine S_argA (m := 107) H hn hS (by decide) z1 z2 (fun c3 k => kp_then (kp_lvl (yg Z) Z.2.2 m' k) (fun c4 k => kp_need (yg Z) 41 k (fun k => .inr (c1 ++ c2 ++ c3 ++ c4 ++ [20073], k)))) (fun f e _ => qf f (a2.trans e)) (fun c3 k3 M3 i1 i2 i3 x1 x2 => ?_)
  have a3 := a2.trans i2
  refine S_argB (m := 73) H hn hS (by decide) x1 x2 (fun c4 k => .inr (c1 ++ c2 ++ c3 ++ c4 ++ [20073], k)) (fun f e _ => qf f (a3.trans e)) (fun c4 k4 M4 j1 j2 j3 v1 v2 => ?_)
  rw [if_neg (by decide)] at v1 v2
  have ea : cs ++ c1 ++ c2 ++ c3 ++ c4 ++ [20000 + 73] = cs ++ (c1 ++ c2 ++ c3 ++ c4 ++ [20073]) := by simp [List.append_assoc]
  rw [ea] at v1 v2
  exact q _ _ M4 (a3.trans j2) (by omega) v1 v2
theorem S_yatom (H : YH Z) (hn : n ≤ 5) (hS : ∀ m', n = m' + 1 → YSum X d Z m') (h : YS Z M st (5 - n) cs) (hb : BN Z cs st k) (qf : ∀ f, kp_atom (yg Z) (kdp (yg Z) Z.2.2 n) (kcan n) k = .inl f → Ft Z Q f) (q : ∀ c k' M1, kp_atom (yg Z) (kdp (yg Z) Z.2.2 n) (kcan n) k = .inr (c, k') → k < k' → YS Z M1 st (5 - n) (cs ++ c) → BN Z (cs ++ c) st k' → Wt X d Q 0 k' M1) : Wt X d Q 1 k M := by
  have h120 := H.2.1
  have gr := fun k => yg_r H k
  have hbb : cs.length + st.length ≤ k ∧ k ≤ Z.2.2 := hb
  have bad : ∀ f, f ≤ 900 → kp_atom (yg Z) (kdp (yg Z) Z.2.2 n) (kcan n) k = .inl f → OpW X d Z Q st (5 - n) cs (oBad f) := fun f hf e => ⟨hf, qf f e⟩
  by_cases hke : k = Z.2.2
  · -- nothing comes
    have g0 : yg Z k = -1 := by unfold yg; rw [if_neg (by omega)]
    have ea : kp_atom (yg Z) (kdp (yg Z) Z.2.2 n) (kcan n) k = .inl k := by
      unfold kp_atom
      rw [g0, if_neg (by decide), if_neg (by decide), if_neg (by decide), if_neg (by decide), if_neg (by decide), if_pos (by rw [kp_num, g0, if_neg (by decide)])]
    -- the turn finds no operand
    intro w3
    refine B_R_reads_19 (fun _ => B_R_reads_31 (fun z => absurd z (by decide)) (fun _ => B_R_reads_35 ?_)) (fun z => absurd z (by decide))
    refine E_R_operand (B_R_operand_0 (S_byteAt (d := d + 3) H h (by omega) (B_R_operand_5 (S_R_in (B_R_operand_17 (fun _ => ?_) (fun z => ?_))))))
    · rw [g0]
      refine B_R_operand_85 (fun z => absurd z (by decide)) (fun _ => B_R_operand_91 (fun _ => B_R_operand_120 (fun _ => B_R_operand_136 (fun z => absurd z (by decide)) (fun _ => B_R_operand_142 (fun _ => B_R_operand_156 ?_) (fun z => absurd z (by decide)))) (fun z => absurd z (by decide))) (fun z => absurd z (by decide)))
      rw [w32_i (x := -1 - (k : Int)) (by omega)]
      refine B_R_reads_40 (fun z => by exfalso; omega) (fun _ => B_R_reads_53 ?_)
      rw [w32_i (by omega), show -1 - (-1 - (k : Int)) = (k : Int) by omega]
      exact qf k ea M h.1 h.2.1
    · rw [g0, if_neg (by decide)] at z
      exact absurd rfl z
  · refine S_turn1 H h (by omega) (by omega) (by omega) (by omega) ?_
    unfold opd
    by_cases z1 : 48 ≤ yg Z k ∧ yg Z k ≤ 57
    · rw [if_pos z1]
      obtain ⟨n1, n2, n3⟩ := num_k (g := yg Z) 4 0 k
      have n4 := n3 (by omega) z1
      have n5 := n2 n4
      have n6 := (gr ((kp_num (yg Z) 4 0 k).2 - 1)).2.2 (by omega)
      have ea : kp_atom (yg Z) (kdp (yg Z) Z.2.2 n) (kcan n) k = .inr ([(kp_num (yg Z) 4 0 k).1], (kp_num (yg Z) 4 0 k).2) := by
        unfold kp_atom
        rw [if_neg (by omega), if_neg (by omega), if_neg (by omega), if_neg (by omega), if_neg (by omega), if_neg (by omega)]
      refine ⟨⟨by omega, by omega, by omega⟩, fun M1 y => q _ _ M1 ea n4 y ⟨?_, by omega⟩⟩
      rw [List.length_append]
      show cs.length + 1 + st.length ≤ _
      omega
    · rw [if_neg z1]
      by_cases z2 : yg Z k = 115
      · rw [if_pos z2]
        have ea : kp_atom (yg Z) (kdp (yg Z) Z.2.2 n) (kcan n) k = .inr ([10000], k + 1) := by unfold kp_atom; rw [if_pos z2]
        refine ⟨⟨by omega, by omega, by rw [Nat.add_sub_cancel, z2]; decide⟩, fun M1 y => q _ _ M1 ea (by omega) y ⟨?_, by omega⟩⟩
        rw [List.length_append]
        show cs.length + 1 + st.length ≤ _
        omega
      · rw [if_neg z2]
        by_cases z3 : yg Z k = 118
        · rw [if_pos z3]
          have ea : kp_atom (yg Z) (kdp (yg Z) Z.2.2 n) (kcan n) k = .inr ([10001], k + 1) := by unfold kp_atom; rw [if_neg z2, if_pos z3]
          refine ⟨⟨by omega, by omega, by rw [Nat.add_sub_cancel, z3]; decide⟩, fun M1 y => q _ _ M1 ea (by omega) y ⟨?_, by omega⟩⟩
          rw [List.length_append]
          show cs.length + 1 + st.length ≤ _
          omega
        · rw [if_neg z3]
          by_cases z4 : yg Z k = 40
          · rw [if_pos z4]
            have ea : kp_atom (yg Z) (kdp (yg Z) Z.2.2 n) (kcan n) k = kp_open (yg Z) (kcan n) k (fun k => kp_then (kdp (yg Z) Z.2.2 n k) (fun c k => kp_need (yg Z) 41 k (fun k => .inr (c, k)))) := by unfold kp_atom; rw [if_neg z2, if_neg z3, if_neg (by omega), if_neg (by omega), if_pos z4]
            unfold opn
            cases n with
            | zero =>
              rw [if_pos rfl]
              exact bad k (by omega) (by rw [ea]; unfold kp_open kcan; rw [if_neg (by simp)])
            | succ m' =>
              rw [if_neg (by omega)]
              have ea2 : kp_atom (yg Z) (kdp (yg Z) Z.2.2 (m' + 1)) (kcan (m' + 1)) k = kp_then (kp_lvl (yg Z) Z.2.2 m' (k + 1)) (fun c k => kp_need (yg Z) 41 k (fun k => .inr (c, k))) := by rw [ea]; unfold kp_open kcan; rw [if_pos (by simp [z4])]; rfl
              refine ⟨⟨by omega, by omega, by rw [Nat.add_sub_cancel]; exact z4⟩, fun M1 y => ?_⟩
              rw [show 5 - (m' + 1) + 1 = 5 - m' by omega] at y
              refine S_argB (m := 40) H (by omega) (hS m' rfl) (Or.inl rfl) y ⟨by show cs.length + (st.length + 1) ≤ k + 1; omega, by omega⟩ (fun c k => .inr (c, k)) (fun f e _ => qf f (ea2.trans e)) (fun c1 k1 M2 g1 g2 g3 y1 y2 => ?_)
              rw [if_pos rfl, List.append_nil] at y1 y2
              exact q _ _ M2 (ea2.trans g2) (by omega) y1 y2
          · rw [if_neg z4]
            by_cases z5 : yg Z k = 109 ∨ yg Z k = 105
            · rw [if_pos z5]
              unfold opw
              by_cases z6 : yg Z k = 105
              · rw [if_pos z6]
                have ea : kp_atom (yg Z) (kdp (yg Z) Z.2.2 n) (kcan n) k = kp_need (yg Z) 102 (k + 1) (kp_if (yg Z) (kdp (yg Z) Z.2.2 n) (kcan n)) := by unfold kp_atom; rw [if_neg z2, if_neg z3, if_neg (by omega), if_pos z6]
                by_cases z7 : yg Z (k + 1) = 102
                · rw [if_pos z7]
                  have ea1 : kp_atom (yg Z) (kdp (yg Z) Z.2.2 n) (kcan n) k = kp_if (yg Z) (kdp (yg Z) Z.2.2 n) (kcan n) (k + 2) := by rw [ea]; unfold kp_need; rw [if_pos z7]
                  by_cases z8 : yg Z (k + 2) = 40
                  · rw [if_pos z8]
                    have r2 := (gr (k + 2)).2.2 (by omega)
                    unfold opn
                    cases n with
                    | zero =>
                      rw [if_pos rfl]
                      exact bad (k + 2) (by omega) (by rw [ea1]; unfold kp_if kp_open kcan; rw [if_neg (by simp)])
                    | succ m' =>
                      rw [if_neg (by omega)]
                      refine ⟨⟨by omega, by omega, by rw [Nat.add_sub_cancel]; exact z8⟩, fun M1 y => ?_⟩
                      rw [show 5 - (m' + 1) + 1 = 5 - m' by omega] at y
                      refine S_yif H (by omega) (hS m' rfl) y ⟨by show cs.length + (st.length + 1) ≤ k + 2 + 1; omega, by omega⟩ (ea1.trans (by unfold kp_if kp_open kcan; rw [if_pos (by simp [z8])]; rfl)) qf (fun c k' M2 e e2 y1 y2 => q c k' M2 e (by omega) y1 y2)
                  · rw [if_neg z8]
                    exact bad (k + 2) (by omega) (by rw [ea1]; unfold kp_if kp_open; rw [if_neg (fun y => z8 y.2)])
                · rw [if_neg z7]
                  exact bad (k + 1) (by omega) (by rw [ea]; unfold kp_need; rw [if_neg z7])
              · rw [if_neg z6]
                have z9 : yg Z k = 109 := z5.resolve_right z6
                have ea : kp_atom (yg Z) (kdp (yg Z) Z.2.2 n) (kcan n) k = if yg Z (k + 1) = 105 then kp_need (yg Z) 110 (k + 2) (kp_two (yg Z) (kdp (yg Z) Z.2.2 n) (kcan n) 20077) else kp_need (yg Z) 97 (k + 1) (fun k => kp_need (yg Z) 120 k (kp_two (yg Z) (kdp (yg Z) Z.2.2 n) (kcan n) 20088)) := by unfold kp_atom; rw [if_neg z2, if_neg z3, if_pos z9]
                -- the two words' ( and what follows
                have word : ∀ mk : Int, mk = 109 ∨ mk = 120 → kp_atom (yg Z) (kdp (yg Z) Z.2.2 n) (kcan n) k = kp_two (yg Z) (kdp (yg Z) Z.2.2 n) (kcan n) (20000 + nxm mk) (k + 3) → OpW X d Z Q st (5 - n) cs (if yg Z (k + 3) = 40 then opn (5 - n) (k + 3) mk else oBad (k + 3)) := fun mk hmk ew => by
                  by_cases z8 : yg Z (k + 3) = 40
                  · rw [if_pos z8]
                    have r2 := (gr (k + 3)).2.2 (by omega)
                    unfold opn
                    cases n with
                    | zero =>
                      rw [if_pos rfl]
                      exact bad (k + 3) (by omega) (by rw [ew]; unfold kp_two kp_open kcan; rw [if_neg (by simp)])
                    | succ m' =>
                      rw [if_neg (by omega)]
                      refine ⟨⟨by omega, by omega, by rw [Nat.add_sub_cancel]; exact z8⟩, fun M1 y => ?_⟩
                      rw [show 5 - (m' + 1) + 1 = 5 - m' by omega] at y
                      refine S_ytwo H (by omega) (hS m' rfl) hmk y ⟨by show cs.length + (st.length + 1) ≤ k + 3 + 1; omega, by omega⟩ (ew.trans (by unfold kp_two kp_open kcan; rw [if_pos (by simp [z8])]; rfl)) qf (fun c k' M2 e e2 y1 y2 => q c k' M2 e (by omega) y1 y2)
                  · rw [if_neg z8]
                    exact bad (k + 3) (by omega) (by rw [ew]; unfold kp_two kp_open; rw [if_neg (fun y => z8 y.2)])
                by_cases z10 : yg Z (k + 1) = 105
                · rw [if_pos z10]
                  rw [if_pos z10] at ea
                  by_cases z11 : yg Z (k + 2) = 110
                  · rw [if_pos z11]
                    exact word 109 (Or.inl rfl) (by rw [ea]; unfold kp_need; rw [if_pos z11]; rfl)
                  · rw [if_neg z11]
                    exact bad (k + 2) (by omega) (by rw [ea]; unfold kp_need; rw [if_neg z11])
                · rw [if_neg z10]
                  rw [if_neg z10] at ea
                  by_cases z11 : yg Z (k + 1) = 97
                  · rw [if_pos z11]
                    by_cases z12 : yg Z (k + 2) = 120
                    · rw [if_pos z12]
                      exact word 120 (Or.inr rfl) (by rw [ea]; unfold kp_need; rw [if_pos z11]; exact Eq.trans (if_pos z12) rfl)
                    · rw [if_neg z12]
                      exact bad (k + 2) (by omega) (by rw [ea]; unfold kp_need; rw [if_pos z11]; exact if_neg z12)
                  · rw [if_neg z11]
                    exact bad (k + 1) (by omega) (by rw [ea]; unfold kp_need; rw [if_neg z11])
            · rw [if_neg z5]
              have ea : kp_atom (yg Z) (kdp (yg Z) Z.2.2 n) (kcan n) k = .inl k := by
                unfold kp_atom
                rw [if_neg z2, if_neg z3, if_neg (fun y => z5 (Or.inl y)), if_neg (fun y => z5 (Or.inr y)), if_neg z4, if_pos (by rw [kp_num, if_neg z1])]
              exact bad k (by omega) ea
/-- products: what stands on the stack behind st are * only -/
theorem LP_yprods (H : YH Z) (hn : n ≤ 5) (hS : ∀ m', n = m' + 1 → YSum X d Z m') (hlow : Low 2 st) : ∀ (t : Nat) (c : List Int) (k : Nat) (pend cs1 : List Int) (M : vM), YS Z M (pend ++ st) (5 - n) cs1 → (∀ x ∈ pend, x = 42) → cs1 ++ cds pend = cs ++ c → (cs1.length + (pend.length + st.length) ≤ k ∧ k ≤ Z.2.2) → Z.2.2 ≤ k + t → (∀ f, kp_prods (yg Z) (kp_atom (yg Z) (kdp (yg Z) Z.2.2 n) (kcan n)) t c k = .inl f → Ft Z Q f) → (∀ c' k' pend cs' M1, kp_prods (yg Z) (kp_atom (yg Z) (kdp (yg Z) Z.2.2 n) (kcan n)) t c k = .inr (c', k') → YS Z M1 (pend ++ st) (5 - n) cs' → (∀ x ∈ pend, x = 42) → cs' ++ cds pend = cs ++ c' → yg Z k' ≠ 42 → k ≤ k' → (cs'.length + (pend.length + st.length) ≤ k' ∧ k' ≤ Z.2.2) → Wt X d Q 0 k' M1) → Wt X d Q 0 k M
  | 0, c, k, pend, cs1, M, h, hp, hc, hb, ht, qf, q => by
    have g0 : yg Z k = -1 := by unfold yg; rw [if_neg (by omega)]
    exact q c k pend cs1 M rfl h hp hc (by rw [g0]; decide) (Nat.le_refl k) hb
  | t + 1, c, k, pend, cs1, M, h, hp, hc, hb, ht, qf, q => by
    have h120 := H.2.1
    by_cases z : yg Z k = 42
    · have hk := (yg_r H k).2.2 (by rw [z]; decide)
      have le : (cs1 ++ cds pend).length = (cs ++ c).length := by rw [hc]
      rw [List.length_append, List.length_map] at le
      have r42 : rk (yg Z k) = 2 := by rw [z]; decide
      rw [kp_prods, if_pos z] at qf q
      refine turn0 h H hk (S_behind_op (d := d + 1) H h (by omega) (by omega) (by omega) (fun x hx => by rw [hp x hx, z]; decide) (by rw [r42]; exact hlow) (fun M1 y => Or.inl ⟨k + 1, rfl, fun y2 => by rw [z] at y2; exact absurd y2 (by decide), fun _ => ?_, _, _, _, y⟩))
      rw [hc, z] at y
      refine S_yatom H hn hS y ⟨by show (cs ++ c).length + (st.length + 1) ≤ k + 1; omega, by omega⟩ (fun f e => qf f (by rw [e]; rfl)) (fun c2 k2 M2 e e2 y1 y2 => ?_)
      rw [e] at qf q
      have y2a : (cs ++ c ++ c2).length + (st.length + 1) ≤ k2 := y2.1
      refine LP_yprods H hn hS hlow t (c ++ c2 ++ [20042]) k2 [42] (cs ++ c ++ c2) M2 y1 (fun x hx => by simpa using hx) (by simp [List.append_assoc]) ⟨by show (cs ++ c ++ c2).length + (1 + st.length) ≤ k2; omega, y2.2⟩ (by omega) qf (fun c' k' pend' cs' M3 x1 x2 x3 x4 x5 x6 x7 => q c' k' pend' cs' M3 x1 x2 x3 x4 x5 (by omega) x7)
    · rw [kp_prods, if_neg z] at qf q
      exact q c k pend cs1 M rfl h hp hc z (Nat.le_refl k) hb
theorem S_yprod (H : YH Z) (hn : n ≤ 5) (hS : ∀ m', n = m' + 1 → YSum X d Z m') (hlow : Low 2 st) (h : YS Z M st (5 - n) cs) (hb : BN Z cs st k) (qf : ∀ f, kp_prod (yg Z) Z.2.2 (kdp (yg Z) Z.2.2 n) (kcan n) k = .inl f → Ft Z Q f) (q : ∀ c' k' pend cs' M1, kp_prod (yg Z) Z.2.2 (kdp (yg Z) Z.2.2 n) (kcan n) k = .inr (c', k') → YS Z M1 (pend ++ st) (5 - n) cs' → (∀ x ∈ pend, x = 42) → cs' ++ cds pend = cs ++ c' → yg Z k' ≠ 42 → k < k' → (cs'.length + (pend.length + st.length) ≤ k' ∧ k' ≤ Z.2.2) → Wt X d Q 0 k' M1) : Wt X d Q 1 k M := by
  unfold kp_prod at qf q
  refine S_yatom H hn hS h hb (fun f e => qf f (by rw [e]; rfl)) (fun c k1 M1 e e2 y1 y2 => ?_)
  rw [e] at qf q
  exact LP_yprods H hn hS hlow Z.2.2 c k1 [] (cs ++ c) M1 y1 (fun x hx => by simp at hx) (by simp) ⟨by have := y2.1; simpa using this, y2.2⟩ (by omega) qf (fun c' k' pend' cs' M3 x1 x2 x3 x4 x5 x6 x7 => q c' k' pend' cs' M3 x1 x2 x3 x4 x5 (by omega) x7)
theorem LP_ysums (H : YH Z) (hn : n ≤ 5) (hS : ∀ m', n = m' + 1 → YSum X d Z m') (hlow : Low 1 st) : ∀ (t : Nat) (c : List Int) (k : Nat) (ops cs1 : List Int) (M : vM), YS Z M (ops ++ st) (5 - n) cs1 → oOps ops → cs1 ++ cds ops = cs ++ c → yg Z k ≠ 42 → (cs1.length + (ops.length + st.length) ≤ k ∧ k ≤ Z.2.2) → Z.2.2 ≤ k + t → (∀ f, kp_sums (yg Z) (kp_prod (yg Z) Z.2.2 (kdp (yg Z) Z.2.2 n) (kcan n)) t c k = .inl f → Ft Z Q f) → (∀ c' k' ops cs' M1, kp_sums (yg Z) (kp_prod (yg Z) Z.2.2 (kdp (yg Z) Z.2.2 n) (kcan n)) t c k = .inr (c', k') → YS Z M1 (ops ++ st) (5 - n) cs' → oOps ops → cs' ++ cds ops = cs ++ c' → rk (yg Z k') = 0 → k ≤ k' → (cs'.length + (ops.length + st.length) ≤ k' ∧ k' ≤ Z.2.2) → Wt X d Q 0 k' M1) → Wt X d Q 0 k M
  | 0, c, k, ops, cs1, M, h, hp, hc, h42, hb, ht, qf, q => by
    have g0 : yg Z k = -1 := by unfold yg; rw [if_neg (by omega)]
    exact q c k ops cs1 M rfl h hp hc (by rw [g0]; decide) (Nat.le_refl k) hb
  | t + 1, c, k, ops, cs1, M, h, hp, hc, h42, hb, ht, qf, q => by
    have h120 := H.2.1
    have step : (yg Z k = 43 ∨ yg Z k = 45) → (∀ f, kp_then (kp_prod (yg Z) Z.2.2 (kdp (yg Z) Z.2.2 n) (kcan n) (k + 1)) (fun c2 k2 => kp_sums (yg Z) (kp_prod (yg Z) Z.2.2 (kdp (yg Z) Z.2.2 n) (kcan n)) t (c ++ c2 ++ [20000 + yg Z k]) k2) = .inl f → Ft Z Q f) → (∀ c' k' ops cs' M1, kp_then (kp_prod (yg Z) Z.2.2 (kdp (yg Z) Z.2.2 n) (kcan n) (k + 1)) (fun c2 k2 => kp_sums (yg Z) (kp_prod (yg Z) Z.2.2 (kdp (yg Z) Z.2.2 n) (kcan n)) t (c ++ c2 ++ [20000 + yg Z k]) k2) = .inr (c', k') → YS Z M1 (ops ++ st) (5 - n) cs' → oOps ops → cs' ++ cds ops = cs ++ c' → rk (yg Z k') = 0 → k ≤ k' → (cs'.length + (ops.length + st.length) ≤ k' ∧ k' ≤ Z.2.2) → Wt X d Q 0 k' M1) → Wt X d Q 0 k M := fun z qf q => by
      have hk := (yg_r H k).2.2 (by omega)
      have le : (cs1 ++ cds ops).length = (cs ++ c).length := by rw [hc]
      rw [List.length_append, List.length_map] at le
      have r1 : rk (yg Z k) = 1 := by unfold rk; rw [if_pos z]
      have iop : isOp (yg Z k) := Or.inr z
      refine turn0 h H hk (S_behind_op (d := d + 1) H h (by omega) (by omega) (by omega) (fun x hx => ⟨hp x hx, by rw [r1]; exact rk_op (hp x hx)⟩) (by rw [r1]; exact hlow) (fun M1 y => Or.inl ⟨k + 1, rfl, fun y2 => by omega, fun _ => ?_, _, _, _, y⟩))
      rw [hc] at y
      refine S_yprod (st := yg Z k :: st) H hn hS (show rk (yg Z k) < 2 by omega) y ⟨by show (cs ++ c).length + (st.length + 1) ≤ k + 1; omega, by omega⟩ (fun f e => qf f (by rw [e]; rfl)) (fun c2 k2 pend cs2 M2 e y1 y2 y3 y4 y5 y6 => ?_)
      rw [e] at qf q
      have y6a : cs2.length + (pend.length + (st.length + 1)) ≤ k2 := y6.1
      have eapp : pend ++ yg Z k :: st = (pend ++ [yg Z k]) ++ st := by simp
      rw [eapp] at y1
      refine LP_ysums H hn hS hlow t (c ++ c2 ++ [20000 + yg Z k]) k2 (pend ++ [yg Z k]) cs2 M2 y1 (fun x hx => ?_) ?_ y4 ⟨by rw [List.length_append]; show cs2.length + (pend.length + 1 + st.length) ≤ k2; omega, y6.2⟩ (by omega) qf (fun c' k' ops' cs' M3 x1 x2 x3 x4 x5 x6 x7 => q c' k' ops' cs' M3 x1 x2 x3 x4 x5 (by omega) x7)
      · rcases List.mem_append.mp hx with w | w
        · exact Or.inl (y2 x w)
        · rw [List.mem_singleton.mp w]; exact iop
      · rw [show cds (pend ++ [yg Z k]) = cds pend ++ [20000 + yg Z k] by simp, ← List.append_assoc, y3]
        simp [List.append_assoc]
    rw [kp_sums] at qf q
    by_cases z1 : yg Z k = 43
    · rw [if_pos z1] at qf q
      rw [z1] at step
      exact step (Or.inl rfl) qf q
    · rw [if_neg z1] at qf q
      by_cases z2 : yg Z k = 45
      · rw [if_pos z2] at qf q
        rw [z2] at step
        exact step (Or.inr rfl) qf q
      · rw [if_neg z2] at qf q
        exact q c k ops cs1 M rfl h hp hc (by unfold rk; rw [if_neg (by omega), if_neg h42]) (Nat.le_refl k) hb
theorem S_ysum1 (H : YH Z) (hn : n ≤ 5) (hS : ∀ m', n = m' + 1 → YSum X d Z m') : YSum X d Z n := fun st cs k M Q h hlow hb qf q => by
  have e0 := kp_lvl_e (yg Z) Z.2.2 n
  rw [e0] at qf q
  unfold kp_sum at qf q
  have hlow2 : Low 2 st := by
    cases st with
    | nil => trivial
    | cons y r => have : rk y < 1 := hlow; show rk y < 2; omega
  refine S_yprod H hn hS hlow2 h hb (fun f e => qf f (by rw [e]; rfl)) (fun c k1 pend cs1 M1 e y1 y2 y3 y4 y5 y6 => ?_)
  rw [e] at qf q
  exact LP_ysums H hn hS hlow Z.2.2 c k1 pend cs1 M1 y1 (fun x hx => Or.inl (y2 x hx)) y3 y4 y6 (by omega) qf (fun c' k' ops' cs' M3 x1 x2 x3 x4 x5 x6 x7 => q c' k' ops' cs' M3 x1 x2 x3 x4 x5 (by omega) x7)
theorem S_ysum (H : YH Z) : ∀ n : Nat, n ≤ 5 → YSum X d Z n
  | 0, hn => S_ysum1 H hn (fun m' e => by omega)
  | n + 1, hn => S_ysum1 H hn (fun m' e => by
      have e2 : m' = n := by omega
      rw [e2]
      exact S_ysum H n (by omega))
end YA
