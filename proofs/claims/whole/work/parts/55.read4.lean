/-! THE CLASS READS A TEXT: atoms, products, sums, all of it -/
section RF
variable {X : vX} {d : Nat} {M : vM} {Q : Option vV → vM → Prop} {l0 l1 l2 l3 l4 l5 l6 l8 : Int} {Z : KZ} {k f n : Nat} {R : KR}
theorem S_atom_d (h : KD Z M f) (q : ∀ x, Q (some (vL x)) M) : cq X (d + 3) 78 [vR 68, vI l1] M Q :=
  E_Re_atom (B_Re_atom_0 (S_skips_d (by decide) h (B_Re_atom_6 (fun _ => B_Re_atom_15 (S_skips_d (by decide) h (B_Re_atom_21 (fun _ => B_Re_atom_30 (S_skips_d (by decide) h (B_Re_atom_36 (fun _ => B_Re_atom_45 (S_skips_d (by decide) h (B_Re_atom_51 (fun _ => B_Re_atom_60 (S_next_d h (B_Re_atom_64 (fun _ => B_Re_atom_88 (S_number_d h (B_Re_atom_92 (q _)))) (fun z => absurd z (by decide))))) (fun z => absurd rfl z)))) (fun z => absurd rfl z)))) (fun z => absurd rfl z)))) (fun z => absurd rfl z))))
theorem S_atom {D : Nat} (hD : 3 ≤ D) (H : KH Z) (hn : n ≤ 5) (hS : ∀ m, n = m + 1 → SumOK X D Z m) (h : KA Z M k) (q : ∀ M1 x, KO Z (kp_atom (KG Z) (kdp (KG Z) Z.2.2.1 n) (kcan n) k) M1 x → Q (some (vL x)) M1) : cq X (D + 3) 78 [vR 68, vI (5 - (n : Int))] M Q := by
  obtain ⟨D', rfl⟩ : ∃ D', D = D' + 3 := ⟨D - 3, by omega⟩
  have c5 : (5 - (n : Int) < 5) ↔ kcan n = true := by unfold kcan; rw [decide_eq_true_eq]; omega
  unfold kp_atom at q
  refine E_Re_atom (B_Re_atom_0 (S_skips (d := D' + 3) (by decide) H h (fun z M1 h1 => B_Re_atom_6 (fun y => absurd y (by decide)) (fun _ => B_Re_atom_9 ?_)) (fun z1 => B_Re_atom_6 (fun _ => ?_) (fun y => absurd rfl y))))
  · rw [h1.1.2.2.2.2.2.2.1]
    refine q M1 _ ?_
    rw [if_pos z]
    exact ⟨h1, KV_s H.2.2.2.1⟩
  rw [if_neg z1] at q
  refine B_Re_atom_15 (S_skips (d := D' + 3) (by decide) H h (fun z M1 h1 => B_Re_atom_21 (fun y => absurd y (by decide)) (fun _ => B_Re_atom_24 ?_)) (fun z2 => B_Re_atom_21 (fun _ => ?_) (fun y => absurd rfl y)))
  · rw [h1.1.2.2.2.2.2.2.2]
    refine q M1 _ ?_
    rw [if_pos z]
    exact ⟨h1, KV_v H.2.2.2.2⟩
  rw [if_neg z2] at q
  refine B_Re_atom_30 (S_skips (d := D' + 3) (by decide) H h (fun z M1 h1 => B_Re_atom_36 (fun y => absurd y (by decide)) (fun _ => B_Re_atom_39 (S_LG (D := D' + 3) (by omega) H hn hS h1 (fun M2 x h2 => B_Re_atom_44 (q M2 x ?_))))) (fun z3 => B_Re_atom_36 (fun _ => ?_) (fun y => absurd rfl y)))
  · rw [if_pos z]
    exact h2
  rw [if_neg z3] at q
  refine B_Re_atom_45 (S_skips (d := D' + 3) (by decide) H h (fun z M1 h1 => B_Re_atom_51 (fun y => absurd y (by decide)) (fun _ => B_Re_atom_54 (S_IF (D := D' + 3) (by omega) H hn hS h1 (fun M2 x h2 => B_Re_atom_59 (q M2 x ?_))))) (fun z4 => B_Re_atom_51 (fun _ => ?_) (fun y => absurd rfl y)))
  · rw [if_pos z]
    exact h2
  rw [if_neg z4] at q
  refine B_Re_atom_60 (S_next (d := D' + 4) H h (B_Re_atom_64 (fun z5 => B_Re_atom_88 (S_number (d := D' + 3) H h (fun M1 x h1 => B_Re_atom_92 (q M1 x ?_)))) (fun z5 => B_Re_atom_69 ?_)))
  · rw [if_neg z5]
    exact h1
  rw [if_pos z5] at q
  unfold kp_open at q
  refine S_opens (d := D' + 1) H h (fun y1 y2 M1 h1 => ?_) (fun y M1 h1 => B_Re_atom_74 (S_deeper_d h1 (B_Re_atom_79 (S_needs_d (d := D' + 2) (by decide) h1 (B_Re_atom_86 (q M1 _ ?_))))))
  · have hc := c5.mp y1
    rw [if_pos ⟨hc, y2⟩] at q
    dsimp only at q
    refine B_Re_atom_74 (cq.deep (d := D' + 4) (by omega) (S_deeper hn hS hc h1 (fun M2 x2 h2 => ?_)))
    cases e1 : kdp (KG Z) Z.2.2.1 n (k + 1) with
    | inl f =>
      rw [e1] at h2 q
      exact B_Re_atom_79 (S_needs_d (d := D' + 2) (f := f) (by decide) h2 (B_Re_atom_86 (q M2 _ h2)))
    | inr r1 =>
      obtain ⟨c1, k1⟩ := r1
      rw [e1] at h2 q
      obtain ⟨hA1, hV1⟩ := h2
      simp only [kp_then, kp_need] at q
      refine B_Re_atom_79 (S_needs (d := D' + 2) (by decide) H hA1 (fun w1 M4 h4 => B_Re_atom_86 (q M4 _ ?_)) (fun w1 M4 h4 => B_Re_atom_86 (q M4 _ ?_)))
      · rw [if_pos w1]
        exact ⟨h4, hV1⟩
      · rw [if_neg w1]
        exact h4
  · rw [if_neg (fun w => y ⟨c5.mpr w.1, w.2⟩)]
    exact h1
theorem PRL_d (hk : ∃ e : Nat, M 68 1 = (e : Int)) (h : KD Z M f) (q : ∀ x, Q (some (vL x)) M) : vw X (d + 2) 77 9 [vR 68, vI l1, vL l2, vN, vI l4] [] M Q :=
  B_Re_product_9 (fun _ => B_Re_product_44 (q _)) (fun _ => B_Re_product_18 (S_skips_d (by decide) h (B_Re_product_24 (fun _ => B_Re_product_44 (q _)) (fun z => absurd rfl z))))
theorem PRD_d (h : KD Z M f) (q : ∀ x, Q (some (vL x)) M) : cq X (d + 4) 77 [vR 68, vI l1] M Q :=
  E_Re_product (B_Re_product_0 (S_atom_d h (fun x => B_Re_product_5 (PRL_d (d := d + 1) ⟨_, h.2.2.2.1⟩ h q))))
theorem LP_product {D : Nat} (hD : 3 ≤ D) (H : KH Z) (hn : n ≤ 5) (hS : ∀ m, n = m + 1 → SumOK X D Z m) : ∀ (t : Nat) (c : List Int) (k : Nat) (M : vM) (p : Int), KA Z M k → KV Z.2.2.2.1 Z.2.2.2.2 c p → t ≤ Z.2.2.1 → (∀ M1 x, KO Z (kp_prods (KG Z) (kp_atom (KG Z) (kdp (KG Z) Z.2.2.1 n) (kcan n)) t c k) M1 x → Q (some (vL x)) M1) → vw X (D + 3) 77 9 [vR 68, vI (5 - (n : Int)), vL p, vN, vI ((Z.2.2.1 : Int) - t)] [] M Q
  | 0, c, k, M, p, h, hV, ht, q => by
    have e := h.1.2.2.2.1
    exact B_Re_product_9 (fun _ => B_Re_product_44 (q M p ⟨h, hV⟩)) (fun z => by exfalso; omega)
  | t + 1, c, k, M, p, h, hV, ht, q => by
    have e := h.1.2.2.2.1
    have e0 := H.2.2.1
    rw [kp_prods] at q
    refine B_Re_product_9 (fun z => by exfalso; omega) (fun _ => B_Re_product_18 (S_skips (d := D + 1) (by decide) H h (fun z M1 h1 => B_Re_product_24 (fun y => absurd y (by decide)) (fun _ => B_Re_product_27 (S_atom hD H hn hS h1 (fun M2 x2 h2 => ?_)))) (fun z => B_Re_product_24 (fun _ => B_Re_product_44 (q M p ?_)) (fun y => absurd rfl y))))
    · rw [if_pos z] at q
      cases e1 : kp_atom (KG Z) (kdp (KG Z) Z.2.2.1 n) (kcan n) (k + 1) with
      | inl f =>
        rw [e1] at h2 q
        simp only [kp_then] at q
        refine B_Re_product_33 ?_
        have : ∀ y : Int, KD Z M2 f → Q (some (vL y)) M2 := fun y hy => q M2 y hy
        refine E_Re_kept (B_Re_kept_0 (S_minL (B_Re_kept_10 (S_maxL (B_Re_kept_13 (B_Re_product_37 (PRL_d (d := D + 1) (f := f) ⟨_, (show KD Z M2 f from h2).2.2.2.1⟩ h2 (fun y => this y h2))))))))
      | inr r1 =>
        obtain ⟨c2, k2⟩ := r1
        rw [e1] at h2 q
        simp only [kp_then] at q
        obtain ⟨hA2, hV2⟩ := h2
        have m := mul_s' (b := p + 1000000) (B := 2000000) (a := x2) (A := 1000000) (by have := hV.2; omega) hV2.2
        have e2 : (p + 1000000) * x2 = p * x2 + 1000000 * x2 := Int.add_mul _ _ _
        have b2 := hV2.2
        refine B_Re_product_33 ?_
        rw [w64_i (x := p * x2) (by omega)]
        refine S_kept (d := D + 1) (by omega) (B_Re_product_37 ?_)
        rw [w32_i (x := (Z.2.2.1 : Int) - ((t + 1 : Nat) : Int) + 1) (by omega), show (Z.2.2.1 : Int) - ((t + 1 : Nat) : Int) + 1 = (Z.2.2.1 : Int) - t by omega]
        exact LP_product hD H hn hS t _ k2 M2 _ hA2 (KV_op (code := 20042) hV hV2 (by decide)) (by omega) q
    · rw [if_neg z]
      exact ⟨h, hV⟩
theorem S_product {D : Nat} (hD : 3 ≤ D) (H : KH Z) (hn : n ≤ 5) (hS : ∀ m, n = m + 1 → SumOK X D Z m) (h : KA Z M k) (q : ∀ M1 x, KO Z (kp_prod (KG Z) Z.2.2.1 (kdp (KG Z) Z.2.2.1 n) (kcan n) k) M1 x → Q (some (vL x)) M1) : cq X (D + 4) 77 [vR 68, vI (5 - (n : Int))] M Q := by
  unfold kp_prod at q
  refine E_Re_product (B_Re_product_0 (S_atom hD H hn hS h (fun M2 x2 h2 => B_Re_product_5 ?_)))
  cases e1 : kp_atom (KG Z) (kdp (KG Z) Z.2.2.1 n) (kcan n) k with
  | inl f =>
    rw [e1] at h2 q
    exact PRL_d (d := D + 1) (f := f) ⟨_, (show KD Z M2 f from h2).2.2.2.1⟩ h2 (fun y => q M2 y h2)
  | inr r1 =>
    obtain ⟨c2, k2⟩ := r1
    rw [e1] at h2 q
    have := LP_product hD H hn hS Z.2.2.1 c2 k2 M2 x2 h2.1 h2.2 (Nat.le_refl _) q
    rw [Int.sub_self] at this
    exact this
theorem SML_d (h : KD Z M f) (q : ∀ x, Q (some (vL x)) M) : vw X (d + 2) 76 9 [vR 68, vI l1, vL l2, vN, vI l4] [] M Q :=
  B_Re_sum_9 (fun _ => B_Re_sum_67 (q _)) (fun _ => B_Re_sum_18 (S_skips_d (by decide) h (B_Re_sum_24 (fun _ => B_Re_sum_41 (S_skips_d (by decide) h (B_Re_sum_47 (fun _ => B_Re_sum_67 (q _)) (fun z => absurd rfl z)))) (fun z => absurd rfl z))))
theorem LP_sum {D : Nat} (hD : 3 ≤ D) (H : KH Z) (hn : n ≤ 5) (hS : ∀ m, n = m + 1 → SumOK X D Z m) : ∀ (t : Nat) (c : List Int) (k : Nat) (M : vM) (p : Int), KA Z M k → KV Z.2.2.2.1 Z.2.2.2.2 c p → t ≤ Z.2.2.1 → (∀ M1 x, KO Z (kp_sums (KG Z) (kp_prod (KG Z) Z.2.2.1 (kdp (KG Z) Z.2.2.1 n) (kcan n)) t c k) M1 x → Q (some (vL x)) M1) → vw X (D + 4) 76 9 [vR 68, vI (5 - (n : Int)), vL p, vN, vI ((Z.2.2.1 : Int) - t)] [] M Q
  | 0, c, k, M, p, h, hV, ht, q => by
    have e := h.1.2.2.2.1
    exact B_Re_sum_9 (fun _ => B_Re_sum_67 (q M p ⟨h, hV⟩)) (fun z => by exfalso; omega)
  | t + 1, c, k, M, p, h, hV, ht, q => by
    have e := h.1.2.2.2.1
    have e0 := H.2.2.1
    have b1 := hV.2
    have nx : w32 ((Z.2.2.1 : Int) - ((t + 1 : Nat) : Int) + 1) = (Z.2.2.1 : Int) - t := by rw [w32_i (by omega)]; omega
    rw [kp_sums] at q
    refine B_Re_sum_9 (fun z => by exfalso; omega) (fun _ => B_Re_sum_18 (S_skips (d := D + 2) (by decide) H h (fun z M1 h1 => B_Re_sum_24 (fun y => absurd y (by decide)) (fun _ => B_Re_sum_27 (S_product hD H hn hS h1 (fun M2 x2 h2 => ?_)))) (fun z => B_Re_sum_24 (fun _ => B_Re_sum_41 (S_skips (d := D + 2) (by decide) H h (fun z2 M1 h1 => B_Re_sum_47 (fun y => absurd y (by decide)) (fun _ => B_Re_sum_50 (S_product hD H hn hS h1 (fun M2 x2 h2 => ?_)))) (fun z2 => B_Re_sum_47 (fun _ => B_Re_sum_67 (q M p ?_)) (fun y => absurd rfl y)))) (fun y => absurd rfl y))))
    · rw [if_pos z] at q
      cases e1 : kp_prod (KG Z) Z.2.2.1 (kdp (KG Z) Z.2.2.1 n) (kcan n) (k + 1) with
      | inl f =>
        rw [e1] at h2 q
        simp only [kp_then] at q
        exact B_Re_sum_33 (E_Re_kept (B_Re_kept_0 (S_minL (B_Re_kept_10 (S_maxL (B_Re_kept_13 (B_Re_sum_37 (SML_d (d := D + 2) (f := f) h2 (fun y => q M2 y h2)))))))))
      | inr r1 =>
        obtain ⟨c2, k2⟩ := r1
        rw [e1] at h2 q
        simp only [kp_then] at q
        obtain ⟨hA2, hV2⟩ := h2
        have b2 := hV2.2
        refine B_Re_sum_33 ?_
        rw [w64_i (x := p + x2) (by omega)]
        refine S_kept (d := D + 2) (by omega) (B_Re_sum_37 ?_)
        rw [nx]
        exact LP_sum hD H hn hS t _ k2 M2 _ hA2 (KV_op (code := 20043) hV hV2 (by decide)) (by omega) q
    · rw [if_neg z, if_pos z2] at q
      cases e1 : kp_prod (KG Z) Z.2.2.1 (kdp (KG Z) Z.2.2.1 n) (kcan n) (k + 1) with
      | inl f =>
        rw [e1] at h2 q
        simp only [kp_then] at q
        exact B_Re_sum_56 (E_Re_kept (B_Re_kept_0 (S_minL (B_Re_kept_10 (S_maxL (B_Re_kept_13 (B_Re_sum_60 (SML_d (d := D + 2) (f := f) h2 (fun y => q M2 y h2)))))))))
      | inr r1 =>
        obtain ⟨c2, k2⟩ := r1
        rw [e1] at h2 q
        simp only [kp_then] at q
        obtain ⟨hA2, hV2⟩ := h2
        have b2 := hV2.2
        refine B_Re_sum_56 ?_
        rw [w64_i (x := p - x2) (by omega)]
        refine S_kept (d := D + 2) (by omega) (B_Re_sum_60 ?_)
        rw [nx]
        exact LP_sum hD H hn hS t _ k2 M2 _ hA2 (KV_op (code := 20045) hV hV2 (by decide)) (by omega) q
    · rw [if_neg z, if_neg z2]
      exact ⟨h, hV⟩
theorem S_sum1 {D : Nat} (hD : 3 ≤ D) (H : KH Z) (hn : n ≤ 5) (hS : ∀ m, n = m + 1 → SumOK X D Z m) : SumOK X (D + 5) Z n := by
  intro M k Q h q
  rw [kp_lvl_e] at q
  unfold kp_sum at q
  refine E_Re_sum (B_Re_sum_0 (S_product hD H hn hS h (fun M2 x2 h2 => B_Re_sum_5 ?_)))
  cases e1 : kp_prod (KG Z) Z.2.2.1 (kdp (KG Z) Z.2.2.1 n) (kcan n) k with
  | inl f =>
    rw [e1] at h2 q
    exact SML_d (d := D + 2) (f := f) h2 (fun y => q M2 y h2)
  | inr r1 =>
    obtain ⟨c2, k2⟩ := r1
    rw [e1] at h2 q
    have := LP_sum hD H hn hS Z.2.2.1 c2 k2 M2 x2 h2.1 h2.2 (Nat.le_refl _) q
    rw [Int.sub_self] at this
    exact this
theorem S_sum (H : KH Z) : ∀ n : Nat, n ≤ 5 → SumOK X (d + 8 + 5 * n) Z n
  | 0, hn => S_sum1 (D := d + 3) (by omega) H hn (fun m hm => by omega)
  | n + 1, hn => by
    have := S_sum1 (X := X) (D := d + 8 + 5 * n) (n := n + 1) (by omega) H hn (fun m hm => by
      have : m = n := by omega
      subst this
      exact S_sum H m (by omega))
    rw [show d + 8 + 5 * (n + 1) = d + 8 + 5 * n + 5 by omega]
    exact this
/-- a text read: its fault, or its codes' value -/
theorem S_works {q1 e : Nat} {sn sv : Int} (hR : vRefs M) (hq : vS0[q1]? = some (.inr (2, 120))) (h68 : q1 ≠ 68) (he : e ≤ 120) (hs : 0 ≤ sn ∧ sn ≤ 3) (hv : -99 ≤ sv ∧ sv ≤ 99)
    (kf : ∀ M1 x f, kp_all (kp_g (M q1) e) e = .inl f → vRefs M1 → Fr (fun b _ => b = 68) M M1 → M1 68 3 = (f : Int) → Q (some (vL x)) M1)
    (ka : ∀ M1 x c, kp_all (kp_g (M q1) e) e = .inr c → KV sn sv c x → vRefs M1 → Fr (fun b _ => b = 68) M M1 → M1 68 3 = -1 → Q (some (vL x)) M1) : cq X (d + 34) 70 [vR 68, vR (q1 : Int), vI (e : Int), vI sn, vI sv] M Q := by
  have H : KH (M, q1, e, sn, sv) := ⟨hq, h68, he, hs, hv⟩
  refine E_Re_works (B_Re_works_0 hq hR (fun hR1 => E_J_minI (B_J_minI_0 (fun z => by exfalso; omega) (fun _ => B_J_minI_5 (B_Re_works_12 hR1 (fun hR2 => ?_))))))
  have hfr : Fr (fun b _ => b = 68) M (vm_up (vm_up (vm_up (vm_up (vm_up (vm_up M 68 0 (q1 : Int)) 68 1 (e : Int)) 68 2 0) 68 3 (-1)) 68 4 sn) 68 5 sv) := (((((Fr.refl.up (by exact rfl)).up (by exact rfl)).up (by exact rfl)).up (by exact rfl)).up (by exact rfl)).up (by exact rfl)
  have hA : KA (M, q1, e, sn, sv) (vm_up (vm_up (vm_up (vm_up (vm_up (vm_up M 68 0 (q1 : Int)) 68 1 (e : Int)) 68 2 0) 68 3 (-1)) 68 4 sn) 68 5 sv) 0 := by
    refine ⟨⟨hR2, hfr, ?_, ?_, ?_, ?_, ?_, ?_⟩, Nat.zero_le _⟩
    · simp (disch := decide) only [vm_up_o, vm_up_s, vm_up_k]
    · simp (disch := decide) only [vm_up_o, vm_up_s, vm_up_k]
    · simp (disch := decide) only [vm_up_o, vm_up_s, vm_up_k]
      rfl
    · simp (disch := decide) only [vm_up_o, vm_up_s, vm_up_k]
    · simp (disch := decide) only [vm_up_o, vm_up_s, vm_up_k]
    · simp (disch := decide) only [vm_up_o, vm_up_s, vm_up_k]
  have S5 := S_sum (X := X) (d := d) H 5 (Nat.le_refl 5)
  refine S5 _ 0 _ hA (fun M1 x h1 => ?_)
  have eg : KG (M, q1, e, sn, sv) = kp_g (M q1) e := rfl
  unfold kp_all at kf ka
  rw [eg] at h1
  dsimp only at h1
  cases e1 : kp_lvl (kp_g (M q1) e) e 5 0 with
  | inl f =>
    rw [e1] at h1 kf
    have h1 : KD (M, q1, e, sn, sv) M1 f := h1
    refine B_Re_works_41 (fun _ => B_Re_works_58 (kf M1 x f rfl h1.1 h1.2.1 h1.2.2.2.2.2.1)) (fun _ => B_Re_works_54 (S_fail_d (d := d + 32) h1 (B_Re_works_58 (kf M1 x f rfl h1.1 h1.2.1 h1.2.2.2.2.2.1))))
  | inr r1 =>
    obtain ⟨c, k⟩ := r1
    rw [e1] at h1 kf ka
    obtain ⟨h1, hV⟩ := h1
    have e68 := h1.1.2.2.2.1
    have e68b := h1.1.2.2.2.2.1
    dsimp only at e68 e68b kf ka
    refine B_Re_works_41 (fun z => B_Re_works_58 ?_) (fun z => B_Re_works_54 (S_fail (d := d + 32) h1 (fun M2 h2 => B_Re_works_58 ?_)))
    · refine ka M1 x c ?_ hV h1.1.1 h1.1.2.1 h1.1.2.2.2.2.2.1
      rw [if_neg (by omega)]
    · refine kf M2 x k ?_ h2.1 h2.2.1 h2.2.2.2.2.2.1
      rw [if_pos (by omega)]
end RF
