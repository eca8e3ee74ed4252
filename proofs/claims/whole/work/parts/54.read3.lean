/-! THE CLASS READS A TEXT: atoms, products, sums -/
/-- what deeper gives: at most n ( more -/
def kdp (g : Nat → Int) (e : Nat) : Nat → Nat → KR
  | 0 => fun k => .inl k
  | n + 1 => kp_lvl g e n
def kcan (n : Nat) : Bool := decide (n ≠ 0)
theorem kp_lvl_e (g : Nat → Int) (e n : Nat) : kp_lvl g e n = kp_sum g e (kdp g e n) (kcan n) := by
  cases n <;> rfl
section RE
variable {X : vX} {d : Nat} {M : vM} {Q : Option vV → vM → Prop} {l0 l1 l2 l3 l4 l5 l6 l8 : Int} {Z : KZ} {k f n : Nat} {R : KR}
theorem KO_d (h : KD Z M f) {x : Int} : KO Z (.inl f) M x := h
theorem S_deeper_d (h : KD Z M f) (q : Q (some (vL 0)) M) : cq X (d + 1) 81 [vR 68, vI l1] M Q := by
  have e := h.2.2.2.2.2.1
  exact E_Re_deeper (B_Re_deeper_0 (fun _ => B_Re_deeper_22 q) (fun z => by exfalso; omega))
/-- a sum with n more ( is read rightly -/
def SumOK (X : vX) (D : Nat) (Z : KZ) (n : Nat) : Prop := ∀ (M : vM) (k : Nat) (Q : Option vV → vM → Prop), KA Z M k → (∀ M1 x, KO Z (kp_lvl (KG Z) Z.2.2.1 n k) M1 x → Q (some (vL x)) M1) → cq X D 76 [vR 68, vI (5 - (n : Int))] M Q
theorem S_deeper {D : Nat} (hn : n ≤ 5) (hS : ∀ m, n = m + 1 → SumOK X D Z m) (hc : kcan n = true) (h : KA Z M k) (q : ∀ M1 x, KO Z (kdp (KG Z) Z.2.2.1 n k) M1 x → Q (some (vL x)) M1) : cq X (D + 1) 81 [vR 68, vI (5 - (n : Int))] M Q := by
  obtain ⟨m, rfl⟩ : ∃ m, n = m + 1 := ⟨n - 1, by unfold kcan at hc; have := of_decide_eq_true hc; omega⟩
  have e := h.1.2.2.2.2.2.1
  refine E_Re_deeper (B_Re_deeper_0 (fun z => by exfalso; omega) (fun _ => B_Re_deeper_7 (fun z => by exfalso; omega) (fun _ => B_Re_deeper_12 ?_)))
  rw [w32_i (x := 5 - ((m + 1 : Nat) : Int) + 1) (by omega), show 5 - ((m + 1 : Nat) : Int) + 1 = 5 - (m : Int) by omega]
  exact hS m rfl M k _ h (fun M1 x h1 => B_Re_deeper_19 (q M1 x h1))
-- min, max: behind the word
theorem LG_62_d (h : KD Z M f) (q : ∀ x, Q (some (vL x)) M) : vw X (d + 1) 82 62 [vR 68, vI l1, vI l2, vL l3, vN, vL l5, vN] [] M Q :=
  B_Re_lesserOrGreater_62 (fun _ => B_Re_lesserOrGreater_75 (S_maxL (B_Re_lesserOrGreater_81 (q _)))) (fun _ => B_Re_lesserOrGreater_66 (S_minL (B_Re_lesserOrGreater_72 (q _))))
theorem LG_54_d {s0 : Int} (h : KD Z M f) (q : ∀ x, Q (some (vL x)) M) : vw X (d + 3) 82 54 [vR 68, vI l1, vI l2, vL l3, vN, vN, vN] [vL s0] M Q :=
  B_Re_lesserOrGreater_54 (S_needs_d (by decide) h (LG_62_d (d := d + 2) h q))
theorem LG_49_d (h : KD Z M f) (q : ∀ x, Q (some (vL x)) M) : vw X (d + 3) 82 49 [vR 68, vI l1, vI l2, vL l3, vN, vN, vN] [] M Q :=
  B_Re_lesserOrGreater_49 (S_deeper_d h (LG_54_d h q))
theorem LG_42_d {s0 : Int} (h : KD Z M f) (q : ∀ x, Q (some (vL x)) M) : vw X (d + 3) 82 42 [vR 68, vI l1, vI l2, vN, vN, vN, vN] [vL s0] M Q :=
  B_Re_lesserOrGreater_42 (S_needs_d (by decide) h (LG_49_d h q))
theorem LG_37_d (h : KD Z M f) (q : ∀ x, Q (some (vL x)) M) : vw X (d + 3) 82 37 [vR 68, vI l1, vI l2, vN, vN, vN, vN] [] M Q :=
  B_Re_lesserOrGreater_37 (S_deeper_d h (LG_42_d h q))
def kp_two37 (g : Nat → Int) (dp : Nat → KR) (code : Int) (k : Nat) : KR := kp_then (dp k) (fun c1 k => kp_need g 44 k (fun k => kp_then (dp k) (fun c2 k => kp_need g 41 k (fun k => .inr (c1 ++ c2 ++ [code], k)))))
theorem LG_37 {D : Nat} (hD : 3 ≤ D) (H : KH Z) (hn : n ≤ 5) (hS : ∀ m, n = m + 1 → SumOK X D Z m) (hc : kcan n = true) {code : Int} (hcd : code = if l2 = 0 then 20088 else 20077) (h : KA Z M k) (q : ∀ M1 x, KO Z (kp_two37 (KG Z) (kdp (KG Z) Z.2.2.1 n) code k) M1 x → Q (some (vL x)) M1) : vw X (D + 1) 82 37 [vR 68, vI (5 - (n : Int)), vI l2, vN, vN, vN, vN] [] M Q := by
  obtain ⟨D', rfl⟩ : ∃ D', D = D' + 3 := ⟨D - 3, by omega⟩
  unfold kp_two37 at q
  refine B_Re_lesserOrGreater_37 (S_deeper hn hS hc h (fun M1 x h1 => ?_))
  cases e1 : kdp (KG Z) Z.2.2.1 n k with
  | inl f =>
    rw [e1] at h1 q
    exact LG_42_d (d := D' + 1) (f := f) h1 (fun x => q _ x h1)
  | inr r1 =>
    obtain ⟨c1, k1⟩ := r1
    rw [e1] at h1 q
    obtain ⟨hA1, hV1⟩ := h1
    refine B_Re_lesserOrGreater_42 (S_needs (d := D' + 1) (by decide) H hA1 (fun z M2 h2 => ?_) (fun z M2 h2 => ?_))
    · simp only [kp_then, kp_need, z, if_true] at q
      refine B_Re_lesserOrGreater_49 (S_deeper hn hS hc h2 (fun M3 x3 h3 => ?_))
      cases e3 : kdp (KG Z) Z.2.2.1 n (k1 + 1) with
      | inl f =>
        rw [e3] at h3 q
        exact LG_54_d (d := D' + 1) (f := f) h3 (fun x => q _ x h3)
      | inr r3 =>
        obtain ⟨c2, k3⟩ := r3
        rw [e3] at h3 q
        obtain ⟨hA3, hV3⟩ := h3
        refine B_Re_lesserOrGreater_54 (S_needs (d := D' + 1) (by decide) H hA3 (fun z2 M4 h4 => ?_) (fun z2 M4 h4 => ?_))
        · simp only [z2, if_true] at q
          have v := KV_op hV1 hV3 (code := code) (by rw [hcd]; split <;> omega)
          refine B_Re_lesserOrGreater_62 (fun y => B_Re_lesserOrGreater_75 (S_maxL (B_Re_lesserOrGreater_81 ?_))) (fun y => B_Re_lesserOrGreater_66 (S_minL (B_Re_lesserOrGreater_72 ?_)))
          · refine q M4 _ ⟨h4, ?_⟩
            rw [if_pos y] at hcd
            subst hcd
            have e : kp_op 20088 x x3 = if x3 < x then x else x3 := by
              show kk (if x3 < x then x else x3) = _
              refine kk_id ?_
              have := hV1.2
              have := hV3.2
              split <;> omega
            rw [e] at v
            exact v
          · refine q M4 _ ⟨h4, ?_⟩
            rw [if_neg y] at hcd
            subst hcd
            have e : kp_op 20077 x x3 = if x < x3 then x else x3 := by
              show kk (if x < x3 then x else x3) = _
              refine kk_id ?_
              have := hV1.2
              have := hV3.2
              split <;> omega
            rw [e] at v
            exact v
        · simp only [z2, if_false] at q
          exact LG_62_d (d := D' + 3) (f := k3) h4 (fun x => q _ x h4)
    · simp only [kp_then, kp_need, z, if_false] at q
      exact LG_49_d (d := D' + 1) (f := k1) h2 (fun x => q _ x h2)
theorem LG_d (h : KD Z M f) (q : ∀ x, Q (some (vL x)) M) : cq X (d + 5) 82 [vR 68, vI l1] M Q :=
  E_Re_lesserOrGreater (B_Re_lesserOrGreater_0 (S_skips_d (by decide) h (B_Re_lesserOrGreater_6 (fun _ => B_Re_lesserOrGreater_20 (S_needs_d (by decide) h (B_Re_lesserOrGreater_26 (S_needs_d (by decide) h (B_Re_lesserOrGreater_32 (S_opens_d h (LG_37_d (d := d + 1) h q))))))) (fun z => absurd rfl z))))
theorem S_LG {D : Nat} (hD : 3 ≤ D) (H : KH Z) (hn : n ≤ 5) (hS : ∀ m, n = m + 1 → SumOK X D Z m) (h : KA Z M k) (q : ∀ M1 x, KO Z (if KG Z k = 105 then kp_need (KG Z) 110 (k + 1) (kp_two (KG Z) (kdp (KG Z) Z.2.2.1 n) (kcan n) 20077) else kp_need (KG Z) 97 k (fun k => kp_need (KG Z) 120 k (kp_two (KG Z) (kdp (KG Z) Z.2.2.1 n) (kcan n) 20088))) M1 x → Q (some (vL x)) M1) : cq X (D + 2) 82 [vR 68, vI (5 - (n : Int))] M Q := by
  obtain ⟨D', rfl⟩ : ∃ D', D = D' + 3 := ⟨D - 3, by omega⟩
  have c5 : (5 - (n : Int) < 5) ↔ kcan n = true := by unfold kcan; rw [decide_eq_true_eq]; omega
  have two : ∀ {M : vM} {k : Nat} {l2 code : Int} {Q : Option vV → vM → Prop}, (code = if l2 = 0 then 20088 else 20077) → KA Z M k → (∀ M1 x, KO Z (kp_two (KG Z) (kdp (KG Z) Z.2.2.1 n) (kcan n) code k) M1 x → Q (some (vL x)) M1) → cq X (D' + 4) 80 [vR 68, vI (5 - (n : Int))] M (fun r M1 => wp X (D' + 4) 82 37 [vR 68, vI (5 - (n : Int)), vI l2, vN, vN, vN, vN] (r.toList ++ []) (vS0, M1) (vP Q)) := fun {M} {k} {l2} {code} {Q} hcd h q => by
    refine S_opens (d := D') H h (fun z1 z2 M1 h1 => LG_37 (D := D' + 3) (by omega) H hn hS (c5.mp z1) hcd h1 (fun M2 x h2 => q M2 x ?_)) (fun z M1 h1 => LG_37_d (d := D' + 1) h1 (fun x => q M1 x ?_))
    · unfold kp_two kp_open
      rw [if_pos ⟨c5.mp z1, z2⟩]
      exact h2
    · unfold kp_two kp_open
      rw [if_neg (fun y => z ⟨c5.mpr y.1, y.2⟩)]
      exact h1
  refine E_Re_lesserOrGreater (B_Re_lesserOrGreater_0 (S_skips (d := D' + 2) (by decide) H h (fun z M1 h1 => B_Re_lesserOrGreater_6 (fun y => absurd y (by decide)) (fun _ => B_Re_lesserOrGreater_11 (S_needs (d := D' + 1) (by decide) H h1 (fun z2 M2 h2 => B_Re_lesserOrGreater_17 ?_) (fun z2 M2 h2 => B_Re_lesserOrGreater_17 (S_opens_d (d := D') h2 (LG_37_d (d := D' + 1) h2 (fun x => q M2 x ?_))))))) (fun z => B_Re_lesserOrGreater_6 (fun _ => B_Re_lesserOrGreater_20 (S_needs (d := D' + 1) (by decide) H h (fun z2 M2 h2 => B_Re_lesserOrGreater_26 (S_needs (d := D' + 1) (by decide) H h2 (fun z3 M3 h3 => B_Re_lesserOrGreater_32 ?_) (fun z3 M3 h3 => B_Re_lesserOrGreater_32 (S_opens_d (d := D') h3 (LG_37_d (d := D' + 1) h3 (fun x => q M3 x ?_)))))) (fun z2 M2 h2 => B_Re_lesserOrGreater_26 (S_needs_d (d := D' + 1) (by decide) h2 (B_Re_lesserOrGreater_32 (S_opens_d (d := D') h2 (LG_37_d (d := D' + 1) h2 (fun x => q M2 x ?_)))))))) (fun y => absurd rfl y))))
  · refine two rfl h2 (fun M3 x h3 => q M3 x ?_)
    rw [if_pos z]
    unfold kp_need
    rw [if_pos z2]
    exact h3
  · rw [if_pos z]
    unfold kp_need
    rw [if_neg z2]
    exact h2
  · refine two rfl h3 (fun M4 x h4 => q M4 x ?_)
    rw [if_neg z]
    unfold kp_need
    rw [if_pos z2]
    dsimp only
    rw [if_pos z3]
    exact h4
  · rw [if_neg z]
    unfold kp_need
    rw [if_pos z2]
    dsimp only
    rw [if_neg z3]
    exact h3
  · rw [if_neg z]
    unfold kp_need
    rw [if_neg z2]
    exact h2
-- if
theorem IF_54_d {s0 : Int} (h : KD Z M f) (q : ∀ x, Q (some (vL x)) M) : vw X (d + 3) 83 54 [vR 68, vI l1, vL l2, vN, vL l4, vN, vL l6, vN, vN, vN] [vL s0] M Q :=
  B_Re_oneOfTwo_54 (S_needs_d (by decide) h (B_Re_oneOfTwo_62 (fun _ => B_Re_oneOfTwo_74 (q _)) (fun _ => B_Re_oneOfTwo_69 (q _))))
theorem IF_49_d (h : KD Z M f) (q : ∀ x, Q (some (vL x)) M) : vw X (d + 3) 83 49 [vR 68, vI l1, vL l2, vN, vL l4, vN, vL l6, vN, vN, vN] [] M Q :=
  B_Re_oneOfTwo_49 (S_deeper_d h (IF_54_d h q))
theorem IF_41_d {s0 : Int} (h : KD Z M f) (q : ∀ x, Q (some (vL x)) M) : vw X (d + 3) 83 41 [vR 68, vI l1, vL l2, vN, vL l4, vN, vN, vN, vN, vN] [vL s0] M Q :=
  B_Re_oneOfTwo_41 (S_needs_d (by decide) h (IF_49_d h q))
theorem IF_36_d (h : KD Z M f) (q : ∀ x, Q (some (vL x)) M) : vw X (d + 3) 83 36 [vR 68, vI l1, vL l2, vN, vL l4, vN, vN, vN, vN, vN] [] M Q :=
  B_Re_oneOfTwo_36 (S_deeper_d h (IF_41_d h q))
theorem IF_28_d {s0 : Int} (h : KD Z M f) (q : ∀ x, Q (some (vL x)) M) : vw X (d + 3) 83 28 [vR 68, vI l1, vL l2, vN, vN, vN, vN, vN, vN, vN] [vL s0] M Q :=
  B_Re_oneOfTwo_28 (S_needs_d (by decide) h (IF_36_d h q))
theorem IF_23_d (h : KD Z M f) (q : ∀ x, Q (some (vL x)) M) : vw X (d + 3) 83 23 [vR 68, vI l1, vL l2, vN, vN, vN, vN, vN, vN, vN] [] M Q :=
  B_Re_oneOfTwo_23 (S_deeper_d h (IF_28_d h q))
theorem IF_16_d {s0 : Int} (h : KD Z M f) (q : ∀ x, Q (some (vL x)) M) : vw X (d + 3) 83 16 [vR 68, vI l1, vN, vN, vN, vN, vN, vN, vN, vN] [vL s0] M Q :=
  B_Re_oneOfTwo_16 (S_needs_d (by decide) h (IF_23_d h q))
theorem IF_11_d (h : KD Z M f) (q : ∀ x, Q (some (vL x)) M) : vw X (d + 3) 83 11 [vR 68, vI l1, vN, vN, vN, vN, vN, vN, vN, vN] [] M Q :=
  B_Re_oneOfTwo_11 (S_deeper_d h (IF_16_d h q))
theorem IF_d (h : KD Z M f) (q : ∀ x, Q (some (vL x)) M) : cq X (d + 5) 83 [vR 68, vI l1] M Q :=
  E_Re_oneOfTwo (B_Re_oneOfTwo_0 (S_needs_d (by decide) h (B_Re_oneOfTwo_6 (S_opens_d h (IF_11_d (d := d + 1) h q)))))
theorem S_IF {D : Nat} (hD : 3 ≤ D) (H : KH Z) (hn : n ≤ 5) (hS : ∀ m, n = m + 1 → SumOK X D Z m) (h : KA Z M k) (q : ∀ M1 x, KO Z (kp_need (KG Z) 102 k (kp_if (KG Z) (kdp (KG Z) Z.2.2.1 n) (kcan n))) M1 x → Q (some (vL x)) M1) : cq X (D + 2) 83 [vR 68, vI (5 - (n : Int))] M Q := by
  obtain ⟨D', rfl⟩ : ∃ D', D = D' + 3 := ⟨D - 3, by omega⟩
  have c5 : (5 - (n : Int) < 5) ↔ kcan n = true := by unfold kcan; rw [decide_eq_true_eq]; omega
  unfold kp_if kp_open kp_need at q
  refine E_Re_oneOfTwo (B_Re_oneOfTwo_0 (S_needs (d := D' + 1) (by decide) H h (fun z M1 h1 => B_Re_oneOfTwo_6 (S_opens (d := D') H h1 (fun y1 y2 M2 h2 => ?_) (fun y M2 h2 => IF_11_d (d := D' + 1) h2 (fun x => q M2 x ?_)))) (fun z M1 h1 => B_Re_oneOfTwo_6 (S_opens_d (d := D') h1 (IF_11_d (d := D' + 1) h1 (fun x => q M1 x ?_))))))
  · have hc := c5.mp y1
    rw [if_pos z] at q
    dsimp only at q
    rw [if_pos ⟨hc, y2⟩] at q
    refine B_Re_oneOfTwo_11 (S_deeper hn hS hc h2 (fun M3 x1 h3 => ?_))
    cases e1 : kdp (KG Z) Z.2.2.1 n (k + 1 + 1) with
    | inl f =>
      rw [e1] at h3 q
      exact IF_16_d (d := D' + 1) (f := f) h3 (fun x => q _ x h3)
    | inr r1 =>
      obtain ⟨c1, k1⟩ := r1
      rw [e1] at h3 q
      obtain ⟨hA1, hV1⟩ := h3
      simp only [kp_then] at q
      refine B_Re_oneOfTwo_16 (S_needs (d := D' + 1) (by decide) H hA1 (fun w1 M4 h4 => ?_) (fun w1 M4 h4 => ?_))
      · simp only [w1, if_true] at q
        refine B_Re_oneOfTwo_23 (S_deeper hn hS hc h4 (fun M5 x2 h5 => ?_))
        cases e2 : kdp (KG Z) Z.2.2.1 n (k1 + 1) with
        | inl f =>
          rw [e2] at h5 q
          exact IF_28_d (d := D' + 1) (f := f) h5 (fun x => q _ x h5)
        | inr r2 =>
          obtain ⟨c2, k2⟩ := r2
          rw [e2] at h5 q
          obtain ⟨hA2, hV2⟩ := h5
          simp only at q
          refine B_Re_oneOfTwo_28 (S_needs (d := D' + 1) (by decide) H hA2 (fun w2 M6 h6 => ?_) (fun w2 M6 h6 => ?_))
          · simp only [w2, if_true] at q
            refine B_Re_oneOfTwo_36 (S_deeper hn hS hc h6 (fun M7 x3 h7 => ?_))
            cases e3 : kdp (KG Z) Z.2.2.1 n (k2 + 1) with
            | inl f =>
              rw [e3] at h7 q
              exact IF_41_d (d := D' + 1) (f := f) h7 (fun x => q _ x h7)
            | inr r3 =>
              obtain ⟨c3, k3⟩ := r3
              rw [e3] at h7 q
              obtain ⟨hA3, hV3⟩ := h7
              simp only at q
              refine B_Re_oneOfTwo_41 (S_needs (d := D' + 1) (by decide) H hA3 (fun w3 M8 h8 => ?_) (fun w3 M8 h8 => ?_))
              · simp only [w3, if_true] at q
                refine B_Re_oneOfTwo_49 (S_deeper hn hS hc h8 (fun M9 x4 h9 => ?_))
                cases e4 : kdp (KG Z) Z.2.2.1 n (k3 + 1) with
                | inl f =>
                  rw [e4] at h9 q
                  exact IF_54_d (d := D' + 1) (f := f) h9 (fun x => q _ x h9)
                | inr r4 =>
                  obtain ⟨c4, k4⟩ := r4
                  rw [e4] at h9 q
                  obtain ⟨hA4, hV4⟩ := h9
                  simp only at q
                  refine B_Re_oneOfTwo_54 (S_needs (d := D' + 1) (by decide) H hA4 (fun w4 M10 h10 => ?_) (fun w4 M10 h10 => ?_))
                  · simp only [w4, if_true] at q
                    have v := KV_if hV1 hV2 hV3 hV4
                    refine B_Re_oneOfTwo_62 (fun y => B_Re_oneOfTwo_74 (q M10 _ ⟨h10, ?_⟩)) (fun y => B_Re_oneOfTwo_69 (q M10 _ ⟨h10, ?_⟩))
                    · rw [if_neg (by omega)] at v
                      exact v
                    · rw [if_pos y] at v
                      exact v
                  · simp only [w4, if_false] at q
                    exact B_Re_oneOfTwo_62 (fun _ => B_Re_oneOfTwo_74 (q _ _ h10)) (fun _ => B_Re_oneOfTwo_69 (q _ _ h10))
              · simp only [w3, if_false] at q
                exact IF_49_d (d := D' + 1) (f := k3) h8 (fun x => q _ x h8)
          · simp only [w2, if_false] at q
            exact IF_36_d (d := D' + 1) (f := k2) h6 (fun x => q _ x h6)
      · simp only [w1, if_false] at q
        exact IF_23_d (d := D' + 1) (f := k1) h4 (fun x => q _ x h4)
  · rw [if_pos z]
    dsimp only
    rw [if_neg (fun w => y ⟨c5.mpr w.1, w.2⟩)]
    exact h2
  · rw [if_neg z]
    exact h1
end RE
