/-! A MENU -/
def mn_p0 (r0 r1 a b : Int) : Int := r0 * a * a + (r1 - r0) * b * b
def mn_p1 (r1 b : Int) : Int := r1 * b * b
def mn_v (M : vM) (r0 r1 m n a b : Int) : Int := (n - m) * (M 29 a.toNat - mn_p0 r0 r1 a b) + m * (M 29 b.toNat - mn_p1 r1 b)
def mn_i (M : vM) (r0 r1 m n a : Int) : Nat → Int → Int × Int × Int → Int × Int × Int
  | 0, _, s => s
  | k + 1, b, s => mn_i M r0 r1 m n a k (b + 1) (if s.2.2 < mn_v M r0 r1 m n a b then (a, b, mn_v M r0 r1 m n a b) else s)
def mn_o (M : vM) (r0 r1 m n : Int) : Nat → Int → Int × Int × Int → Int × Int × Int
  | 0, _, s => s
  | k + 1, a, s => mn_o M r0 r1 m n k (a + 1) (mn_i M r0 r1 m n a (a + 1).toNat 0 s)
def mn_w (r0 r1 : Int) (s : Int × Int × Int) (i : Nat) : Int := if i = 0 then s.1 else if i = 1 then mn_p0 r0 r1 s.1 s.2.1 else if i = 2 then s.2.1 else if i = 3 then mn_p1 r1 s.2.1 else if i = 4 then (if s.1 = s.2.1 then 1 else 0) else s.2.2
theorem mn_b {M : vM} {r0 r1 m n a b : Int} (hM : RM M) (h1 : 1 ≤ r0) (h2 : r0 < r1) (h3 : r1 ≤ 20) (h4 : 1 ≤ m) (h5 : m < n) (h6 : n ≤ 20) (ha : 0 ≤ a ∧ a ≤ 9) (hb : 0 ≤ b ∧ b ≤ 9) :
    w32 (w32 (w32 (r0 * a) * a) + w32 (w32 (w32 (r1 - r0) * b) * b)) = mn_p0 r0 r1 a b ∧ w32 (w32 (r1 * b) * b) = mn_p1 r1 b ∧
    w32 (w32 (w32 (n - m) * w32 (M 29 a.toNat - mn_p0 r0 r1 a b)) + w32 (m * w32 (M 29 b.toNat - mn_p1 r1 b))) = mn_v M r0 r1 m n a b ∧
    w32 (mn_p1 r1 b + w32 (r0 * w32 (w32 (a * a) - w32 (b * b)))) = mn_p0 r0 r1 a b ∧
    w32 (w32 (w32 (M 96 a.toNat - mn_p0 r0 r1 a b) * w32 (n - m)) + w32 (w32 (M 96 b.toNat - mn_p1 r1 b) * m)) = mn_v M r0 r1 m n a b := by
  have va := hM.2 a.toNat (by omega)
  have vb := hM.2 b.toNat (by omega)
  have p1 := mul_b (a := r0) (A := 20) (by omega) ha
  have p2 := mul_b p1 ha
  have p3 := mul_b (a := r1 - r0) (A := 20) (by omega) hb
  have p4 := mul_b p3 hb
  have p5 := mul_b (a := r1) (A := 20) (by omega) hb
  have p6 := mul_b p5 hb
  have e0 : mn_p0 r0 r1 a b = r0 * a * a + (r1 - r0) * b * b := rfl
  have e1 : mn_p1 r1 b = r1 * b * b := rfl
  have p7 := mul_s' (b := n - m) (B := 20) (a := M 29 a.toNat - mn_p0 r0 r1 a b) (A := 20000) (by omega) (by omega)
  have p8 := mul_s' (b := m) (B := 20) (a := M 29 b.toNat - mn_p1 r1 b) (A := 20000) (by omega) (by omega)
  have p9 := mul_b ha ha
  have p10 := mul_b hb hb
  have p11 := mul_s' (b := r0) (B := 20) (a := a * a - b * b) (A := 100) (by omega) (by omega)
  have q1 : mn_p1 r1 b + r0 * (a * a - b * b) = mn_p0 r0 r1 a b := by
    rw [e0, e1, Int.mul_sub, Int.sub_mul, Int.sub_mul, Int.mul_assoc r0 a a, Int.mul_assoc r0 b b]
    omega
  refine ⟨?_, ?_, ?_, ?_, ?_⟩
  · rw [e0]
    simp (disch := omega) only [w32_i]
  · rw [e1]
    simp (disch := omega) only [w32_i]
  · unfold mn_v
    simp (disch := omega) only [w32_i]
  · rw [← q1]
    simp (disch := omega) only [w32_i]
  · unfold mn_v
    rw [va.1, vb.1]
    rw [w32_i (x := M 29 a.toNat - mn_p0 r0 r1 a b) (by omega), w32_i (x := n - m) (by omega), w32_i (x := M 29 b.toNat - mn_p1 r1 b) (by omega), Int.mul_comm (M 29 a.toNat - mn_p0 r0 r1 a b), Int.mul_comm (M 29 b.toNat - mn_p1 r1 b)]
    simp (disch := omega) only [w32_i]
section MN
variable {X : vX} {d : Nat} {M : vM} {Q : Option vV → vM → Prop} {l0 l1 l2 l3 l4 l5 l6 : Int}
theorem S_areRates (k : Q (some (vI (if 1 ≤ l0 ∧ l0 < l1 ∧ l1 ≤ 20 then 1 else 0))) M) : cq X (d + 1) 45 [vI l0, vI l1] M Q :=
  E_Me_areRates (B_Me_areRates_0 (fun h => B_Me_areRates_20 (by rw [if_neg (by omega)] at k; exact k)) (fun h => B_Me_areRates_5 (fun h2 => B_Me_areRates_20 (by rw [if_neg (by omega)] at k; exact k)) (fun h2 => B_Me_areRates_10 (fun h3 => B_Me_areRates_20 (by rw [if_neg (by omega)] at k; exact k)) (fun h3 => B_Me_areRates_16 (by rw [if_pos (by omega)] at k; exact k)))))
theorem S_R_areRates (k : Q (some (vI (if 1 ≤ l0 ∧ l0 < l1 ∧ l1 ≤ 20 then 1 else 0))) M) : cq X (d + 1) 222 [vI l0, vI l1] M Q :=
  E_R_areRates (B_R_areRates_0 (fun h => B_R_areRates_20 (by rw [if_neg (by omega)] at k; exact k)) (fun h => B_R_areRates_5 (fun h2 => B_R_areRates_20 (by rw [if_neg (by omega)] at k; exact k)) (fun h2 => B_R_areRates_10 (fun h3 => B_R_areRates_20 (by rw [if_neg (by omega)] at k; exact k)) (fun h3 => B_R_areRates_16 (by rw [if_pos (by omega)] at k; exact k)))))
theorem S_areHeads (k : Q (some (vI (if 1 ≤ l0 ∧ l0 < l1 ∧ l1 ≤ 20 then 1 else 0))) M) : cq X (d + 1) 46 [vI l0, vI l1] M Q :=
  E_Me_areHeads (B_Me_areHeads_0 (fun h => B_Me_areHeads_19 (by rw [if_neg (by omega)] at k; exact k)) (fun h => B_Me_areHeads_4 (fun h2 => B_Me_areHeads_19 (by rw [if_neg (by omega)] at k; exact k)) (fun h2 => B_Me_areHeads_9 (fun h3 => B_Me_areHeads_19 (by rw [if_neg (by omega)] at k; exact k)) (fun h3 => B_Me_areHeads_15 (by rw [if_pos (by omega)] at k; exact k)))))
theorem mn_ir (a : Int) (h : 0 ≤ a ∧ a ≤ 9) : ∀ (n : Nat) (b : Int) (s : Int × Int × Int), 0 ≤ b → b + n = a + 1 → (0 ≤ s.1 ∧ s.1 ≤ 9 ∧ 0 ≤ s.2.1 ∧ s.2.1 ≤ 9) → 0 ≤ (mn_i M l1 l2 l3 l4 a n b s).1 ∧ (mn_i M l1 l2 l3 l4 a n b s).1 ≤ 9 ∧ 0 ≤ (mn_i M l1 l2 l3 l4 a n b s).2.1 ∧ (mn_i M l1 l2 l3 l4 a n b s).2.1 ≤ 9
  | 0, _, _, _, _, h => h
  | n + 1, b, s, h0, hn, hs => by
    rw [mn_i]
    refine mn_ir a h n (b + 1) _ (by omega) (by omega) ?_
    split
    · exact ⟨h.1, h.2, h0, by show b ≤ 9; omega⟩
    · exact hs
theorem LPI_Me_told (hr : Rel M) (h1 : 1 ≤ l1) (h2 : l1 < l2) (h3 : l2 ≤ 20) (h4 : 1 ≤ l3) (h5 : l3 < l4) (h6 : l4 ≤ 20) {a : Int} (ha : 0 ≤ a ∧ a ≤ 9) : ∀ (n : Nat) (b : Int) (s : Int × Int × Int) (w11 : vV), 0 ≤ b → b + n = a + 1 → (∀ (w10 w11 : vV), vw X (d + 1) 50 12 [vR 28, vI l1, vI l2, vI l3, vI l4, vI l5, vI (mn_i M l1 l2 l3 l4 a n b s).1, vI (mn_i M l1 l2 l3 l4 a n b s).2.1, vI (mn_i M l1 l2 l3 l4 a n b s).2.2, vI (a + 1), w10, w11] [] M Q) → vw X (d + 1) 50 22 [vR 28, vI l1, vI l2, vI l3, vI l4, vI l5, vI s.1, vI s.2.1, vI s.2.2, vI a, vI b, w11] [] M Q
  | 0, b, s, w11, h0, hn, k => B_Me_told_22 (fun h => B_Me_told_95 (by rw [w32_i (x := a + 1) (by omega)]; exact k _ _)) (fun h => by exfalso; omega)
  | n + 1, b, s, w11, h0, hn, k => by
    obtain ⟨b1, b2, b3, -, -⟩ := mn_b hr.2.2.1 h1 h2 h3 h4 h5 h6 ha (b := b) (by omega)
    have e1 := w32_i (x := b + 1) (by omega)
    rw [mn_i] at k
    refine B_Me_told_22 (fun h => by exfalso; omega) (fun h => B_Me_told_29 hr.1 (by omega) (E_Me_leastPay0 (B_Me_leastPay0_0 (B_Me_told_49 hr.1 (by omega) (E_Me_leastPay1 (B_Me_leastPay1_0 (B_Me_told_65 (fun hb => B_Me_told_89 ?_) (fun hb => B_Me_told_77 ?_))))))))
    · rw [b1, b2, b3] at hb
      rw [e1]
      rw [if_neg (by omega)] at k
      exact LPI_Me_told hr h1 h2 h3 h4 h5 h6 ha n (b + 1) s _ (by omega) (by omega) k
    · rw [b1, b2, b3] at hb
      rw [e1, b1, b2, b3]
      rw [if_pos hb] at k
      exact LPI_Me_told hr h1 h2 h3 h4 h5 h6 ha n (b + 1) (a, b, mn_v M l1 l2 l3 l4 a b) _ (by omega) (by omega) k
theorem LP_Me_told (hr : Rel M) (h1 : 1 ≤ l1) (h2 : l1 < l2) (h3 : l2 ≤ 20) (h4 : 1 ≤ l3) (h5 : l3 < l4) (h6 : l4 ≤ 20) (h7 : 0 ≤ l5 ∧ l5 ≤ 5) : ∀ (n : Nat) (a : Int) (s : Int × Int × Int) (w10 w11 : vV), 0 ≤ a → a + n = 10 → (0 ≤ s.1 ∧ s.1 ≤ 9 ∧ 0 ≤ s.2.1 ∧ s.2.1 ≤ 9) → Q (some (vI (mn_w l1 l2 (mn_o M l1 l2 l3 l4 n a s) l5.toNat))) M → vw X (d + 1) 50 12 [vR 28, vI l1, vI l2, vI l3, vI l4, vI l5, vI s.1, vI s.2.1, vI s.2.2, vI a, w10, w11] [] M Q
  | 0, a, s, w10, w11, h0, hn, hs, k => by
    obtain ⟨b1, b2, -, -, -⟩ := mn_b hr.2.2.1 h1 h2 h3 h4 h5 h6 (a := s.1) (b := s.2.1) ⟨hs.1, hs.2.1⟩ ⟨hs.2.2.1, hs.2.2.2⟩
    rw [mn_o] at k
    refine B_Me_told_12 (fun _ => B_Me_told_101 (fun h => ?_) (fun h => ?_) (fun h => ?_) (fun h => ?_) (fun h => ?_) (fun h => ?_)) (fun h => by exfalso; omega)
    · have : l5 = 5 := by omega
      subst this
      exact B_Me_told_172 k
    · subst h
      exact B_Me_told_136 k
    · subst h
      exact B_Me_told_139 (E_Me_leastPay0 (B_Me_leastPay0_0 (B_Me_told_148 (by rw [b1]; exact k))))
    · subst h
      exact B_Me_told_149 k
    · subst h
      exact B_Me_told_152 (E_Me_leastPay1 (B_Me_leastPay1_0 (B_Me_told_158 (by rw [b2]; exact k))))
    · subst h
      exact B_Me_told_159 (fun h => B_Me_told_170 (q_i k (if_neg h))) (fun h => B_Me_told_166 (q_i k (if_pos h)))
  | n + 1, a, s, w10, w11, h0, hn, hs, k => by
    rw [mn_o] at k
    exact B_Me_told_12 (fun h => by exfalso; omega) (fun h => B_Me_told_19 (LPI_Me_told hr h1 h2 h3 h4 h5 h6 (by omega) (a + 1).toNat 0 s _ (by omega) (by omega) (fun w10 w11 => LP_Me_told hr h1 h2 h3 h4 h5 h6 h7 n (a + 1) _ _ _ (by omega) (by omega) (mn_ir a (by omega) _ _ _ (by omega) (by omega) hs) k)))
def MN (M M1 : vM) (r0 r1 : Int) (s : Int × Int × Int) : Prop := Fr sTmp M M1 ∧ ∀ i : Nat, i < 6 → M1 97 i = mn_w r0 r1 s i
theorem MN_set {M1 : vM} {r0 r1 a b v e : Int} (h : Fr sTmp M M1) (he : e = if a = b then 1 else 0) : MN M (vm_up (vm_up (vm_up (vm_up (vm_up (vm_up M1 97 0 a) 97 1 (mn_p0 r0 r1 a b)) 97 2 b) 97 3 (mn_p1 r1 b)) 97 (4 : Int).toNat e) 97 5 v) r0 r1 (a, b, v) := by
  have t : ∀ j, sTmp 97 j := fun j => by unfold sTmp; omega
  refine ⟨(((((h.up (t _)).up (t _)).up (t _)).up (t _)).up (t _)).up (t _), fun i hi => ?_⟩
  have h4 : (4 : Int).toNat = 4 := rfl
  rw [h4]
  rcases (show i = 0 ∨ i = 1 ∨ i = 2 ∨ i = 3 ∨ i = 4 ∨ i = 5 by omega) with rfl | rfl | rfl | rfl | rfl | rfl
  · rfl
  · rfl
  · rfl
  · rfl
  · exact he
  · rfl
theorem LPI_R_menu (hr : Rel M) (h1 : 1 ≤ l1) (h2 : l1 < l2) (h3 : l2 ≤ 20) (h4 : 1 ≤ l3) (h5 : l3 < l4) (h6 : l4 ≤ 20) {a : Int} (ha : 0 ≤ a ∧ a ≤ 9) : ∀ (n : Nat) (b : Int) (s : Int × Int × Int) (M1 : vM) (w9 w10 w11 : vV), 0 ≤ b → b + n = a + 1 → MN M M1 l1 l2 s → (∀ (M1 : vM) (w8 w9 w10 w11 : vV), MN M M1 l1 l2 (mn_i M l1 l2 l3 l4 a n b s) → vw X d 223 58 [vR 81, vI l1, vI l2, vI l3, vI l4, vI l5, vI 1, vI (a + 1), w8, w9, w10, w11] [] M1 Q) → vw X d 223 68 [vR 81, vI l1, vI l2, vI l3, vI l4, vI l5, vI 1, vI a, vI b, w9, w10, w11] [] M1 Q
  | 0, b, s, M1, w9, w10, w11, h0, hn, hM, k => B_R_menu_68 (fun h => B_R_menu_215 (by rw [w32_i (x := a + 1) (by omega)]; exact k _ _ _ _ _ hM)) (fun h => by exfalso; omega)
  | n + 1, b, s, M1, w9, w10, w11, h0, hn, hM, k => by
    have f := hM.1
    have hR1 := vRefs_fr f hr.1
    obtain ⟨-, b2, -, b4, b5⟩ := mn_b hr.2.2.1 h1 h2 h3 h4 h5 h6 ha (b := b) (by omega)
    have e1 := w32_i (x := b + 1) (by omega)
    rw [mn_i] at k
    refine B_R_menu_68 (fun h => by exfalso; omega) (fun h => B_R_menu_75 hR1 (by omega) (by omega) (fun h => absurd h (by decide)) (fun _ => ?_))
    rw [f 96 a.toNat (by unfold sTmp; omega), f 96 b.toNat (by unfold sTmp; omega), b2, b4, b5]
    have e5 : M1 97 5 = s.2.2 := hM.2 5 (by omega)
    refine B_R_menu_137 hR1 (fun hb => B_R_menu_209 ?_) (fun hb => B_R_menu_148 hR1 (fun hab hR2 => B_R_menu_199 hR2 (by omega) (fun hR3 => ?_)) (fun hab hR2 => B_R_menu_195 hR2 (by omega) (fun hR3 => ?_)))
    · rw [e5] at hb
      rw [e1]
      rw [if_neg (by omega)] at k
      exact LPI_R_menu hr h1 h2 h3 h4 h5 h6 ha n (b + 1) s M1 _ _ _ (by omega) (by omega) hM k
    · rw [e5] at hb
      rw [e1]
      rw [if_pos hb] at k
      exact LPI_R_menu hr h1 h2 h3 h4 h5 h6 ha n (b + 1) _ _ _ _ _ (by omega) (by omega) (MN_set f (if_neg hab).symm) k
    · rw [e5] at hb
      rw [e1]
      rw [if_pos hb] at k
      exact LPI_R_menu hr h1 h2 h3 h4 h5 h6 ha n (b + 1) _ _ _ _ _ (by omega) (by omega) (MN_set f (if_pos hab).symm) k
theorem LP_R_menu (hr : Rel M) (h1 : 1 ≤ l1) (h2 : l1 < l2) (h3 : l2 ≤ 20) (h4 : 1 ≤ l3) (h5 : l3 < l4) (h6 : l4 ≤ 20) (h7 : 0 ≤ l5 ∧ l5 ≤ 5) : ∀ (n : Nat) (a : Int) (s : Int × Int × Int) (M1 : vM) (w8 w9 w10 w11 : vV), 0 ≤ a → a + n = 10 → MN M M1 l1 l2 s → (∀ M2, Fr sTmp M M2 → Q (some (vI (mn_w l1 l2 (mn_o M l1 l2 l3 l4 n a s) l5.toNat))) M2) → vw X d 223 58 [vR 81, vI l1, vI l2, vI l3, vI l4, vI l5, vI 1, vI a, w8, w9, w10, w11] [] M1 Q
  | 0, a, s, M1, w8, w9, w10, w11, h0, hn, hM, k => B_R_menu_58 (fun _ => B_R_menu_221 (vRefs_fr hM.1 hr.1) (by omega) (q_i (k M1 hM.1) (hM.2 l5.toNat (by omega)).symm)) (fun h => by exfalso; omega)
  | n + 1, a, s, M1, w8, w9, w10, w11, h0, hn, hM, k => by
    refine B_R_menu_58 (fun h => by exfalso; omega) (fun h => B_R_menu_65 (LPI_R_menu hr h1 h2 h3 h4 h5 h6 (by omega) (a + 1).toNat 0 s M1 _ _ _ (by omega) (by omega) hM (fun M2 w8 w9 w10 w11 hM2 => ?_)))
    exact LP_R_menu hr h1 h2 h3 h4 h5 h6 h7 n (a + 1) _ M2 _ _ _ _ (by omega) (by omega) hM2 k
theorem mn_first (hr : Rel M) (h1 : 1 ≤ l1) (h2 : l1 < l2) (h3 : l2 ≤ 20) (h4 : 1 ≤ l3) (h5 : l3 < l4) (h6 : l4 ≤ 20) : mn_v M l1 l2 l3 l4 0 0 = 0 := by
  have e : M 29 (0 : Int).toNat = 0 := hr.2.2.1.1
  unfold mn_v mn_p0 mn_p1
  rw [e]
  simp
theorem op_menu {a0 a1 a2 a3 a4 : Int} (hr : Rel M) : cq X (d + 40) 143 [vR 0, vI a0, vI a1, vI a2, vI a3, vI a4] M (fun v M1 => cq X (d + 40) 223 [vR 81, vI a0, vI a1, vI a2, vI a3, vI a4] M1 (fun v2 M2 => v2 = v ∧ Rel M2)) := by
  by_cases h0 : 0 ≤ a4 ∧ a4 ≤ 5
  · by_cases h1 : 1 ≤ a0 ∧ a0 < a1 ∧ a1 ≤ 20
    · by_cases h2 : 1 ≤ a2 ∧ a2 < a3 ∧ a3 ≤ 20
      · refine E_X_menu (B_X_menu_0 (S_within (B_X_menu_7 (fun _ => B_X_menu_12 (S_areRates (B_X_menu_17 (fun h => by rw [if_pos h1] at h; omega) (fun _ => B_X_menu_20 (S_areHeads (B_X_menu_26 (fun _ => B_X_menu_32 hr.1 (E_Me_told (B_Me_told_0 (LP_Me_told hr h1.1 h1.2.1 h1.2.2 h2.1 h2.2.1 h2.2.2 h0 10 0 (0, 0, 0) _ _ (by omega) (by omega) (by simp) (B_X_menu_46 ?_))))) (fun h => by rw [if_pos h2] at h; omega))))))) (fun h => by rw [if_pos h0] at h; omega))))
        refine E_R_menu (B_R_menu_0 (S_R_in (B_R_menu_10 (fun _ => B_R_menu_15 (S_R_areRates (B_R_menu_20 (fun h => by rw [if_pos h1] at h; omega) (fun _ => B_R_menu_23 (S_R_in (B_R_menu_35 (fun h => by rw [if_pos (by omega)] at h; omega) (fun _ => B_R_menu_38 (fun h => by exfalso; omega) (fun _ => B_R_menu_43 (fun _ => B_R_menu_52 ?_) (fun h => by exfalso; omega))))))))) (fun h => by rw [if_pos h0] at h; omega))))
        refine B_R_menu_58 (fun h => by exfalso; omega) (fun _ => B_R_menu_65 (B_R_menu_68 (fun h => by exfalso; omega) (fun _ => B_R_menu_75 hr.1 (by omega) (by omega) (fun _ => ?_) (fun h => absurd rfl h))))
        obtain ⟨-, b2, -, b4, b5⟩ := mn_b hr.2.2.1 h1.1 h1.2.1 h1.2.2 h2.1 h2.2.1 h2.2.2 (a := 0) (b := 0) (by omega) (by omega)
        rw [b2, b4, b5, mn_first hr h1.1 h1.2.1 h1.2.2 h2.1 h2.2.1 h2.2.2]
        refine B_R_menu_148 hr.1 (fun h => absurd rfl h) (fun _ hR2 => B_R_menu_195 hR2 (by omega) (fun hR3 => ?_))
        have hs : mn_i M a0 a1 a2 a3 0 1 0 (0, 0, 0) = (0, 0, 0) := by
          rw [mn_i, mn_i, if_neg (by rw [mn_first hr h1.1 h1.2.1 h1.2.2 h2.1 h2.2.1 h2.2.2]; exact Int.lt_irrefl 0)]
        have ho : mn_o M a0 a1 a2 a3 10 0 (0, 0, 0) = mn_o M a0 a1 a2 a3 9 1 (0, 0, 0) := by
          rw [mn_o, show ((0 : Int) + 1).toNat = 1 from rfl, hs]
          rfl
        rw [ho]
        rw [show w32 (0 + 1) = 1 by decide]
        refine LPI_R_menu hr h1.1 h1.2.1 h1.2.2 h2.1 h2.2.1 h2.2.2 (a := 0) (by omega) 0 1 (0, 0, 0) _ _ _ _ (by omega) (by omega) (MN_set Fr.refl rfl) (fun M2 w8 w9 w10 w11 hM2 => ?_)
        exact LP_R_menu hr h1.1 h1.2.1 h1.2.2 h2.1 h2.2.1 h2.2.2 h0 9 1 (0, 0, 0) M2 _ _ _ _ (by omega) (by omega) hM2 (fun M3 hM3 => ⟨rfl, Rel_fr hM3 hr⟩)
      · refine E_X_menu (B_X_menu_0 (S_within (B_X_menu_7 (fun _ => B_X_menu_12 (S_areRates (B_X_menu_17 (fun h => by rw [if_pos h1] at h; omega) (fun _ => B_X_menu_20 (S_areHeads (B_X_menu_26 (fun h => absurd (if_neg h2) h) (fun _ => B_X_menu_29 ?_))))))) (fun h => by rw [if_pos h0] at h; omega))))
        refine E_R_menu (B_R_menu_0 (S_R_in (B_R_menu_10 (fun _ => B_R_menu_15 (S_R_areRates (B_R_menu_20 (fun h => by rw [if_pos h1] at h; omega) (fun _ => B_R_menu_23 (S_R_in (B_R_menu_35 (fun _ => B_R_menu_49 ⟨rfl, hr⟩) (fun hn => B_R_menu_38 (fun _ => B_R_menu_49 ⟨rfl, hr⟩) (fun hm => B_R_menu_43 (fun hmn => ?_) (fun _ => B_R_menu_49 ⟨rfl, hr⟩))))))))) (fun h => by rw [if_pos h0] at h; omega))))
        exfalso
        by_cases hx : 2 ≤ a3 ∧ a3 ≤ 20
        · omega
        · exact hn (if_neg hx)
    · refine E_X_menu (B_X_menu_0 (S_within (B_X_menu_7 (fun _ => B_X_menu_12 (S_areRates (B_X_menu_17 (fun _ => B_X_menu_29 ?_) (fun h => absurd (if_neg h1) h)))) (fun h => by rw [if_pos h0] at h; omega))))
      exact E_R_menu (B_R_menu_0 (S_R_in (B_R_menu_10 (fun _ => B_R_menu_15 (S_R_areRates (B_R_menu_20 (fun _ => B_R_menu_49 ⟨rfl, hr⟩) (fun h => absurd (if_neg h1) h)))) (fun h => by rw [if_pos h0] at h; omega))))
  · refine E_X_menu (B_X_menu_0 (S_within (B_X_menu_7 (fun h => absurd (if_neg h0) h) (fun _ => B_X_menu_10 ?_))))
    exact E_R_menu (B_R_menu_0 (S_R_in (B_R_menu_10 (fun h => absurd (if_neg h0) h) (fun _ => B_R_menu_13 ⟨rfl, hr⟩))))
end MN
