/-! A CONTRACT CHOSEN: no act; the reference's side; the operation -/
section CH
variable {X : vX} {d : Nat} {M : vM} {Q : Option vV → vM → Prop} {l0 l1 l2 l3 a0 a1 : Int}
theorem LP_X_choose0 (hr : Rel M) (hw : 0 ≤ l1 ∧ l1 ≤ 1) (h4 : M 1 4 = 0) : ∀ (n k : Nat) (m : Int) (M1 : vM) (w6 w7 : vV), (k : Int) + n = M 56 5 → vRefs M1 → Fr sTmp M M1 → (∀ M1, Rel M1 → Fr sTmp M M1 → Q (some (vI (-1))) M1) → vw X (d + 38) 162 18 [vR 0, vI l1, vI (-1), vL m, vN, vI (k : Int), w6, w7, vN] [] M1 Q
  | 0, k, m, M1, w6, w7, hn, hR, f, q => by
    have e5 : M1 56 5 = M 56 5 := f 56 5 (by unfold sTmp; omega)
    exact B_X_choose_18 hR (E_Co_howMany (B_Co_howMany_0 (B_X_choose_27 (fun _ => B_X_choose_123 (q M1 (Rel_fr f hr) f)) (fun z => by exfalso; omega))))
  | n + 1, k, m, M1, w6, w7, hn, hR, f, q => by
    have hr1 := Rel_fr f hr
    have e5 : M1 56 5 = M 56 5 := f 56 5 (by unfold sTmp; omega)
    have h5 := hr.2.2.2.2.2.2.1.2.2.2.2.1
    have nx : w32 ((k : Int) + 1) = ((k + 1 : Nat) : Int) := by rw [w32_i (by omega)]; omega
    refine B_X_choose_18 hR (E_Co_howMany (B_Co_howMany_0 (B_X_choose_27 (fun z => by exfalso; omega) (fun _ => B_X_choose_30 hR (S_X_writePay (d := d + 1) (c := 79) hR hr1.2.1 hr1.2.2.2.2.2.2.1 (by omega) (Or.inr rfl) (fun N h => ?_))))))
    have fN : Fr sTmp M N := f.trans (h.2.1.mono (fun b j y => by unfold sTmp; omega))
    have hrN := Rel_fr fN hr
    have e10 : N 1 0 = M1 1 0 := h.2.1 1 0 (by omega)
    have e14 : N 1 4 = 0 := by rw [fN 1 4 (by unfold sTmp; omega)]; exact h4
    have hpr : ∀ s : Nat, (s : Int) < N 1 0 → -999 ≤ N 79 s ∧ N 79 s ≤ 999 := fun s hs => by
      rw [h.2.2.1 s (by rw [← e10]; omega)]
      have := kw_r M1 k s (M1 12 s)
      omega
    have eA : a_ans N l1 (N 79) = -1 := if_pos e14
    refine B_X_choose_40 hrN.1 (S_Ac_answered_w (d := d + 32) (q3 := 79) hrN.1 hrN.2.1 rfl hpr (by omega) (B_X_choose_52 hrN.1 ?_))
    rw [eA]
    refine S_isAct (d := d + 37) (B_X_choose_63 (fun _ => B_X_choose_117 ?_) (fun z => absurd (if_neg (by omega)) z))
    rw [nx]
    exact LP_X_choose0 hr hw h4 n (k + 1) m N _ _ (by omega) hrN.1 fN q
theorem LP_R_choose2 {k : Nat} (hr : Rel M) (hk : (k : Int) < M 56 5) : ∀ (n i : Nat) (M1 : vM), (i : Int) + n = M 1 0 → vRefs M1 → Fr (fun b _ => b = 111 ∨ b = 86) M M1 → (∀ s : Nat, s < i → M1 86 s = kw M k s (M 12 s)) → (∀ (M1 : vM) (l5 : Int), vRefs M1 → Fr (fun b _ => b = 111 ∨ b = 86) M M1 → (∀ s : Nat, s < i + n → M1 86 s = kw M k s (M 12 s)) → vw X (d + 3) 265 65 [vR 81, vI l1, vI l2, vI l3, vI (k : Int), vI l5] [] M1 Q) → vw X (d + 3) 265 35 [vR 81, vI l1, vI l2, vI l3, vI (k : Int), vI (i : Int)] [] M1 Q
  | 0, i, M1, hn, hR, f, h1, q => by
    have e : M1 81 0 = M 1 0 := by rw [f 81 0 (by omega)]; exact hr.2.1.2.1
    exact B_R_choose_35 (fun _ => q M1 _ hR f h1) (fun z => by exfalso; omega)
  | n + 1, i, M1, hn, hR, f, h1, q => by
    have hA := hr.2.1
    have hs := hA.1
    have hK := hr.2.2.2.2.2.2.1
    have h5 := hK.2.2.2.2.1
    have e : M1 81 0 = M 1 0 := by rw [f 81 0 (by omega)]; exact hA.2.1
    have g : ∀ b j : Nat, b ≠ 111 → b ≠ 86 → M1 b j = M b j := fun b j y1 y2 => f b j (by omega)
    have hK1 : RK M1 := RK_cong (fun b j hb => g b j (by unfold sRK at hb; omega) (by unfold sRK at hb; omega)) hK
    have hv := hA.2.2.2.2.2.2.2.1 i (by omega)
    have e84 : M1 84 i = M 12 i := by rw [g 84 i (by decide) (by decide)]; exact hv.1
    have e56 : M1 56 5 = M 56 5 := g 56 5 (by decide) (by decide)
    have ek := kw_fr (M := M) (M1 := M1) (k := k) (by omega) (fun b j y1 y2 => g b j (by omega) (by omega))
    refine B_R_choose_35 (fun z => by exfalso; omega) (fun _ => B_R_choose_44 hR (S_R_worthOf (d := d + 1) hR hK1 (by rw [e56]; exact hk) (by omega) (by rw [e84]; exact hv.2) (fun M2 hR2 f2 => B_R_choose_58 hR2 (by omega) (fun hR3 => ?_))))
    rw [Int.toNat_natCast, e84, ek] at hR3 ⊢
    rw [w32_i (x := (i : Int) + 1) (by omega)]
    refine LP_R_choose2 hr hk n (i + 1) _ (by omega) hR3 ((f.trans (f2.mono (fun b j y => Or.inl y))).up (Or.inr rfl)) (fun s y => ?_) (fun M3 l5 y1 y2 y3 => q M3 l5 y1 y2 (fun s z => y3 s (by omega)))
    rw [vm_up_at]
    by_cases z : s = i
    · rw [if_pos z, z]
    · rw [if_neg z, f2 86 s (show ¬ ((86 : Nat) = 111) by decide)]; exact h1 s (by omega)
theorem ch_factsR {k : Nat} {M1 N : vM} (hr : Rel M) (hw : 0 ≤ l1 ∧ l1 ≤ 1) (h4 : M 1 4 ≠ 0) (hk : (k : Int) < M 56 5) (f : Fr sTmp M M1) (h2 : Fr (fun b _ => b = 111 ∨ b = 86) M1 N) (h3 : ∀ s : Nat, s < (M1 1 0).toNat → N 86 s = kw M1 k s (M1 12 s)) : Fr sTmp M N ∧ Rel N ∧ (∀ s : Nat, (s : Int) < N 1 0 → -999 ≤ N 86 s ∧ N 86 s ≤ 999) ∧ (0 ≤ a_ans M l1 (kpay M k) ∧ a_ans M l1 (kpay M k) < M 1 4 ∧ a_ans M l1 (kpay M k) < 4) ∧ a_ans N l1 (N 86) = a_ans M l1 (kpay M k) ∧ a_left N (a_ans M l1 (kpay M k)) l1 (N 86) = a_left M (a_ans M l1 (kpay M k)) l1 (kpay M k) ∧ a_kept N (a_ans M l1 (kpay M k)) l1 (N 86) = a_kept M (a_ans M l1 (kpay M k)) l1 (kpay M k) ∧ N 1 4 = M 1 4 ∧ N 1 5 = M 1 5 := by
  have hA := hr.2.1
  have h44 := hA.2.2.1
  have h5 := hr.2.2.2.2.2.2.1.2.2.2.2.1
  have e10 : M1 1 0 = M 1 0 := f 1 0 (by unfold sTmp; omega)
  have fN : Fr sTmp M N := f.trans (h2.mono (fun b j y => by unfold sTmp; omega))
  have hrN := Rel_fr fN hr
  have E : ∀ b j : Nat, sRA b j → N b j = M b j := fun b j y => fN b j (by unfold sRA at y; unfold sTmp; omega)
  have hp : ∀ s : Nat, (s : Int) < M 1 0 → N 86 s = kpay M k s := fun s hs => by
    rw [h3 s (by rw [e10]; omega), f 12 s (by unfold sTmp; omega)]
    exact kw_fr (by omega) (fun b j y1 y2 => f b j (by unfold sTmp; omega)) _ _
  have hpr : ∀ s : Nat, (s : Int) < N 1 0 → -999 ≤ N 86 s ∧ N 86 s ≤ 999 := fun s hs => by
    rw [hp s (by rw [← E 1 0 (by unfold sRA; omega)]; exact hs)]
    exact kpay_r _ s hs
  have ar := (a_ans_r (M := M) (w := l1) (p := kpay M k) h44.1).2.2 h4
  exact ⟨fN, hrN, hpr, ⟨ar.1, ar.2, by omega⟩, a_ans_Ew E hA hp (w := l1) (by omega), a_left_Ew E hA hp (w := l1) (by omega) (by omega), a_kept_Ew E hA hp (w := l1) (by omega) (by omega), E 1 4 (by unfold sRA; omega), E 1 5 (by unfold sRA; omega)⟩
theorem LP_R_choose (hr : Rel M) (hw : 0 ≤ l1 ∧ l1 ≤ 1) (h4 : M 1 4 ≠ 0) : ∀ (n k : Nat) (b m : Int) (M1 : vM) (w5 : vV), (k : Int) + n = M 56 5 → vRefs M1 → Fr sTmp M M1 → (∀ M1, Rel M1 → Q (some (vI (ck M l1 n k (b, m)).1)) M1) → vw X (d + 39) 265 23 [vR 81, vI l1, vI b, vI m, vI (k : Int), w5] [] M1 Q
  | 0, k, b, m, M1, w5, hn, hR, f, q => by
    have hr1 := Rel_fr f hr
    have e5 : M1 56 5 = M 56 5 := f 56 5 (by unfold sTmp; omega)
    have e38 := hr1.2.2.2.2.2.2.1.2.2.2.1
    exact B_R_choose_23 (fun _ => B_R_choose_122 (q M1 hr1)) (fun z => by exfalso; omega)
  | n + 1, k, b, m, M1, w5, hn, hR, f, q => by
    have hr1 := Rel_fr f hr
    have e5 : M1 56 5 = M 56 5 := f 56 5 (by unfold sTmp; omega)
    have e38 := hr1.2.2.2.2.2.2.1.2.2.2.1
    have h5 := hr.2.2.2.2.2.2.1.2.2.2.2.1
    have nx : w32 ((k : Int) + 1) = ((k + 1 : Nat) : Int) := by rw [w32_i (by omega)]; omega
    have hs1 := hr1.2.1.1
    refine B_R_choose_23 (fun z => by exfalso; omega) (fun _ => B_R_choose_32 ?_)
    refine LP_R_choose2 (d := d + 36) hr1 (by omega) (M1 1 0).toNat 0 M1 (by omega) hR Fr.refl (fun s y => by omega) (fun N l5 hRN h2 h3 => ?_)
    rw [Nat.zero_add] at h3
    obtain ⟨fN, hrN, hpr, ar, eA, eL, eK, e14, e15⟩ := ch_factsR hr hw h4 (by omega) f h2 h3
    clear h2 h3 hR hr1 f e5 e38 hs1
    have hAN := hrN.2.1
    have e6 := hAN.2.2.2.2.2.1
    have h15 := hAN.2.2.2.2.1
    rw [ck] at q
    refine B_R_choose_65 (S_R_answerOf_w (d := d + 36) hrN.1 hAN hpr (by omega) (by rw [e14]; exact h4) (B_R_choose_70 ?_))
    rw [eA]
    refine S_R_gainOf_w (d := d + 37) hrN.1 hAN hpr (by omega) (by omega) ?_
    rw [eL]
    have ew : w32 (12 * N 81 6) = 12 * M 1 5 := by rw [e6, w32_i (by omega), e15]
    by_cases h1 : 12 * M 1 5 ≤ a_left M (a_ans M l1 (kpay M k)) l1 (kpay M k)
    · have yes : (b = -1 ∨ m < a_kept M (a_ans M l1 (kpay M k)) l1 (kpay M k)) → vw X (d + 39) 265 105 [vR 81, vI l1, vI b, vI m, vI (k : Int), vI (a_ans M l1 (kpay M k))] [] N Q := fun z => by
        rw [if_pos ⟨h1, z⟩] at q
        refine B_R_choose_105 (S_R_other_w (d := d + 37) hrN.1 hAN hpr (by omega) (by omega) (B_R_choose_115 ?_))
        rw [eK, nx]
        exact LP_R_choose hr hw h4 n (k + 1) _ _ N _ (by omega) hrN.1 fN q
      refine B_R_choose_79 (fun z => by exfalso; rw [ew] at z; omega) (fun _ => B_R_choose_89 (fun z => yes (Or.inl z)) (fun z => B_R_choose_94 (S_R_other_w (d := d + 37) hrN.1 hAN hpr (by omega) (by omega) ?_)))
      rw [eK]
      refine B_R_choose_101 (fun z2 => B_R_choose_116 ?_) (fun z2 => yes (Or.inr z2))
      rw [if_neg (fun y => by rcases y.2 with y2 | y2; exact z y2; exact absurd y2 (Int.not_lt.mpr z2))] at q
      rw [nx]
      exact LP_R_choose hr hw h4 n (k + 1) b m N _ (by omega) hrN.1 fN q
    · rw [if_neg (fun y => h1 y.1)] at q
      refine B_R_choose_79 (fun _ => B_R_choose_116 ?_) (fun z => by exfalso; rw [ew] at z; omega)
      rw [nx]
      exact LP_R_choose hr hw h4 n (k + 1) b m N _ (by omega) hrN.1 fN q
theorem op_choose (hr : Rel M) : cq X (d + 40) 162 [vR 0, vI a0] M (fun v M1 => cq X (d + 40) 265 [vR 81, vI a0] M1 (fun v2 M2 => v2 = v ∧ Rel M2)) := by
  have h5 := hr.2.2.2.2.2.2.1.2.2.2.2.1
  have e1 := hr.2.1.2.2.2.1
  by_cases h0 : 0 ≤ a0 ∧ a0 ≤ 1
  · refine E_X_choose ?_
    refine B_X_choose_0 ?_
    refine S_isWorld ?_
    refine B_X_choose_4 (fun _ => ?_) (fun q9 => by rw [if_pos h0] at q9; omega)
    refine B_X_choose_9 ?_
    by_cases h4 : M 1 4 = 0
    · refine LP_X_choose0 (d := d + 1) hr h0 h4 (M 56 5).toNat 0 _ M _ _ (by omega) hr.1 Fr.refl (fun M1 hr1 f1 => ?_)
      have e1' : M1 81 1 = 0 := by rw [hr1.2.1.2.2.2.1, f1 1 4 (by unfold sTmp; omega)]; exact h4
      refine E_R_choose ?_
      refine B_R_choose_0 ?_
      refine S_R_isWorld ?_
      refine B_R_choose_4 (fun q9 => by rw [if_pos h0] at q9; omega) (fun _ => ?_)
      refine B_R_choose_7 (fun z => absurd e1' z) (fun _ => ?_)
      refine B_R_choose_14 ?_
      exact ⟨rfl, hr1⟩
    · refine LP_X_choose (d := d + 1) hr h0 h4 (M 56 5).toNat 0 _ _ M _ _ (by omega) (by omega) hr.1 Fr.refl (fun M1 hr1 f1 => ?_)
      have e1' : M1 81 1 ≠ 0 := by rw [hr1.2.1.2.2.2.1, f1 1 4 (by unfold sTmp; omega)]; exact h4
      refine E_R_choose ?_
      refine B_R_choose_0 ?_
      refine S_R_isWorld ?_
      refine B_R_choose_4 (fun q9 => by rw [if_pos h0] at q9; omega) (fun _ => ?_)
      refine B_R_choose_7 (fun _ => ?_) (fun z => absurd z e1')
      refine B_R_choose_16 ?_
      refine LP_R_choose (d := d) hr h0 h4 (M 56 5).toNat 0 _ _ M1 _ (by omega) hr1.1 f1 (fun M2 hr2 => ⟨?_, hr2⟩)
      rw [ck_m _ _ 0 (-9223372036854775808)]
  · refine E_X_choose ?_
    refine B_X_choose_0 ?_
    refine S_isWorld ?_
    refine B_X_choose_4 (fun q9 => absurd (if_neg h0) q9) (fun _ => ?_)
    refine B_X_choose_7 ?_
    refine E_R_choose ?_
    refine B_R_choose_0 ?_
    refine S_R_isWorld ?_
    refine B_R_choose_4 (fun _ => ?_) (fun q9 => absurd (if_neg h0) q9)
    refine B_R_choose_14 ?_
    exact ⟨rfl, hr⟩
end CH
