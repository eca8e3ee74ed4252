/-! A CONTRACT SIGNED, CHOSEN -/
def ck (M : vM) (w : Int) : Nat → Nat → Int × Int → Int × Int
  | 0, _, s => s
  | n + 1, k, s => ck M w n (k + 1) (if 12 * M 1 5 ≤ a_left M (a_ans M w (kpay M k)) w (kpay M k) ∧ (s.1 = -1 ∨ s.2 < a_kept M (a_ans M w (kpay M k)) w (kpay M k)) then ((k : Int), a_kept M (a_ans M w (kpay M k)) w (kpay M k)) else s)
theorem ck_m {M : vM} {w : Int} : ∀ (n k : Nat) (m m' : Int), (ck M w n k (-1, m)).1 = (ck M w n k (-1, m')).1
  | 0, _, _, _ => rfl
  | n + 1, k, m, m' => by
    rw [ck, ck]
    by_cases h : 12 * M 1 5 ≤ a_left M (a_ans M w (kpay M k)) w (kpay M k)
    · rw [if_pos ⟨h, Or.inl rfl⟩, if_pos ⟨h, Or.inl rfl⟩]
    · rw [if_neg (fun z => h z.1), if_neg (fun z => h z.1)]
      exact ck_m n (k + 1) m m'
section SG
variable {X : vX} {d : Nat} {M : vM} {Q : Option vV → vM → Prop} {l0 l1 l2 l3 a0 a1 : Int} {q3 : Nat}
/-- the reference's memory, whose rows of pay c are being written; the base M holds as Rel -/
theorem LP_R_sign2 {N : vM} {k : Nat} (hr : Rel M) (hk : (k : Int) < M 56 5) (E : ∀ b j : Nat, b ≠ 68 → b ≠ 78 → b ≠ 111 → N b j = M b j) : ∀ (n i : Nat) (M1 : vM), (i : Int) + n = M 1 0 → vRefs M1 → Fr (fun b _ => b = 111 ∨ b = 85) N M1 → (∀ s : Nat, s < i → M1 85 s = kw M k s (M 12 s)) → (∀ s : Nat, i ≤ s → M1 85 s = M 85 s) → (∀ M1, vRefs M1 → Fr (fun b _ => b = 111 ∨ b = 85) N M1 → (∀ s : Nat, s < i + n → M1 85 s = kw M k s (M 12 s)) → (∀ s : Nat, i + n ≤ s → M1 85 s = M 85 s) → Q (some (vI 0)) M1) → vw X (d + 3) 264 12 [vR 81, vI (k : Int), vI (i : Int)] [] M1 Q
  | 0, i, M1, hn, hR, f, h1, h2, q => by
    have e : M1 81 0 = M 1 0 := by rw [f 81 0 (by omega), E 81 0 (by decide) (by decide) (by decide)]; exact hr.2.1.2.1
    exact B_R_sign_12 (fun _ => B_R_sign_38 (q M1 hR f h1 h2)) (fun z => by exfalso; omega)
  | n + 1, i, M1, hn, hR, f, h1, h2, q => by
    have hA := hr.2.1
    have hs := hA.1
    have hK := hr.2.2.2.2.2.2.1
    have h5 := hK.2.2.2.2.1
    have e : M1 81 0 = M 1 0 := by rw [f 81 0 (by omega), E 81 0 (by decide) (by decide) (by decide)]; exact hA.2.1
    have g : ∀ b j : Nat, b ≠ 68 → b ≠ 78 → b ≠ 111 → b ≠ 85 → M1 b j = M b j := fun b j y1 y2 y3 y4 => by rw [f b j (by omega), E b j y1 y2 y3]
    have hK1 : RK M1 := RK_cong (fun b j hb => g b j (by unfold sRK at hb; omega) (by unfold sRK at hb; omega) (by unfold sRK at hb; omega) (by unfold sRK at hb; omega)) hK
    have hv := hA.2.2.2.2.2.2.2.1 i (by omega)
    have e84 : M1 84 i = M 12 i := by rw [g 84 i (by decide) (by decide) (by decide) (by decide)]; exact hv.1
    have e56 : M1 56 5 = M 56 5 := g 56 5 (by decide) (by decide) (by decide) (by decide)
    have ek := kw_fr (M := M) (M1 := M1) (k := k) (by omega) (fun b j y1 y2 => g b j (by omega) (by omega) (by omega) (by omega))
    refine B_R_sign_12 (fun z => by exfalso; omega) (fun _ => B_R_sign_20 hR (S_R_worthOf (d := d + 1) hR hK1 (by rw [e56]; exact hk) (by omega) (by rw [e84]; exact hv.2) (fun M2 hR2 f2 => B_R_sign_31 hR2 (by omega) (fun hR3 => ?_))))
    rw [Int.toNat_natCast, e84, ek] at hR3 ⊢
    rw [w32_i (x := (i : Int) + 1) (by omega)]
    refine LP_R_sign2 hr hk E n (i + 1) _ (by omega) hR3 ((f.trans (f2.mono (fun b j y => Or.inl y))).up (Or.inr rfl)) (fun s y => ?_) (fun s y => ?_) (fun M3 y1 y2 y3 y4 => q M3 y1 y2 (fun s z => y3 s (by omega)) (fun s z => y4 s (by omega)))
    · rw [vm_up_at]
      by_cases z : s = i
      · rw [if_pos z, z]
      · rw [if_neg z, f2 85 s (show ¬ ((85 : Nat) = 111) by decide)]; exact h1 s (by omega)
    · rw [vm_up_at, if_neg (by omega), f2 85 s (show ¬ ((85 : Nat) = 111) by decide)]; exact h2 s (by omega)
theorem lf_sign {N M2 : vM} {k : Nat} (hr : Rel M) (h : WP M N 78 k (M 1 0).toNat) (f : Fr (fun b _ => b = 111 ∨ b = 85) N M2) (h1 : ∀ s : Nat, s < (M 1 0).toNat → M2 85 s = kw M k s (M 12 s)) (h2 : ∀ s : Nat, (M 1 0).toNat ≤ s → M2 85 s = M 85 s) : Rel M2 := by
  have hA := hr.2.1
  have hs := hA.1
  have E : ∀ b j : Nat, b ≠ 68 → b ≠ 78 → b ≠ 111 → b ≠ 85 → M2 b j = M b j := fun b j y1 y2 y3 y4 => by rw [f b j (by omega), h.2.1 b j (by omega)]
  refine Rel_A (fun b j hb => E b j (fun z => hb (by unfold sA sTmp; omega)) (fun z => hb (by unfold sA sTmp; omega)) (fun z => hb (by unfold sA sTmp; omega)) (fun z => hb (by unfold sA sTmp; omega))) hr ?_
  obtain ⟨q1, q2, q3, q4, q5, q6, q7, q8, q9, q10, q11⟩ := hA
  have e10 := E 1 0 (by decide) (by decide) (by decide) (by decide)
  have e14 := E 1 4 (by decide) (by decide) (by decide) (by decide)
  have e15 := E 1 5 (by decide) (by decide) (by decide) (by decide)
  refine ⟨by rw [e10]; exact q1, by rw [E 81 0 (by decide) (by decide) (by decide) (by decide), e10]; exact q2, by rw [e14]; exact q3, by rw [E 81 1 (by decide) (by decide) (by decide) (by decide), e14]; exact q4, by rw [e15]; exact q5, by rw [E 81 6 (by decide) (by decide) (by decide) (by decide), e15]; exact q6, fun a ha => by rw [E 82 a (by decide) (by decide) (by decide) (by decide), E 2 a (by decide) (by decide) (by decide) (by decide)]; exact q7 a ha, fun s hs => by rw [E 84 s (by decide) (by decide) (by decide) (by decide), E 12 s (by decide) (by decide) (by decide) (by decide)]; exact q8 s hs, fun s hs4 => ?_, fun a w s ha hw hs => ?_, fun a w ha hw => ?_⟩
  · have e78 : M2 78 s = N 78 s := f 78 s (by omega)
    rw [e78]
    by_cases y : s < (M 1 0).toNat
    · rw [h1 s y, h.2.2.1 s y]
      exact ⟨rfl, kw_r M k s (M 12 s)⟩
    · rw [h2 s (by omega), h.2.2.2 s (by omega)]
      exact q9 s hs4
  · rw [E 83 _ (by decide) (by decide) (by decide) (by decide), E (4 + (2 * a + w)) s (by omega) (by omega) (by omega) (by omega), e14, e10]
    exact q10 a w s ha hw hs
  · rw [e14] at ha
    rw [E (4 + (2 * a + w)) 0 (by omega) (by omega) (by omega) (by omega), E (4 + (2 * a + w)) 1 (by omega) (by omega) (by omega) (by omega), E (4 + (2 * a + w)) 2 (by omega) (by omega) (by omega) (by omega), E (4 + (2 * a + w)) 3 (by omega) (by omega) (by omega) (by omega)]
    exact q11 a w ha hw
theorem op_sign (hr : Rel M) : cq X (d + 40) 161 [vR 0, vI a0] M (fun v M1 => cq X (d + 40) 264 [vR 81, vI a0] M1 (fun v2 M2 => v2 = v ∧ Rel M2)) := by
  have hA := hr.2.1
  have hs := hA.1
  have hK := hr.2.2.2.2.2.2.1
  have h5 := hK.2.2.2.2.1
  by_cases h0 : 0 ≤ a0 ∧ a0 < M 56 5
  · obtain ⟨k, rfl⟩ : ∃ k : Nat, a0 = (k : Int) := ⟨a0.toNat, by omega⟩
    refine E_X_sign ?_
    refine B_X_sign_0 hr.1 ?_
    refine S_isContract ?_
    refine B_X_sign_8 (fun _ => ?_) (fun q9 => by rw [if_pos h0] at q9; omega)
    refine B_X_sign_13 hr.1 ?_
    refine S_X_writePay (d := d + 2) (c := 78) hr.1 hA hK h0.2 (Or.inl rfl) (fun N h => B_X_sign_22 ?_)
    have E : ∀ b j : Nat, b ≠ 68 → b ≠ 78 → b ≠ 111 → N b j = M b j := fun b j y1 y2 y3 => h.2.1 b j (by omega)
    have e56 : N 56 5 = M 56 5 := E 56 5 (by decide) (by decide) (by decide)
    have e38 : N 81 38 = N 56 5 := by rw [e56, E 81 38 (by decide) (by decide) (by decide)]; exact hK.2.2.2.1
    rw [← e56] at h0
    refine E_R_sign ?_
    refine B_R_sign_0 ?_
    refine S_R_isContract (by omega) e38 ?_
    refine B_R_sign_5 (fun _ => ?_) (fun q9 => by rw [if_pos h0] at q9; omega)
    refine B_R_sign_10 ?_
    refine LP_R_sign2 (d := d + 36) hr (by omega) E (M 1 0).toNat 0 N (by omega) h.1 Fr.refl (fun s y => by omega) (fun s _ => E 85 s (by decide) (by decide) (by decide)) (fun M2 y1 y2 y3 y4 => ⟨rfl, ?_⟩)
    rw [Nat.zero_add] at y3 y4
    exact lf_sign hr h y2 y3 y4
  · refine E_X_sign ?_
    refine B_X_sign_0 hr.1 ?_
    refine S_isContract ?_
    refine B_X_sign_8 (fun q9 => absurd (if_neg h0) q9) (fun _ => ?_)
    refine B_X_sign_11 ?_
    refine E_R_sign ?_
    refine B_R_sign_0 ?_
    refine S_R_isContract h5 hK.2.2.2.1 ?_
    refine B_R_sign_5 (fun q9 => absurd (if_neg h0) q9) (fun _ => ?_)
    refine B_R_sign_8 ?_
    exact ⟨rfl, hr⟩
-- choose
theorem kpay_r {k : Nat} (n : Int) : ∀ s : Nat, (s : Int) < n → -999 ≤ kpay M k s ∧ kpay M k s ≤ 999 := fun s _ => by
  have := kw_r M k s (M 12 s)
  show -999 ≤ kw M k s (M 12 s) ∧ kw M k s (M 12 s) ≤ 999
  omega
/-- what one contract, written into cell 79, shows -/
theorem ch_facts {k : Nat} {M1 N : vM} (hr : Rel M) (hw : 0 ≤ l1 ∧ l1 ≤ 1) (h4 : M 1 4 ≠ 0) (hk : (k : Int) < M 56 5) (f : Fr sTmp M M1) (h : WP M1 N 79 k (M1 1 0).toNat) : Fr sTmp M N ∧ Rel N ∧ (∀ s : Nat, (s : Int) < N 1 0 → -999 ≤ N 79 s ∧ N 79 s ≤ 999) ∧ (0 ≤ a_ans M l1 (kpay M k) ∧ a_ans M l1 (kpay M k) < M 1 4 ∧ a_ans M l1 (kpay M k) < 4) ∧ a_ans N l1 (N 79) = a_ans M l1 (kpay M k) ∧ a_left N (a_ans M l1 (kpay M k)) l1 (N 79) = a_left M (a_ans M l1 (kpay M k)) l1 (kpay M k) ∧ a_kept N (a_ans M l1 (kpay M k)) l1 (N 79) = a_kept M (a_ans M l1 (kpay M k)) l1 (kpay M k) ∧ N 1 4 = M 1 4 ∧ N 1 5 = M 1 5 := by
  have hA := hr.2.1
  have h44 := hA.2.2.1
  have h5 := hr.2.2.2.2.2.2.1.2.2.2.2.1
  have e10 : M1 1 0 = M 1 0 := f 1 0 (by unfold sTmp; omega)
  have fN : Fr sTmp M N := f.trans (h.2.1.mono (fun b j y => by unfold sTmp; omega))
  have hrN := Rel_fr fN hr
  have E : ∀ b j : Nat, sRA b j → N b j = M b j := fun b j y => fN b j (by unfold sRA at y; unfold sTmp; omega)
  have hp : ∀ s : Nat, (s : Int) < M 1 0 → N 79 s = kpay M k s := fun s hs => by
    rw [h.2.2.1 s (by rw [e10]; omega), f 12 s (by unfold sTmp; omega)]
    exact kw_fr (by omega) (fun b j y1 y2 => f b j (by unfold sTmp; omega)) _ _
  have hpr : ∀ s : Nat, (s : Int) < N 1 0 → -999 ≤ N 79 s ∧ N 79 s ≤ 999 := fun s hs => by
    rw [hp s (by rw [← E 1 0 (by unfold sRA; omega)]; exact hs)]
    exact kpay_r _ s hs
  have ar := (a_ans_r (M := M) (w := l1) (p := kpay M k) h44.1).2.2 h4
  exact ⟨fN, hrN, hpr, ⟨ar.1, ar.2, by omega⟩, a_ans_Ew E hA hp (w := l1) (by omega), a_left_Ew E hA hp (w := l1) (by omega) (by omega), a_kept_Ew E hA hp (w := l1) (by omega) (by omega), E 1 4 (by unfold sRA; omega), E 1 5 (by unfold sRA; omega)⟩
theorem LP_X_choose (hr : Rel M) (hw : 0 ≤ l1 ∧ l1 ≤ 1) (h4 : M 1 4 ≠ 0) : ∀ (n k : Nat) (b m : Int) (M1 : vM) (w6 w7 : vV), (k : Int) + n = M 56 5 → -1 ≤ b → vRefs M1 → Fr sTmp M M1 → (∀ M1, Rel M1 → Fr sTmp M M1 → Q (some (vI (ck M l1 n k (b, m)).1)) M1) → vw X (d + 38) 162 18 [vR 0, vI l1, vI b, vL m, vN, vI (k : Int), w6, w7, vN] [] M1 Q
  | 0, k, b, m, M1, w6, w7, hn, hb, hR, f, q => by
    have e5 : M1 56 5 = M 56 5 := f 56 5 (by unfold sTmp; omega)
    exact B_X_choose_18 hR (E_Co_howMany (B_Co_howMany_0 (B_X_choose_27 (fun _ => B_X_choose_123 (q M1 (Rel_fr f hr) f)) (fun z => by exfalso; omega))))
  | n + 1, k, b, m, M1, w6, w7, hn, hb, hR, f, q => by
    have hr1 := Rel_fr f hr
    have e5 : M1 56 5 = M 56 5 := f 56 5 (by unfold sTmp; omega)
    have h5 := hr.2.2.2.2.2.2.1.2.2.2.2.1
    have nx : w32 ((k : Int) + 1) = ((k + 1 : Nat) : Int) := by rw [w32_i (by omega)]; omega
    refine B_X_choose_18 hR (E_Co_howMany (B_Co_howMany_0 (B_X_choose_27 (fun z => by exfalso; omega) (fun _ => B_X_choose_30 hR (S_X_writePay (d := d + 1) (c := 79) hR hr1.2.1 hr1.2.2.2.2.2.2.1 (by omega) (Or.inr rfl) (fun N h => ?_))))))
    obtain ⟨fN, hrN, hpr, ar, eA, eL, eK, e14, e15⟩ := ch_facts hr hw h4 (by omega) f h
    clear h hR hr1 f e5
    rw [ck] at q
    refine B_X_choose_40 hrN.1 (S_Ac_answered_w (d := d + 32) (q3 := 79) hrN.1 hrN.2.1 rfl hpr (by omega) (B_X_choose_52 hrN.1 ?_))
    rw [eA]
    refine S_isAct (d := d + 37) (B_X_choose_63 (fun z => by rw [if_pos (by omega)] at z; omega) (fun _ => B_X_choose_66 hrN.1 (S_Ac_stays_w (d := d + 34) (q3 := 79) hrN.1 hrN.2.1 rfl hpr (by omega) (by omega) ?_)))
    rw [eL, e15]
    by_cases h1 : 12 * M 1 5 ≤ a_left M (a_ans M l1 (kpay M k)) l1 (kpay M k)
    · refine B_X_choose_80 (fun q9 => by rw [if_pos h1] at q9; omega) (fun _ => B_X_choose_83 hrN.1 (S_Ac_kept_w (d := d + 34) (q3 := 79) hrN.1 hrN.2.1 rfl hpr (by omega) (by omega) ?_))
      rw [eK]
      have yes : (b = -1 ∨ m < a_kept M (a_ans M l1 (kpay M k)) l1 (kpay M k)) → vw X (d + 38) 162 111 [vR 0, vI l1, vI b, vL m, vN, vI (k : Int), vI (a_ans M l1 (kpay M k)), vL (a_kept M (a_ans M l1 (kpay M k)) l1 (kpay M k)), vN] [] N Q := fun z => by
        rw [if_pos ⟨h1, z⟩] at q
        refine B_X_choose_111 ?_
        rw [nx]
        exact LP_X_choose hr hw h4 n (k + 1) _ _ N _ _ (by omega) (by omega) hrN.1 fN q
      refine B_X_choose_97 (fun z => yes (Or.inl z)) (fun z => B_X_choose_104 (fun z2 => B_X_choose_117 ?_) (fun z2 => yes (Or.inr z2)))
      rw [if_neg (fun y => by rcases y.2 with y2 | y2; exact z y2; exact absurd y2 (Int.not_lt.mpr z2))] at q
      rw [nx]
      exact LP_X_choose hr hw h4 n (k + 1) b m N _ _ (by omega) hb hrN.1 fN q
    · rw [if_neg (fun y => h1 y.1)] at q
      refine B_X_choose_80 (fun _ => B_X_choose_117 ?_) (fun q9 => absurd (if_neg h1) q9)
      rw [nx]
      exact LP_X_choose hr hw h4 n (k + 1) b m N _ _ (by omega) hb hrN.1 fN q
end SG
