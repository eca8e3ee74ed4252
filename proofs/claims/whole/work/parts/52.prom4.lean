/-! PROMISES: the three calls -/
theorem pr_row_lo {M : vM} (hB : PB M) {t : Nat} (ht : t ≤ 6) (w : Int) : vNO ≤ pr_row (pr_P M) t w := by
  have b : ∀ t : Fin 7, pr_bd t.val ≤ 2000000000 := by decide +kernel
  have b := b ⟨t, by omega⟩
  simp only at b
  rcases pr_row_b hB t w with h | h
  · rw [h]; exact Int.le_refl _
  · show (-9223372036854775808 : Int) ≤ _
    omega
/-- the promise that is best -/
def sb (f : Int → Int) : Nat → Int → Int → Int
  | 0, _, b => b
  | n + 1, w, b => sb f n (w + 1) (if f w ≠ vNO ∧ (b = -1 ∨ f b < f w) then w else b)
section P4
variable {X : vX} {d : Nat} {M : vM} {Q : Option vV → vM → Prop} {l0 l1 l2 l3 l4 l5 a0 a1 a2 : Int}
theorem S_X_promise (hr : Rel M) {t w : Nat} (ht : 1 ≤ t ∧ t ≤ 6) (hw : w ≤ 12) (k : ∀ M1, Rel M1 → PK M1 → pr_P M1 = pr_P M → Q (some (vL (pr_row (pr_P M) t w))) M1) : cq X (d + 10) 146 [vR 0, vI (t : Int), vI (w : Int)] M Q := by
  have h1 : 1 ≤ (t : Int) ∧ (t : Int) ≤ 6 := by omega
  have h2 : 0 ≤ (w : Int) ∧ (w : Int) ≤ 12 := by omega
  refine E_X_promise ?_
  refine B_X_promise_0 ?_
  refine S_Pr_isTerm ?_
  refine B_X_promise_4 (fun q9 => by rw [if_pos h1] at q9; omega) (fun _ => ?_)
  refine B_X_promise_7 ?_
  refine S_Pr_isPromise ?_
  refine B_X_promise_11 (fun q9 => by rw [if_pos h2] at q9; omega) (fun _ => ?_)
  refine B_X_promise_14 hr.1 ?_
  refine E_Pr_sum ?_
  refine B_Pr_sum_0 ?_
  refine S_Pr_learn hr (fun M1 hr1 hk1 e1 => B_Pr_sum_4 hr1.1 (by omega) (by omega) (B_X_promise_23 ?_))
  rw [Int.toNat_natCast, Int.toNat_natCast, (hk1 t w (by omega) (by omega)).1, e1]
  exact k M1 hr1 hk1 e1
theorem S_X_promise_no (h : ¬ ((1 ≤ l1 ∧ l1 ≤ 6) ∧ (0 ≤ l2 ∧ l2 ≤ 12))) (k : Q (some (vL (-9223372036854775808))) M) : cq X (d + 10) 146 [vR 0, vI l1, vI l2] M Q := by
  by_cases h1 : 1 ≤ l1 ∧ l1 ≤ 6
  · have h2 : ¬ (0 ≤ l2 ∧ l2 ≤ 12) := fun q => h ⟨h1, q⟩
    refine E_X_promise ?_
    refine B_X_promise_0 ?_
    refine S_Pr_isTerm ?_
    refine B_X_promise_4 (fun q9 => by rw [if_pos h1] at q9; omega) (fun _ => ?_)
    refine B_X_promise_7 ?_
    refine S_Pr_isPromise ?_
    refine B_X_promise_11 (fun _ => ?_) (fun q9 => absurd (if_neg h2) q9)
    refine B_X_promise_26 ?_
    exact k
  · refine E_X_promise ?_
    refine B_X_promise_0 ?_
    refine S_Pr_isTerm ?_
    refine B_X_promise_4 (fun _ => ?_) (fun q9 => absurd (if_neg h1) q9)
    refine B_X_promise_26 ?_
    exact k
theorem S_R_promise (hr : Rel M) {t w : Nat} (ht : 1 ≤ t ∧ t ≤ 6) (hw : w ≤ 12) (k : ∀ M1, RS M M1 t 0 → Q (some (vL (pr_row (pr_P M) t w))) M1) : cq X (d + 10) 229 [vR 81, vI (t : Int), vI (w : Int)] M Q := by
  have h1 : 1 ≤ (t : Int) ∧ (t : Int) ≤ 6 := by omega
  have h2 : 0 ≤ (w : Int) ∧ (w : Int) ≤ 12 := by omega
  have i1 : w32 (w32 (13 * (t : Int)) + (w : Int)) = ((13 * t + w : Nat) : Int) := by rw [w32_i (x := 13 * (t : Int)) (by omega), w32_i (by omega)]; omega
  refine E_R_promise ?_
  refine B_R_promise_0 ?_
  refine S_R_in ?_
  refine B_R_promise_9 (fun q9 => by rw [if_pos h1] at q9; omega) (fun _ => ?_)
  refine B_R_promise_12 ?_
  refine S_R_in ?_
  refine B_R_promise_21 (fun _ => ?_) (fun q9 => by rw [if_pos h2] at q9; omega)
  refine B_R_promise_28 ?_
  refine S_R_findSums hr ht (fun M1 hs => B_R_promise_33 hs.1 (by rw [i1]; omega) ?_)
  rw [i1, Int.toNat_natCast, (hs.2.2 t w (by omega) (Or.inl (Nat.le_refl t))).1]
  exact k M1 hs
theorem S_R_promise_no (h : ¬ ((1 ≤ l1 ∧ l1 ≤ 6) ∧ (0 ≤ l2 ∧ l2 ≤ 12))) (k : Q (some (vL (-9223372036854775808))) M) : cq X (d + 10) 229 [vR 81, vI l1, vI l2] M Q := by
  by_cases h1 : 1 ≤ l1 ∧ l1 ≤ 6
  · have h2 : ¬ (0 ≤ l2 ∧ l2 ≤ 12) := fun q => h ⟨h1, q⟩
    refine E_R_promise ?_
    refine B_R_promise_0 ?_
    refine S_R_in ?_
    refine B_R_promise_9 (fun q9 => by rw [if_pos h1] at q9; omega) (fun _ => ?_)
    refine B_R_promise_12 ?_
    refine S_R_in ?_
    refine B_R_promise_21 (fun q9 => absurd (if_neg h2) q9) (fun _ => ?_)
    refine B_R_promise_24 ?_
    exact k
  · refine E_R_promise ?_
    refine B_R_promise_0 ?_
    refine S_R_in ?_
    refine B_R_promise_9 (fun _ => ?_) (fun q9 => absurd (if_neg h1) q9)
    refine B_R_promise_24 ?_
    exact k
theorem op_promise (hr : Rel M) : cq X (d + 40) 146 [vR 0, vI a0, vI a1] M (fun v M1 => cq X (d + 40) 229 [vR 81, vI a0, vI a1] M1 (fun v2 M2 => v2 = v ∧ Rel M2)) := by
  by_cases h : (1 ≤ a0 ∧ a0 ≤ 6) ∧ (0 ≤ a1 ∧ a1 ≤ 12)
  · obtain ⟨t, rfl⟩ : ∃ t : Nat, a0 = (t : Int) := ⟨a0.toNat, by omega⟩
    obtain ⟨w, rfl⟩ : ∃ w : Nat, a1 = (w : Int) := ⟨a1.toNat, by omega⟩
    refine S_X_promise hr (by omega) (by omega) (fun M1 hr1 hk1 e1 => S_R_promise hr1 (by omega) (by omega) (fun M2 hs => ⟨?_, Rel_fr (RS_fr hs) hr1⟩))
    rw [e1]
  · exact S_X_promise_no h (S_R_promise_no h ⟨rfl, hr⟩)
theorem op_first (hr : Rel M) : cq X (d + 40) 147 [vR 0, vI a0, vI a1, vI a2] M (fun v M1 => cq X (d + 40) 230 [vR 81, vI a0, vI a1, vI a2] M1 (fun v2 M2 => v2 = v ∧ Rel M2)) := by
  by_cases h : (1 ≤ a0 ∧ a0 ≤ 6) ∧ (0 ≤ a1 ∧ a1 ≤ 12)
  · obtain ⟨t, rfl⟩ : ∃ t : Nat, a0 = (t : Int) := ⟨a0.toNat, by omega⟩
    obtain ⟨w, rfl⟩ : ∃ w : Nat, a1 = (w : Int) := ⟨a1.toNat, by omega⟩
    refine E_X_first (B_X_first_0 (S_X_promise hr (by omega) (by omega) (fun M1 hr1 hk1 e1 => ?_)))
    rw [← e1]
    by_cases hn : pr_row (pr_P M1) t w = vNO
    · refine B_X_first_6 (fun _ => B_X_first_22 ?_) (fun q => absurd hn q)
      refine E_R_first (B_R_first_0 (S_R_in ?_))
      by_cases h2 : 0 ≤ a2 ∧ a2 ≤ 3
      · refine B_R_first_9 (fun q9 => by rw [if_pos h2] at q9; omega) (fun _ => B_R_first_12 (S_R_promise hr1 (by omega) (by omega) (fun M2 hs => B_R_first_18 (fun q => absurd hn q) (fun _ => B_R_first_25 ⟨rfl, Rel_fr (RS_fr hs) hr1⟩))))
      · exact B_R_first_9 (fun _ => B_R_first_25 ⟨rfl, hr1⟩) (fun q9 => absurd (if_neg h2) q9)
    · refine B_X_first_6 (fun q => absurd q hn) (fun _ => B_X_first_13 (S_within ?_))
      by_cases h2 : 0 ≤ a2 ∧ a2 ≤ 3
      · obtain ⟨i, rfl⟩ : ∃ i : Nat, a2 = (i : Int) := ⟨a2.toNat, by omega⟩
        have i1 : w32 (w32 ((w : Int) * 4) + (i : Int)) = ((4 * w + i : Nat) : Int) := by rw [w32_i (x := (w : Int) * 4) (by omega), w32_i (by omega)]; omega
        have i2 : w32 (w32 (4 * w32 (w32 (13 * (t : Int)) + (w : Int))) + (i : Int)) = ((4 * (13 * t + w) + i : Nat) : Int) := by rw [w32_i (x := 13 * (t : Int)) (by omega), w32_i (x := 13 * (t : Int) + (w : Int)) (by omega), w32_i (x := 4 * (13 * (t : Int) + (w : Int))) (by omega), w32_i (by omega)]; omega
        refine B_X_first_19 (fun _ => B_X_first_24 hr1.1 (E_Pr_plan (B_Pr_plan_0 (S_Pr_learn hr1 (fun M2 hr2 hk2 e2 => B_Pr_plan_4 hr2.1 (by omega) (by rw [i1]; omega) (B_X_first_34 ?_)))))) (fun q => by rw [if_pos h2] at q; omega)
        rw [i1, Int.toNat_natCast, Int.toNat_natCast, (hk2 t w (by omega) (by omega)).2 (by omega) (by rw [e2]; exact hn) i (by omega), e2]
        refine E_R_first (B_R_first_0 (S_R_in (B_R_first_9 (fun q9 => by rw [if_pos h2] at q9; omega) (fun _ => B_R_first_12 (S_R_promise hr2 (by omega) (by omega) (fun M3 hs => B_R_first_18 (fun _ => B_R_first_27 hs.1 (by rw [i2]; omega) ⟨?_, Rel_fr (RS_fr hs) hr2⟩) (fun q => ?_)))))))
        · rw [i2, Int.toNat_natCast, (hs.2.2 t w (by omega) (Or.inl (Nat.le_refl t))).2 (by omega) (by rw [e2]; exact hn) i (by omega), e2]
        · rw [e2] at q
          exact absurd q hn
      · refine B_X_first_19 (fun q => absurd (if_neg h2) q) (fun _ => B_X_first_22 ?_)
        exact E_R_first (B_R_first_0 (S_R_in (B_R_first_9 (fun _ => B_R_first_25 ⟨rfl, hr1⟩) (fun q9 => absurd (if_neg h2) q9))))
  · refine E_X_first (B_X_first_0 (S_X_promise_no h (B_X_first_6 (fun _ => B_X_first_22 ?_) (fun q => absurd rfl q))))
    refine E_R_first (B_R_first_0 (S_R_in ?_))
    by_cases h2 : 0 ≤ a2 ∧ a2 ≤ 3
    · exact B_R_first_9 (fun q9 => by rw [if_pos h2] at q9; omega) (fun _ => B_R_first_12 (S_R_promise_no h (B_R_first_18 (fun q => absurd rfl q) (fun _ => B_R_first_25 ⟨rfl, hr⟩))))
    · exact B_R_first_9 (fun _ => B_R_first_25 ⟨rfl, hr⟩) (fun q9 => absurd (if_neg h2) q9)
theorem LP_Pr_best {t : Nat} (ht : t ≤ 6) (hR : vRefs M) {f : Int → Int} (hf : ∀ w : Nat, w < 13 → M (34 + t) w = f w) (hlo : ∀ w, vNO ≤ f w) : ∀ (n w : Nat) (b m : Int), w + n = 13 → m = (if b = -1 then vNO else f b) → Q (some (vI (sb f n w b))) M → vw X d 60 13 [vR 30, vI (t : Int), vI b, vL m, vN, vI (w : Int)] [] M Q
  | 0, w, b, m, hn, hm, k => B_Pr_bestPromise_13 (fun _ => B_Pr_bestPromise_53 k) (fun h => by exfalso; omega)
  | n + 1, w, b, m, hn, hm, k => by
    have lo := hlo b
    have lw := hlo w
    rw [sb] at k
    refine B_Pr_bestPromise_13 (fun h => by exfalso; omega) (fun _ => B_Pr_bestPromise_20 hR (by omega) (by omega) (fun h => B_Pr_bestPromise_47 ?_) (fun h => B_Pr_bestPromise_34 hR (by omega) (by omega) ?_))
    · rw [Int.toNat_natCast, Int.toNat_natCast, hf w (by omega)] at h
      rw [if_neg (by rw [hm] at h; intro z; split at h <;> omega)] at k
      rw [w32_i (x := (w : Int) + 1) (by omega)]
      exact LP_Pr_best ht hR hf hlo n (w + 1) b m (by omega) hm k
    · rw [Int.toNat_natCast, Int.toNat_natCast, hf w (by omega)] at h ⊢
      rw [if_pos (by rw [hm] at h; split at h <;> omega)] at k
      rw [w32_i (x := (w : Int) + 1) (by omega)]
      exact LP_Pr_best ht hR hf hlo n (w + 1) w _ (by omega) (by rw [if_neg (by omega)]) k
theorem LP_R_best {t : Nat} (ht : t ≤ 6) (hR : vRefs M) {f : Int → Int} (hf : ∀ w : Nat, w < 13 → M 100 (13 * t + w) = f w) : ∀ (n w : Nat) (b : Int), w + n = 13 → -1 ≤ b → b < w → Q (some (vI (sb f n w b))) M → vw X d 231 23 [vR 81, vI (t : Int), vI b, vI (w : Int)] [] M Q
  | 0, w, b, hn, h1, h2, k => B_R_start_23 (fun _ => B_R_start_90 k) (fun h => by exfalso; omega)
  | n + 1, w, b, hn, h1, h2, k => by
    have i1 : w32 (w32 (13 * (t : Int)) + (w : Int)) = ((13 * t + w : Nat) : Int) := by rw [w32_i (x := 13 * (t : Int)) (by omega), w32_i (by omega)]; omega
    have nx : w32 ((w : Int) + 1) = ((w + 1 : Nat) : Int) := by rw [w32_i (by omega)]; omega
    rw [sb] at k
    have yes : f w ≠ vNO ∧ (b = -1 ∨ f b < f w) → vw X d 231 78 [vR 81, vI (t : Int), vI b, vI (w : Int)] [] M Q := fun z => by
      rw [if_pos z] at k
      refine B_R_start_78 ?_
      rw [nx]
      exact LP_R_best ht hR hf n (w + 1) w (by omega) (by omega) (by omega) k
    have no : ¬ (f w ≠ vNO ∧ (b = -1 ∨ f b < f w)) → vw X d 231 82 [vR 81, vI (t : Int), vI b, vI (w : Int)] [] M Q := fun z => by
      rw [if_neg z] at k
      refine B_R_start_82 ?_
      rw [nx]
      exact LP_R_best ht hR hf n (w + 1) b (by omega) h1 (by omega) k
    refine B_R_start_23 (fun h => by exfalso; omega) (fun _ => B_R_start_29 hR (by rw [i1]; omega) (fun h => no ?_) (fun h => B_R_start_47 (fun hb => yes ?_) (fun hb => ?_)))
    · rw [i1, Int.toNat_natCast, hf w (by omega)] at h
      exact fun z => z.1 h
    · rw [i1, Int.toNat_natCast, hf w (by omega)] at h
      exact ⟨h, Or.inl hb⟩
    · rw [i1, Int.toNat_natCast, hf w (by omega)] at h
      obtain ⟨b', rfl⟩ : ∃ b' : Nat, b = (b' : Int) := ⟨b.toNat, by omega⟩
      have i2 : w32 (w32 (13 * (t : Int)) + (b' : Int)) = ((13 * t + b' : Nat) : Int) := by rw [w32_i (x := 13 * (t : Int)) (by omega), w32_i (by omega)]; omega
      refine B_R_start_52 hR (by rw [i1]; omega) (by rw [i2]; omega) (fun q => no (fun z => ?_)) (fun q => yes ⟨h, Or.inr ?_⟩)
      · rw [i1, i2, Int.toNat_natCast, Int.toNat_natCast, hf w (by omega), hf b' (by omega)] at q
        rcases z.2 with z2 | z2 <;> omega
      · rw [i1, i2, Int.toNat_natCast, Int.toNat_natCast, hf w (by omega), hf b' (by omega)] at q
        exact q
theorem op_start (hr : Rel M) : cq X (d + 40) 148 [vR 0, vI a0] M (fun v M1 => cq X (d + 40) 231 [vR 81, vI a0] M1 (fun v2 M2 => v2 = v ∧ Rel M2)) := by
  by_cases h : 1 ≤ a0 ∧ a0 ≤ 6
  · obtain ⟨t, rfl⟩ : ∃ t : Nat, a0 = (t : Int) := ⟨a0.toNat, by omega⟩
    refine E_X_start ?_
    refine B_X_start_0 ?_
    refine S_Pr_isTerm ?_
    refine B_X_start_4 (fun q9 => by rw [if_pos h] at q9; omega) (fun _ => ?_)
    refine B_X_start_7 hr.1 ?_
    refine E_Pr_bestPromise ?_
    refine B_Pr_bestPromise_0 ?_
    refine S_Pr_learn hr (fun M1 hr1 hk1 e1 => B_Pr_bestPromise_4 (LP_Pr_best (t := t) (by omega) hr1.1 (f := pr_row (pr_P M1) t) (fun w hw => (hk1 t w (by omega) hw).1) (fun w => pr_row_lo (RP_PB hr1) (by omega) w) 13 0 (-1) _ (by omega) rfl (B_X_start_15 ?_)))
    refine E_R_start ?_
    refine B_R_start_0 ?_
    refine S_R_in ?_
    refine B_R_start_9 (fun _ => ?_) (fun q9 => by rw [if_pos h] at q9; omega)
    refine B_R_start_14 ?_
    exact S_R_findSums hr1 (by omega) (fun M2 hs => B_R_start_19 (LP_R_best (t := t) (by omega) hs.1 (f := pr_row (pr_P M1) t) (fun w hw => (hs.2.2 t w hw (Or.inl (Nat.le_refl t))).1) 13 0 (-1) (by omega) (by omega) (by omega) ⟨rfl, Rel_fr (RS_fr hs) hr1⟩))
  · refine E_X_start ?_
    refine B_X_start_0 ?_
    refine S_Pr_isTerm ?_
    refine B_X_start_4 (fun _ => ?_) (fun q9 => absurd (if_neg h) q9)
    refine B_X_start_18 ?_
    refine E_R_start ?_
    refine B_R_start_0 ?_
    refine S_R_in ?_
    refine B_R_start_9 (fun q9 => absurd (if_neg h) q9) (fun _ => ?_)
    refine B_R_start_12 ?_
    exact ⟨rfl, hr⟩
end P4
