/-! A CONTEST -/
def ct_d (M : vM) (w o t : Int) : Int := o + M 55 w.toNat - t - M 55 (1 - w).toNat
def ct_left (M : vM) (w o t : Int) : Int := (if 0 < ct_d M w o t then 2 * M 53 2 else if ct_d M w o t = 0 then M 53 2 else 0) - 2 * o * o * M 54 w.toNat
def ct_from (M : vM) (w o t : Int) : Nat → Int → Bool
  | 0, _ => true
  | n + 1, e => if ct_left M w o t < ct_left M w e t then false else ct_from M w o t n (e + 1)
def ct_best (M : vM) (w o t : Int) : Bool := ct_from M w o t 9 0
def ct_calm (M : vM) (e f : Int) : Bool := ct_best M 0 e f && ct_best M 1 f e
def ct_count (M : vM) : Nat → Int → Int → Int
  | 0, _, n => n
  | k + 1, b, n => if ct_calm M (b / 9) (b % 9) = true then ct_count M k (b + 1) (n + 1) else ct_count M k (b + 1) n
def ct_at (M : vM) (i : Int) : Nat → Int → Int → Int
  | 0, _, _ => -1
  | k + 1, b, n => if ct_calm M (b / 9) (b % 9) = true then (if n = i then 10 * (b / 9) + b % 9 else ct_at M i k (b + 1) (n + 1)) else ct_at M i k (b + 1) n
theorem mul_b {a b A B : Int} (ha : 0 ≤ a ∧ a ≤ A) (hb : 0 ≤ b ∧ b ≤ B) : 0 ≤ a * b ∧ a * b ≤ A * B := ⟨Int.mul_nonneg ha.1 hb.1, Int.mul_le_mul ha.2 hb.2 hb.1 (by omega)⟩
section CT
variable {X : vX} {d : Nat} {M : vM} {Q : Option vV → vM → Prop} {l0 l1 l2 l3 : Int}
theorem S_Ct_left (hr : Rel M) (h1 : 0 ≤ l1 ∧ l1 < 2) (h2 : 0 ≤ l2 ∧ l2 ≤ 8) (h3 : 0 ≤ l3 ∧ l3 ≤ 8) (k : Q (some (vI (ct_left M l1 l2 l3))) M) : cq X (d + 2) 34 [vR 53, vI l1, vI l2, vI l3] M Q := by
  obtain ⟨hR, -, -, -, -, ⟨c1, c2, c3, c4⟩, -⟩ := hr
  have e0 := w32_id (x := 1 - l1) (by omega) (by omega)
  have b1 := c4 l1.toNat (by omega)
  have b2 := c4 (1 - l1).toNat (by omega)
  have b3 := c3 l1.toNat (by omega)
  have e1 := w32_id (x := l2 + M 55 l1.toNat) (by omega) (by omega)
  have e2 := w32_id (x := l3 + M 55 (1 - l1).toNat) (by omega) (by omega)
  have p1 := mul_b (a := 2 * l2) (b := l2) (A := 16) (B := 8) (by omega) (by omega)
  have p2 := mul_b (a := 2 * l2 * l2) (b := M 54 l1.toNat) (A := 128) (B := 9) (by omega) (by omega)
  have f1 := w32_id (x := 2 * l2) (by omega) (by omega)
  have f2 := w32_id (x := 2 * l2 * l2) (by omega) (by omega)
  have f3 := w32_id (x := 2 * l2 * l2 * M 54 l1.toNat) (by omega) (by omega)
  have fin : ∀ s0 m : Int, w32 (1 + s0) = m → M 53 2 * m = (if 0 < ct_d M l1 l2 l3 then 2 * M 53 2 else if ct_d M l1 l2 l3 = 0 then M 53 2 else 0) → 0 ≤ M 53 2 * m → M 53 2 * m ≤ 1998 → vw X (d + 1) 34 21 [vR 53, vI l1, vI l2, vI l3, vN] [vI s0] M Q := fun s0 m hm hv hlo hhi => by
    refine B_Ct_left_21 hR h1 (q_i k ?_)
    rw [f1, f2, f3, hm, w32_id (x := M 53 2 * m) (by omega) (by omega), w32_id (by omega) (by omega), ct_left, hv]
  refine E_Ct_left (B_Ct_left_0 hR h1 (by rw [e0]; omega) ?_)
  rw [e0, e1, e2]
  refine E_J_compare (B_J_compare_0 (fun h => ?_) (fun h => ?_))
  · refine B_J_compare_9 (fun hn => B_J_compare_18 ?_) (fun hn => B_J_compare_14 ?_)
    · refine fin 1 2 (by decide) ?_ (by omega) (by omega)
      rw [if_pos (by unfold ct_d; omega)]
      omega
    · refine fin 0 1 (by decide) ?_ (by omega) (by omega)
      rw [if_neg (by unfold ct_d; omega), if_pos (by unfold ct_d; omega)]
      omega
  · refine B_J_compare_5 ?_
    refine fin (-1) 0 (by decide) ?_ (by omega) (by omega)
    rw [if_neg (by unfold ct_d; omega), if_neg (by unfold ct_d; omega)]
    omega
theorem S_R_contestHas (hr : Rel M) (h1 : 0 ≤ l1 ∧ l1 < 2) (h2 : 0 ≤ l2 ∧ l2 ≤ 8) (h3 : 0 ≤ l3 ∧ l3 ≤ 8) (k : Q (some (vI (ct_left M l1 l2 l3))) M) : cq X (d + 2) 244 [vR 81, vI l1, vI l2, vI l3] M Q := by
  obtain ⟨hR, -, -, -, -, ⟨c1, c2, c3, c4⟩, -⟩ := hr
  have e0 := w32_id (x := 1 - l1) (by omega) (by omega)
  have b1 := c4 l1.toNat (by omega)
  have b2 := c4 (1 - l1).toNat (by omega)
  have b3 := c3 l1.toNat (by omega)
  have p1 := mul_b (a := 2 * l2) (b := l2) (A := 16) (B := 8) (by omega) (by omega)
  have p2 := mul_b (a := 2 * l2 * l2) (b := M 54 l1.toNat) (A := 128) (B := 9) (by omega) (by omega)
  have f1 := w32_id (x := 2 * l2) (by omega) (by omega)
  have f2 := w32_id (x := 2 * l2 * l2) (by omega) (by omega)
  have f3 := w32_id (x := 2 * l2 * l2 * M 54 l1.toNat) (by omega) (by omega)
  have g1 := w32_id (x := l2 + M 55 l1.toNat) (by omega) (by omega)
  have g2 := w32_id (x := l2 + M 55 l1.toNat - l3) (by omega) (by omega)
  have g3 := w32_id (x := l2 + M 55 l1.toNat - l3 - M 55 (1 - l1).toNat) (by omega) (by omega)
  have ed : w32 (w32 (w32 (l2 + M 106 l1.toNat) - l3) - M 106 (w32 (1 - l1)).toNat) = ct_d M l1 l2 l3 := by rw [e0, b1.1, b2.1, g1, g2, g3]; rfl
  refine E_R_contestHas (B_R_contestHas_0 hR h1 (by rw [e0]; omega) (fun h => ?_) (fun h => ?_))
  · rw [ed] at h
    refine B_R_contestHas_35 (fun hn => B_R_contestHas_47 hR h1 (q_i k ?_)) (fun hn => B_R_contestHas_40 hR h1 (q_i k ?_))
    · rw [ed] at hn
      rw [b3.1, f1, f2, f3, w32_id (by omega) (by omega), ct_left, if_neg (by omega), if_neg hn]
    · rw [ed] at hn
      rw [b3.1, f1, f2, f3, c1, w32_id (by omega) (by omega), ct_left, if_neg (by omega), if_pos hn]
  · rw [ed] at h
    refine B_R_contestHas_26 hR h1 (q_i k ?_)
    rw [b3.1, f1, f2, f3, c1, w32_id (x := 2 * M 53 2) (by omega) (by omega), w32_id (by omega) (by omega), ct_left, if_pos h]
theorem LP_Ct_isContent (hr : Rel M) (h1 : 0 ≤ l1 ∧ l1 < 2) (h2 : 0 ≤ l2 ∧ l2 ≤ 8) (h3 : 0 ≤ l3 ∧ l3 ≤ 8) : ∀ (n : Nat) (e : Int), 0 ≤ e → e + n = 9 → Q (some (vI (if ct_from M l1 l2 l3 n e = true then 1 else 0))) M → vw X (d + 2) 33 3 [vR 53, vI l1, vI l2, vI l3, vI e] [] M Q
  | 0, e, h0, hn, k => B_Ct_isContent_3 (fun h => B_Ct_isContent_36 k) (fun h => by exfalso; omega)
  | n + 1, e, h0, hn, k => by
    have e1 := w32_id (x := e + 1) (by omega) (by omega)
    refine B_Ct_isContent_3 (fun h => by exfalso; omega) (fun h => ?_)
    refine B_Ct_isContent_10 (S_Ct_left hr h1 (by omega) h3 (B_Ct_isContent_18 (S_Ct_left hr h1 h2 h3 (B_Ct_isContent_25 (fun hb => ?_) (fun hb => B_Ct_isContent_28 ?_)))))
    · refine B_Ct_isContent_30 ?_
      rw [e1]
      refine LP_Ct_isContent hr h1 h2 h3 n (e + 1) (by omega) (by omega) ?_
      rw [ct_from, if_neg (show ¬ ct_left M l1 l2 l3 < ct_left M l1 e l3 by omega)] at k
      exact k
    · rw [ct_from, if_pos (show ct_left M l1 l2 l3 < ct_left M l1 e l3 from hb)] at k
      exact k
theorem S_Ct_isContent (hr : Rel M) (h1 : 0 ≤ l1 ∧ l1 < 2) (h2 : 0 ≤ l2 ∧ l2 ≤ 8) (h3 : 0 ≤ l3 ∧ l3 ≤ 8) (k : Q (some (vI (if ct_best M l1 l2 l3 = true then 1 else 0))) M) : cq X (d + 3) 33 [vR 53, vI l1, vI l2, vI l3] M Q := E_Ct_isContent (B_Ct_isContent_0 (LP_Ct_isContent hr h1 h2 h3 9 0 (by omega) (by omega) k))
theorem LP_R_isBest (hr : Rel M) (h1 : 0 ≤ l1 ∧ l1 < 2) (h2 : 0 ≤ l2 ∧ l2 ≤ 8) (h3 : 0 ≤ l3 ∧ l3 ≤ 8) : ∀ (n : Nat) (e : Int), 0 ≤ e → e + n = 9 → Q (some (vI (if ct_from M l1 l2 l3 n e = true then 1 else 0))) M → vw X (d + 2) 245 3 [vR 81, vI l1, vI l2, vI l3, vI e] [] M Q
  | 0, e, h0, hn, k => B_R_isBest_3 (fun h => B_R_isBest_36 k) (fun h => by exfalso; omega)
  | n + 1, e, h0, hn, k => by
    have e1 := w32_id (x := e + 1) (by omega) (by omega)
    refine B_R_isBest_3 (fun h => by exfalso; omega) (fun h => ?_)
    refine B_R_isBest_10 (S_R_contestHas hr h1 (by omega) h3 (B_R_isBest_18 (S_R_contestHas hr h1 h2 h3 (B_R_isBest_25 (fun hb => ?_) (fun hb => B_R_isBest_28 ?_)))))
    · refine B_R_isBest_30 ?_
      rw [e1]
      refine LP_R_isBest hr h1 h2 h3 n (e + 1) (by omega) (by omega) ?_
      rw [ct_from, if_neg (show ¬ ct_left M l1 l2 l3 < ct_left M l1 e l3 by omega)] at k
      exact k
    · rw [ct_from, if_pos (show ct_left M l1 l2 l3 < ct_left M l1 e l3 from hb)] at k
      exact k
theorem S_R_isBest (hr : Rel M) (h1 : 0 ≤ l1 ∧ l1 < 2) (h2 : 0 ≤ l2 ∧ l2 ≤ 8) (h3 : 0 ≤ l3 ∧ l3 ≤ 8) (k : Q (some (vI (if ct_best M l1 l2 l3 = true then 1 else 0))) M) : cq X (d + 3) 245 [vR 81, vI l1, vI l2, vI l3] M Q := E_R_isBest (B_R_isBest_0 (LP_R_isBest hr h1 h2 h3 9 0 (by omega) (by omega) k))
theorem S_Ct_isCalm (hr : Rel M) (h1 : 0 ≤ l1 ∧ l1 ≤ 8) (h2 : 0 ≤ l2 ∧ l2 ≤ 8) (k : Q (some (vI (if ct_calm M l1 l2 = true then 1 else 0))) M) : cq X (d + 4) 32 [vR 53, vI l1, vI l2] M Q := by
  refine E_Ct_isCalm (B_Ct_isCalm_0 (S_Ct_isContent hr (by omega) h1 h2 ?_))
  by_cases a : ct_best M 0 l1 l2 = true
  · rw [if_pos a]
    refine B_Ct_isCalm_7 (fun h => absurd h (by decide)) (fun _ => B_Ct_isCalm_10 (S_Ct_isContent hr (by omega) h2 h1 ?_))
    by_cases b : ct_best M 1 l2 l1 = true
    · rw [if_pos b]
      refine B_Ct_isCalm_17 (fun h => absurd h (by decide)) (fun _ => B_Ct_isCalm_20 (q_i k ?_))
      rw [ct_calm, a, b]; rfl
    · rw [if_neg b]
      refine B_Ct_isCalm_17 (fun _ => B_Ct_isCalm_24 (q_i k ?_)) (fun h => absurd rfl h)
      rw [ct_calm, a, Bool.eq_false_iff.mpr b]; rfl
  · rw [if_neg a]
    refine B_Ct_isCalm_7 (fun _ => B_Ct_isCalm_24 (q_i k ?_)) (fun h => absurd rfl h)
    rw [ct_calm, Bool.eq_false_iff.mpr a]; rfl
theorem j_9 {b : Int} (h : 0 ≤ b ∧ b < 81) : j_idiv b 9 = b / 9 ∧ j_irem b 9 = b % 9 := by
  rw [j_idiv_eq (by omega) (by omega), Int.tdiv_eq_ediv_of_nonneg h.1, j_irem_eq (by omega) (by omega), Int.tmod_eq_emod_of_nonneg h.1]
  exact ⟨rfl, rfl⟩
theorem LP_Ct_howManyCalm (hr : Rel M) : ∀ (n : Nat) (b c : Int), 0 ≤ b → b + n = 81 → 0 ≤ c → c ≤ b → Q (some (vI (ct_count M n b c))) M → vw X (d + 4) 30 4 [vR 53, vI c, vI b] [] M Q
  | 0, b, c, h0, hn, hc, hcb, k => B_Ct_howManyCalm_4 (fun h => B_Ct_howManyCalm_34 k) (fun h => by exfalso; omega)
  | n + 1, b, c, h0, hn, hc, hcb, k => by
    have e1 := w32_id (x := b + 1) (by omega) (by omega)
    have e2 := w32_id (x := c + 1) (by omega) (by omega)
    obtain ⟨j1, j2⟩ := j_9 (b := b) (by omega)
    refine B_Ct_howManyCalm_4 (fun h => by exfalso; omega) (fun h => B_Ct_howManyCalm_10 ?_)
    rw [j1, j2]
    refine S_Ct_isCalm hr (by omega) (by omega) ?_
    by_cases a : ct_calm M (b / 9) (b % 9) = true
    · rw [if_pos a]
      refine B_Ct_howManyCalm_22 (fun h => absurd h (by decide)) (fun _ => B_Ct_howManyCalm_25 ?_)
      rw [e1, e2]
      rw [ct_count, if_pos a] at k
      exact LP_Ct_howManyCalm hr n (b + 1) (c + 1) (by omega) (by omega) (by omega) (by omega) k
    · rw [if_neg a]
      refine B_Ct_howManyCalm_22 (fun _ => B_Ct_howManyCalm_28 ?_) (fun h => absurd rfl h)
      rw [e1]
      rw [ct_count, if_neg a] at k
      exact LP_Ct_howManyCalm hr n (b + 1) c (by omega) (by omega) (by omega) (by omega) k
theorem LP_Ct_calmAt (hr : Rel M) : ∀ (n : Nat) (b c : Int), 0 ≤ b → b + n = 81 → 0 ≤ c → c ≤ b → Q (some (vI (ct_at M l1 n b c))) M → vw X (d + 4) 31 4 [vR 53, vI l1, vI c, vI b] [] M Q
  | 0, b, c, h0, hn, hc, hcb, k => B_Ct_calmAt_4 (fun h => B_Ct_calmAt_52 k) (fun h => by exfalso; omega)
  | n + 1, b, c, h0, hn, hc, hcb, k => by
    have e1 := w32_id (x := b + 1) (by omega) (by omega)
    have e2 := w32_id (x := c + 1) (by omega) (by omega)
    obtain ⟨j1, j2⟩ := j_9 (b := b) (by omega)
    refine B_Ct_calmAt_4 (fun h => by exfalso; omega) (fun h => B_Ct_calmAt_10 ?_)
    rw [j1, j2]
    refine S_Ct_isCalm hr (by omega) (by omega) ?_
    by_cases a : ct_calm M (b / 9) (b % 9) = true
    · rw [if_pos a]
      refine B_Ct_calmAt_22 (fun h => absurd h (by decide)) (fun _ => B_Ct_calmAt_25 (fun hne => B_Ct_calmAt_43 ?_) (fun he => B_Ct_calmAt_30 (q_i k ?_)))
      · rw [e1, e2]
        rw [ct_at, if_pos a, if_neg hne] at k
        exact LP_Ct_calmAt hr n (b + 1) (c + 1) (by omega) (by omega) (by omega) (by omega) k
      · rw [ct_at, if_pos a, if_pos he, j1, j2, w32_id (x := 10 * (b / 9)) (by omega) (by omega), w32_id (by omega) (by omega)]
    · rw [if_neg a]
      refine B_Ct_calmAt_22 (fun _ => B_Ct_calmAt_46 ?_) (fun h => absurd rfl h)
      rw [e1]
      rw [ct_at, if_neg a] at k
      exact LP_Ct_calmAt hr n (b + 1) c (by omega) (by omega) (by omega) (by omega) k
/-- the reference counts, or finds, in one -/
def ct_ref (M : vM) (i : Int) (n : Nat) (b c : Int) : Int := if i = -1 then ct_count M n b c else ct_at M i n b c
theorem ct_ref_0 (M : vM) (i b c : Int) : ct_ref M i 0 b c = if i = -1 then c else -1 := by
  unfold ct_ref
  split <;> rfl
theorem ct_ref_s (M : vM) (i : Int) (n : Nat) (b c : Int) (hc : 0 ≤ c) : ct_ref M i (n + 1) b c = if ct_calm M (b / 9) (b % 9) = true then (if c = i then 10 * (b / 9) + b % 9 else ct_ref M i n (b + 1) (c + 1)) else ct_ref M i n (b + 1) c := by
  unfold ct_ref
  by_cases hi : i = -1
  · simp only [if_pos hi]
    rw [ct_count]
    by_cases a : ct_calm M (b / 9) (b % 9) = true
    · rw [if_pos a, if_pos a, if_neg (by omega)]
    · rw [if_neg a, if_neg a]
  · simp only [if_neg hi]
    rw [ct_at]
theorem LP_R_calmAt (hr : Rel M) : ∀ (n : Nat) (e f c : Int), 0 ≤ e → e ≤ 9 → 0 ≤ f → f ≤ 9 → (e = 9 → f = 0) → 9 * e + f + n = 81 → 0 ≤ c → c ≤ 9 * e + f → Q (some (vI (ct_ref M l1 n (9 * e + f) c))) M → (e ≤ 8 → vw X (d + 3) 246 13 [vR 81, vI l1, vI c, vI e, vI f] [] M Q) ∧ (f = 0 → ∀ w : vV, vw X (d + 3) 246 4 [vR 81, vI l1, vI c, vI e, w] [] M Q)
  | 0, e, f, c, he0, he, hf0, hf, hef, hn, hc, hcb, k => by
    rw [ct_ref_0] at k
    have top : ∀ w : vV, vw X (d + 3) 246 4 [vR 81, vI l1, vI c, vI 9, w] [] M Q := fun w => by
      refine B_R_calmAt_4 (fun _ => B_R_calmAt_70 (fun h => B_R_calmAt_79 ?_) (fun h => B_R_calmAt_75 ?_)) (fun h => by exfalso; omega)
      · rw [if_neg h] at k; exact k
      · rw [if_pos h] at k; exact k
    refine ⟨fun h8 => ?_, fun h0 w => ?_⟩
    · have e1 : w32 (e + 1) = 9 := by rw [w32_id (by omega) (by omega)]; omega
      refine B_R_calmAt_13 (fun h => B_R_calmAt_64 ?_) (fun h => by exfalso; omega)
      rw [e1]
      exact top _
    · have : e = 9 := by omega
      subst this
      exact top w
  | n + 1, e0, f0, c0, he0', he', hf0', hf', hef', hn', hc', hcb', k' => by
    have inner : ∀ e f c : Int, 0 ≤ e → e ≤ 8 → 0 ≤ f → f ≤ 8 → 9 * e + f + (n + 1 : Nat) = 81 → 0 ≤ c → c ≤ 9 * e + f → Q (some (vI (ct_ref M l1 (n + 1) (9 * e + f) c))) M → vw X (d + 3) 246 13 [vR 81, vI l1, vI c, vI e, vI f] [] M Q := by
      intro e f c he0 he hf0 hf8 hn hc hcb k
      have e1 := w32_id (x := f + 1) (by omega) (by omega)
      have e2 := w32_id (x := c + 1) (by omega) (by omega)
      have q1 : (9 * e + f) / 9 = e := by omega
      have q2 : (9 * e + f) % 9 = f := by omega
      rw [ct_ref_s _ _ _ _ _ hc, q1, q2] at k
      have nxt : ∀ c2 : Int, 0 ≤ c2 → c2 ≤ 9 * e + f + 1 → Q (some (vI (ct_ref M l1 n (9 * e + f + 1) c2))) M → vw X (d + 3) 246 13 [vR 81, vI l1, vI c2, vI e, vI (f + 1)] [] M Q := fun c2 hc2 hc3 k2 => by
        have := (LP_R_calmAt hr n e (f + 1) c2 he0 (by omega) (by omega) (by omega) (by omega) (by omega) hc2 (by omega) (by rw [show 9 * e + (f + 1) = 9 * e + f + 1 by omega]; exact k2)).1
        exact this (by omega)
      refine B_R_calmAt_13 (fun h => by exfalso; omega) (fun h => B_R_calmAt_20 (S_R_isBest hr (by omega) (by omega) (by omega) ?_))
      by_cases a : ct_best M 0 e f = true
      · rw [if_pos a]
        refine B_R_calmAt_28 (fun h => absurd h (by decide)) (fun _ => B_R_calmAt_31 (S_R_isBest hr (by omega) (by omega) (by omega) ?_))
        by_cases b : ct_best M 1 f e = true
        · have hcalm : ct_calm M e f = true := by rw [ct_calm, a, b]; rfl
          rw [if_pos hcalm] at k
          rw [if_pos b]
          refine B_R_calmAt_39 (fun h => absurd h (by decide)) (fun _ => B_R_calmAt_42 (fun hne => B_R_calmAt_55 ?_) (fun hq => B_R_calmAt_47 (q_i k ?_)))
          · rw [if_neg hne] at k
            rw [e1, e2]
            exact nxt (c + 1) (by omega) (by omega) k
          · rw [if_pos hq, w32_id (x := 10 * e) (by omega) (by omega), w32_id (by omega) (by omega)]
        · have hcalm : ¬ ct_calm M e f = true := by rw [ct_calm, a, Bool.eq_false_iff.mpr b]; exact fun q => by cases q
          rw [if_neg hcalm] at k
          rw [if_neg b]
          refine B_R_calmAt_39 (fun _ => B_R_calmAt_58 ?_) (fun h => absurd rfl h)
          rw [e1]
          exact nxt c hc (by omega) k
      · have hcalm : ¬ ct_calm M e f = true := by rw [ct_calm, Bool.eq_false_iff.mpr a]; exact fun q => by cases q
        rw [if_neg hcalm] at k
        rw [if_neg a]
        refine B_R_calmAt_28 (fun _ => B_R_calmAt_58 ?_) (fun h => absurd rfl h)
        rw [e1]
        exact nxt c hc (by omega) k
    have e3 := w32_id (x := e0 + 1) (by omega) (by omega)
    refine ⟨fun h8 => ?_, fun h0 w => ?_⟩
    · by_cases hf8 : f0 ≤ 8
      · exact inner e0 f0 c0 he0' h8 hf0' hf8 hn' hc' hcb' k'
      · have hf9 : f0 = 9 := by omega
        subst hf9
        refine B_R_calmAt_13 (fun h => B_R_calmAt_64 ?_) (fun h => by exfalso; omega)
        rw [e3]
        refine B_R_calmAt_4 (fun h => by exfalso; omega) (fun h => B_R_calmAt_10 (inner (e0 + 1) 0 c0 (by omega) (by omega) (by omega) (by omega) (by omega) hc' (by omega) ?_))
        rw [show 9 * (e0 + 1) + 0 = 9 * e0 + 9 by omega]
        exact k'
    · subst h0
      exact B_R_calmAt_4 (fun h => by exfalso; omega) (fun h => B_R_calmAt_10 (inner e0 0 c0 he0' (by omega) (by omega) (by omega) hn' hc' hcb' k'))
theorem S_R_calmAt (hr : Rel M) (k : Q (some (vI (ct_ref M l1 81 0 0))) M) : cq X (d + 4) 246 [vR 81, vI l1] M Q :=
  E_R_calmAt (B_R_calmAt_0 ((LP_R_calmAt hr 81 0 0 0 (by omega) (by omega) (by omega) (by omega) (by omega) (by omega) (by omega) (by omega) k).2 rfl _))
theorem S_Ct_howManyCalm (hr : Rel M) (k : Q (some (vI (ct_count M 81 0 0))) M) : cq X (d + 5) 30 [vR 53] M Q := E_Ct_howManyCalm (B_Ct_howManyCalm_0 (LP_Ct_howManyCalm hr 81 0 0 (by omega) (by omega) (by omega) (by omega) k))
theorem S_Ct_calmAt (hr : Rel M) (k : Q (some (vI (ct_at M l1 81 0 0))) M) : cq X (d + 5) 31 [vR 53, vI l1] M Q := E_Ct_calmAt (B_Ct_calmAt_0 (LP_Ct_calmAt hr 81 0 0 (by omega) (by omega) (by omega) (by omega) k))
theorem ct_at_neg (M : vM) {i : Int} (hi : i < 0) : ∀ (n : Nat) (b c : Int), 0 ≤ c → ct_at M i n b c = -1
  | 0, _, _, _ => rfl
  | n + 1, b, c, hc => by
    rw [ct_at]
    split
    · rw [if_neg (by omega)]
      exact ct_at_neg M hi n _ _ (by omega)
    · exact ct_at_neg M hi n _ _ hc
theorem op_calms {X : vX} {d : Nat} {M : vM} (hr : Rel M) : cq X (d + 40) 156 [vR 0] M (fun v M1 => cq X (d + 40) 247 [vR 81] M1 (fun v2 M2 => v2 = v ∧ Rel M2)) :=
  E_X_calms (B_X_calms_0 hr.1 (S_Ct_howManyCalm hr (B_X_calms_7 (E_R_calms (B_R_calms_0 (S_R_calmAt hr (B_R_calms_5 ⟨rfl, hr⟩)))))))
theorem op_calm {X : vX} {d : Nat} {M : vM} {a0 : Int} (hr : Rel M) : cq X (d + 40) 157 [vR 0, vI a0] M (fun v M1 => cq X (d + 40) 248 [vR 81, vI a0] M1 (fun v2 M2 => v2 = v ∧ Rel M2)) := by
  refine E_X_calm (B_X_calm_0 hr.1 (S_Ct_calmAt hr (B_X_calm_8 (E_R_calm (B_R_calm_0 (fun h => B_R_calm_8 (S_R_calmAt hr (B_R_calm_13 ⟨?_, hr⟩))) (fun h => B_R_calm_4 ⟨?_, hr⟩))))))
  · rw [ct_ref, if_neg (by omega)]
  · rw [ct_at_neg M h _ _ _ (by omega)]
end CT
