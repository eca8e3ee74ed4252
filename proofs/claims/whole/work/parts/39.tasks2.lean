/-! TWO TASKS, A RATCHET: the operations -/
theorem mul_s {a b A B : Int} (ha : -A ≤ a ∧ a ≤ A) (hb : 0 ≤ b ∧ b ≤ B) : -(A * B) ≤ a * b ∧ a * b ≤ A * B := by
  have h1 : a * b ≤ A * B := Int.le_trans (Int.mul_le_mul_of_nonneg_right ha.2 hb.1) (Int.mul_le_mul_of_nonneg_left hb.2 (by omega))
  have h2 : -a * b ≤ A * B := Int.le_trans (Int.mul_le_mul_of_nonneg_right (by omega) hb.1) (Int.mul_le_mul_of_nonneg_left hb.2 (by omega))
  rw [Int.neg_mul] at h2
  omega
theorem mul_s' {a b A B : Int} (hb : 0 ≤ b ∧ b ≤ B) (ha : -A ≤ a ∧ a ≤ A) : -(A * B) ≤ b * a ∧ b * a ≤ A * B := by
  rw [Int.mul_comm b a]
  exact mul_s ha hb
theorem tw_fr {k r1 r2 : Int} : ∀ (n : Nat) (x f m : Int), 0 ≤ x → x + n ≤ 9 → (0 ≤ f ∧ f ≤ 88) → 0 ≤ tw_f k r1 r2 n x f m ∧ tw_f k r1 r2 n x f m ≤ 88
  | 0, _, _, _, _, _, h => h
  | n + 1, x, f, m, h0, hn, h => by
    have hy := tw_yr (k := k) (r2 := r2) (x := x)
    rw [tw_f]
    split
    · exact tw_fr n _ _ _ (by omega) (by omega) (by omega)
    · exact tw_fr n _ _ _ (by omega) (by omega) h
theorem tw_tr {k r1 r2 : Int} : 0 ≤ tw_t k r1 r2 ∧ tw_t k r1 r2 ≤ 88 := tw_fr 9 0 0 0 (by omega) (by omega) (by omega)
theorem tw_f0 {k : Int} (hk : 0 ≤ k) : ∀ (n : Nat) (x : Int), 0 ≤ x → tw_f k 0 0 n x 0 0 = 0
  | 0, _, _ => rfl
  | n + 1, x, h0 => by
    have hy := tw_yr (k := k) (r2 := 0) (x := x)
    rw [tw_f, if_neg]
    · exact tw_f0 hk n _ (by omega)
    · have p1 := Int.mul_nonneg h0 h0
      have p2 := Int.mul_nonneg hy.1 hy.1
      have p3 := Int.mul_nonneg (Int.mul_nonneg hk h0) hy.1
      unfold tw_v
      omega
def rt_v (M : vM) (rx ry : Int) : Int := (M 77 1 - rx) * (tw_t (M 77 0) rx ry / 10) + (M 77 2 - ry) * (tw_t (M 77 0) rx ry % 10)
/-- the scan over the rates -/
def rt_f (M : vM) (ny : Nat) : Nat → Int → Int × Int → Int
  | 0, _, s => s.1
  | n + 1, x, s => rt_f M ny n (x + 1) (sc (rt_v M x) (fun y => 100 * x + y) ny 0 s)
def rt_n (seen w : Int) : Nat := if seen = w then 1 else 41
def rt_t (M : vM) (seen : Int) : Int := rt_f M (rt_n seen 1) (rt_n seen 2) 0 (0, 0)
theorem rt_w {a1 a2 rx ry t : Int} (h1 : 0 ≤ a1 ∧ a1 ≤ 99) (h2 : 0 ≤ a2 ∧ a2 ≤ 99) (hx : 0 ≤ rx ∧ rx ≤ 40) (hy : 0 ≤ ry ∧ ry ≤ 40) (ht : 0 ≤ t ∧ t ≤ 88) : w32 (w32 (w32 (a1 - rx) * j_idiv t 10) + w32 (w32 (a2 - ry) * j_irem t 10)) = (a1 - rx) * (t / 10) + (a2 - ry) * (t % 10) := by
  rw [j_div10 (by omega) (by omega), j_rem10 (by omega) (by omega)]
  have p1 := mul_s (a := a1 - rx) (b := t / 10) (A := 99) (B := 8) (by omega) (by omega)
  have p2 := mul_s (a := a2 - ry) (b := t % 10) (A := 99) (B := 9) (by omega) (by omega)
  simp (disch := omega) only [w32_i]
section RT2
variable {X : vX} {d : Nat} {M : vM} {Q : Option vV → vM → Prop} {l0 l1 l2 l3 l4 : Int}
theorem S_within (k : Q (some (vI (if l1 ≤ l0 ∧ l0 ≤ l2 then 1 else 0))) M) : cq X (d + 1) 179 [vI l0, vI l1, vI l2] M Q :=
  E_X_within (B_X_within_0 (fun h => B_X_within_14 (by rw [if_neg (by omega)] at k; exact k)) (fun h => B_X_within_5 (fun h2 => B_X_within_14 (by rw [if_neg (by omega)] at k; exact k)) (fun h2 => B_X_within_10 (by rw [if_pos (by omega)] at k; exact k))))
theorem if01 {p : Prop} [Decidable p] : (if p then (1 : Int) else 0) = 0 ∨ (if p then (1 : Int) else 0) = 1 := by split <;> simp
theorem S_isRate (k : Q (some (vI (if 0 ≤ l0 ∧ l0 ≤ 40 then 1 else 0))) M) : cq X (d + 2) 111 [vI l0] M Q := E_Tw_isRate (B_Tw_isRate_0 (S_within (B_Tw_isRate_7 if01 k)))
theorem S_R_in (k : Q (some (vI (if l1 ≤ l0 ∧ l0 ≤ l2 then 1 else 0))) M) : cq X (d + 1) 185 [vL l0, vL l1, vL l2] M Q :=
  E_R_in (B_R_in_0 (fun h => B_R_in_17 (by rw [if_neg (by omega)] at k; exact k)) (fun h => B_R_in_6 (fun h2 => B_R_in_17 (by rw [if_neg (by omega)] at k; exact k)) (fun h2 => B_R_in_13 (by rw [if_pos (by omega)] at k; exact k))))
theorem LPI_Tw_bestRates (hr : Rel M) {ny : Nat} (hny : (ny : Int) = l3 + 1) (hl3 : l3 ≤ 40) {x : Int} (hx : 0 ≤ x ∧ x ≤ 40) : ∀ (n : Nat) (y f m : Int) (w8 w9 : vV), 0 ≤ y → y + n = l3 + 1 → (∀ (w7 w8 w9 : vV), vw X (d + 3) 115 33 [vR 77, vI l1, vI l2, vI l3, vI (sc (rt_v M x) (fun y => 100 * x + y) n y (f, m)).1, vI (sc (rt_v M x) (fun y => 100 * x + y) n y (f, m)).2, vI (x + 1), w7, w8, w9] [] M Q) → vw X (d + 3) 115 42 [vR 77, vI l1, vI l2, vI l3, vI f, vI m, vI x, vI y, w8, w9] [] M Q
  | 0, y, f, m, w8, w9, h0, hn, k => B_Tw_bestRates_42 (fun h => B_Tw_bestRates_114 (by rw [w32_i (x := x + 1) (by omega)]; exact k _ _ _)) (fun h => by exfalso; omega)
  | n + 1, y, f, m, w8, w9, h0, hn, k => by
    have h2 : R2 M := hr.2.2.2.2.2.2.2.2
    have e1 := rt_w h2.2.1.2 h2.2.2.2 hx (ry := y) (by omega) (tw_tr (k := M 77 0) (r1 := x) (r2 := y))
    refine B_Tw_bestRates_42 (fun h => by exfalso; omega) (fun h => B_Tw_bestRates_48 (S_Tw_taken h2.1.2 hx (by omega) (B_Tw_bestRates_56 (fun hb => B_Tw_bestRates_108 ?_) (fun hb => B_Tw_bestRates_94 ?_))))
    · rw [w32_i (x := y + 1) (by omega)]
      rw [e1] at hb
      rw [sc, if_neg (show ¬ m < rt_v M x y by unfold rt_v; omega)] at k
      exact LPI_Tw_bestRates hr hny hl3 hx n (y + 1) _ _ _ _ (by omega) (by omega) k
    · rw [w32_i (x := y + 1) (by omega), e1, w32_i (x := 100 * x) (by omega), w32_i (by omega)]
      rw [e1] at hb
      rw [sc, if_pos (show m < rt_v M x y from hb)] at k
      exact LPI_Tw_bestRates hr hny hl3 hx n (y + 1) _ _ _ _ (by omega) (by omega) k
theorem LP_Tw_bestRates (hr : Rel M) {ny : Nat} (hny : (ny : Int) = l3 + 1) (hl3 : l3 ≤ 40) (hl2 : l2 ≤ 40) : ∀ (n : Nat) (x f m : Int) (w7 w8 w9 : vV), 0 ≤ x → x + n = l2 + 1 → Q (some (vI (rt_f M ny n x (f, m)))) M → vw X (d + 3) 115 33 [vR 77, vI l1, vI l2, vI l3, vI f, vI m, vI x, w7, w8, w9] [] M Q
  | 0, x, f, m, w7, w8, w9, h0, hn, k => B_Tw_bestRates_33 (fun h => B_Tw_bestRates_120 k) (fun h => by exfalso; omega)
  | n + 1, x, f, m, w7, w8, w9, h0, hn, k => by
    refine B_Tw_bestRates_33 (fun h => by exfalso; omega) (fun h => B_Tw_bestRates_39 (LPI_Tw_bestRates hr hny hl3 (by omega) ny 0 f m _ _ (by omega) (by omega) (fun w7 w8 w9 => ?_)))
    rw [rt_f] at k
    exact LP_Tw_bestRates hr hny hl3 hl2 n (x + 1) _ _ _ _ _ (by omega) (by omega) k
theorem S_Tw_bestRates (hr : Rel M) (k : Q (some (vI (rt_t M l1))) M) : cq X (d + 4) 115 [vR 77, vI l1] M Q := by
  have go : ∀ (a b : Int), (rt_n l1 2 : Int) = a + 1 → (rt_n l1 1 : Int) = b + 1 → a ≤ 40 → b ≤ 40 → vw X (d + 3) 115 33 [vR 77, vI l1, vI a, vI b, vI 0, vI 0, vI 0, vN, vN, vN] [] M Q := fun a b ha hb ha2 hb2 => LP_Tw_bestRates hr hb hb2 ha2 (rt_n l1 2) 0 0 0 _ _ _ (by omega) (by omega) k
  refine E_Tw_bestRates (B_Tw_bestRates_0 (fun h2 => B_Tw_bestRates_9 (fun h1 => B_Tw_bestRates_21 ?_) (fun h1 => B_Tw_bestRates_17 ?_)) (fun h2 => B_Tw_bestRates_5 (fun h1 => B_Tw_bestRates_21 ?_) (fun h1 => B_Tw_bestRates_17 ?_)))
  · exact go _ _ (by rw [rt_n, if_neg h2]; rfl) (by rw [rt_n, if_neg h1]; rfl) (by omega) (by omega)
  · exact go _ _ (by rw [rt_n, if_neg h2]; rfl) (by rw [rt_n, if_pos h1]; rfl) (by omega) (by omega)
  · exact go _ _ (by rw [rt_n, if_pos h2]; rfl) (by rw [rt_n, if_neg h1]; rfl) (by omega) (by omega)
  · exact go _ _ (by rw [rt_n, if_pos h2]; rfl) (by rw [rt_n, if_pos h1]; rfl) (by omega) (by omega)
theorem R_rates_y {w6 w7 : vV} {y : Int} (h0 : 0 ≤ y ∧ y ≤ 41) (k1 : (rt_n l1 1 : Int) ≤ y → vw X d 277 124 [vR 81, vI l1, vI l2, vI l3, vI l4, vI y, w6, w7] [] M Q) (k2 : y < (rt_n l1 1 : Int) → vw X d 277 56 [vR 81, vI l1, vI l2, vI l3, vI l4, vI y, w6, w7] [] M Q) : vw X d 277 40 [vR 81, vI l1, vI l2, vI l3, vI l4, vI y, w6, w7] [] M Q := by
  refine B_R_rates_40 (fun h => B_R_rates_51 (fun h2 => k1 ?_) (fun h2 => k2 ?_)) (fun h => B_R_rates_47 (fun h2 => k1 ?_) (fun h2 => k2 ?_))
  · rw [rt_n, if_neg h]; omega
  · rw [rt_n, if_neg h]; omega
  · rw [rt_n, if_pos h]; omega
  · rw [rt_n, if_pos h]; omega
theorem R_rates_x {w5 w6 w7 : vV} {x : Int} (h0 : 0 ≤ x ∧ x ≤ 41) (k1 : (rt_n l1 2 : Int) ≤ x → vw X d 277 130 [vR 81, vI l1, vI l2, vI l3, vI x, w5, w6, w7] [] M Q) (k2 : x < (rt_n l1 2 : Int) → vw X d 277 37 [vR 81, vI l1, vI l2, vI l3, vI x, w5, w6, w7] [] M Q) : vw X d 277 21 [vR 81, vI l1, vI l2, vI l3, vI x, w5, w6, w7] [] M Q := by
  refine B_R_rates_21 (fun h => B_R_rates_32 (fun h2 => k1 ?_) (fun h2 => k2 ?_)) (fun h => B_R_rates_28 (fun h2 => k1 ?_) (fun h2 => k2 ?_))
  · rw [rt_n, if_neg h]; omega
  · rw [rt_n, if_neg h]; omega
  · rw [rt_n, if_pos h]; omega
  · rw [rt_n, if_pos h]; omega
theorem rt_n_r {s w : Int} : 1 ≤ (rt_n s w : Int) ∧ (rt_n s w : Int) ≤ 41 := by
  unfold rt_n
  split <;> omega
theorem LPI_R_rates (hr : Rel M) {x : Int} (hx : 0 ≤ x ∧ x ≤ 40) : ∀ (n : Nat) (y f m : Int) (w6 w7 : vV), 0 ≤ f → 0 ≤ y → y + n = (rt_n l1 1 : Int) → (∀ (w5 w6 w7 : vV) (s : Int × Int), s = sc (rt_v M x) (fun y => 100 * x + y) n y (f, m) → 0 ≤ s.1 → vw X (d + 1) 277 21 [vR 81, vI l1, vI s.1, vI s.2, vI (x + 1), w5, w6, w7] [] M Q) → vw X (d + 1) 277 40 [vR 81, vI l1, vI f, vI m, vI x, vI y, w6, w7] [] M Q
  | 0, y, f, m, w6, w7, hf, h0, hn, k => by
    have := rt_n_r (s := l1) (w := 1)
    exact R_rates_y (by omega) (fun h => B_R_rates_124 (by rw [w32_i (x := x + 1) (by omega)]; exact k _ _ _ _ rfl hf)) (fun h => by exfalso; omega)
  | n + 1, y, f, m, w6, w7, hf, h0, hn, k => by
    have h2 : R2 M := hr.2.2.2.2.2.2.2.2
    have := rt_n_r (s := l1) (w := 1)
    have e1 := rt_w h2.2.1.2 h2.2.2.2 hx (ry := y) (by omega) (tw_tr (k := M 77 0) (r1 := x) (r2 := y))
    refine R_rates_y (by omega) (fun h => by exfalso; omega) (fun h => B_R_rates_56 (S_R_doesOf (by rw [h2.1.1]; exact h2.1.2) hx (by omega) (B_R_rates_64 (fun hb => by exfalso; omega) (fun hb => ?_))))
    rw [h2.1.1, h2.2.1.1, h2.2.2.1, e1]
    refine B_R_rates_100 (fun hb => B_R_rates_118 ?_) (fun hb => B_R_rates_106 ?_)
    · rw [w32_i (x := y + 1) (by omega)]
      rw [sc, if_neg (show ¬ m < rt_v M x y by unfold rt_v; omega)] at k
      exact LPI_R_rates hr hx n (y + 1) _ _ _ _ hf (by omega) (by omega) k
    · rw [w32_i (x := y + 1) (by omega), w32_i (x := 100 * x) (by omega), w32_i (by omega)]
      rw [sc, if_pos (show m < rt_v M x y from hb)] at k
      exact LPI_R_rates hr hx n (y + 1) _ _ _ _ (by omega) (by omega) (by omega) k
theorem LP_R_rates (hr : Rel M) : ∀ (n : Nat) (x f m : Int) (w5 w6 w7 : vV), 0 ≤ f → 0 ≤ x → x + n = (rt_n l1 2 : Int) → Q (some (vI (rt_f M (rt_n l1 1) n x (f, m)))) M → vw X (d + 1) 277 21 [vR 81, vI l1, vI f, vI m, vI x, w5, w6, w7] [] M Q
  | 0, x, f, m, w5, w6, w7, hf, h0, hn, k => by
    have := rt_n_r (s := l1) (w := 2)
    exact R_rates_x (by omega) (fun h => B_R_rates_130 k) (fun h => by exfalso; omega)
  | n + 1, x, f, m, w5, w6, w7, hf, h0, hn, k => by
    have := rt_n_r (s := l1) (w := 2)
    refine R_rates_x (by omega) (fun h => by exfalso; omega) (fun h => B_R_rates_37 (LPI_R_rates hr (by omega) (rt_n l1 1) 0 f m _ _ hf (by omega) (by omega) (fun w5 w6 w7 s hs h1 => ?_)))
    rw [rt_f, ← hs] at k
    exact LP_R_rates hr n (x + 1) _ _ _ _ _ h1 (by omega) (by omega) k
theorem S_R_rates (hr : Rel M) (h1 : 0 ≤ l1 ∧ l1 ≤ 2) (k : Q (some (vI (rt_t M l1))) M) : cq X (d + 3) 277 [vR 81, vI l1] M Q := by
  have r1 := rt_n_r (s := l1) (w := 1)
  have r2 := rt_n_r (s := l1) (w := 2)
  have h2 : R2 M := hr.2.2.2.2.2.2.2.2
  refine E_R_rates (B_R_rates_0 (E_R_in (B_R_in_0 (fun h => by exfalso; omega) (fun h => B_R_in_6 (fun h => by exfalso; omega) (fun h => B_R_in_13 (B_R_rates_9 (fun _ => B_R_rates_14 ?_) (fun h => absurd h (by decide))))))))
  refine R_rates_x (by omega) (fun h => by exfalso; omega) (fun h => B_R_rates_37 (R_rates_y (by omega) (fun h => by exfalso; omega) (fun h => B_R_rates_56 (S_R_doesOf (by rw [h2.1.1]; exact h2.1.2) (by omega) (by omega) (B_R_rates_64 (fun _ => B_R_rates_106 ?_) (fun hb => by exfalso; omega))))))
  have e0 : tw_t (M 81 56) 0 0 = 0 := tw_f0 (by rw [h2.1.1]; exact h2.1.2.1) 9 0 (by omega)
  rw [e0, show j_idiv 0 10 = 0 by decide +kernel, show j_irem 0 10 = 0 by decide +kernel]
  simp only [Int.mul_zero, show w32 0 = 0 by decide, show (0 : Int) + 0 = 0 by decide, show (0 : Int) + 1 = 1 by decide, show w32 1 = 1 by decide]
  obtain ⟨a, ha⟩ : ∃ a, rt_n l1 1 = a + 1 := ⟨rt_n l1 1 - 1, by omega⟩
  obtain ⟨b, hb⟩ : ∃ b, rt_n l1 2 = b + 1 := ⟨rt_n l1 2 - 1, by omega⟩
  have ev : rt_v M 0 0 = 0 := by
    unfold rt_v
    rw [← h2.1.1, e0]
    omega
  rw [rt_t, hb, rt_f, ha, sc, if_neg (by rw [ev]; exact Int.lt_irrefl 0)] at k
  refine LPI_R_rates hr (by omega) a 1 0 0 _ _ (by omega) (by omega) (by omega) (fun w5 w6 w7 s hs h1 => ?_)
  rw [← ha, show ((0 : Int) + 1) = 1 from rfl, ← hs] at k
  exact LP_R_rates hr b 1 _ _ _ _ _ h1 (by omega) (by omega) k
theorem op_doesBoth {X : vX} {d : Nat} {M : vM} {a0 a1 : Int} (hr : Rel M) : cq X (d + 40) 171 [vR 0, vI a0, vI a1] M (fun v M1 => cq X (d + 40) 276 [vR 81, vI a0, vI a1] M1 (fun v2 M2 => v2 = v ∧ Rel M2)) := by
  have h2 : R2 M := hr.2.2.2.2.2.2.2.2
  by_cases h0 : 0 ≤ a0 ∧ a0 ≤ 40
  · by_cases h1 : 0 ≤ a1 ∧ a1 ≤ 40
    · refine E_X_doesBoth (B_X_doesBoth_0 (S_isRate (B_X_doesBoth_4 (fun h => by rw [if_pos h0] at h; omega) (fun _ => B_X_doesBoth_7 (S_isRate (B_X_doesBoth_11 (fun h => by rw [if_pos h1] at h; omega) (fun _ => B_X_doesBoth_14 hr.1 (S_Tw_taken h2.1.2 h0 h1 (B_X_doesBoth_23 ?_)))))))))
      refine E_R_doesBoth (B_R_doesBoth_0 (S_R_in (B_R_doesBoth_9 (fun h => by rw [if_pos h0] at h; omega) (fun _ => B_R_doesBoth_12 (S_R_in (B_R_doesBoth_21 (fun h => by rw [if_pos h1] at h; omega) (fun _ => B_R_doesBoth_24 (S_R_doesOf (by rw [h2.1.1]; exact h2.1.2) h0 h1 (B_R_doesBoth_30 ⟨?_, hr⟩)))))))))
      rw [h2.1.1]
    · refine E_X_doesBoth (B_X_doesBoth_0 (S_isRate (B_X_doesBoth_4 (fun h => by rw [if_pos h0] at h; omega) (fun _ => B_X_doesBoth_7 (S_isRate (B_X_doesBoth_11 (fun _ => B_X_doesBoth_26 ?_) (fun h => absurd (if_neg h1) h)))))))
      exact E_R_doesBoth (B_R_doesBoth_0 (S_R_in (B_R_doesBoth_9 (fun h => by rw [if_pos h0] at h; omega) (fun _ => B_R_doesBoth_12 (S_R_in (B_R_doesBoth_21 (fun _ => B_R_doesBoth_33 ⟨rfl, hr⟩) (fun h => absurd (if_neg h1) h)))))))
  · refine E_X_doesBoth (B_X_doesBoth_0 (S_isRate (B_X_doesBoth_4 (fun _ => B_X_doesBoth_26 ?_) (fun h => absurd (if_neg h0) h))))
    exact E_R_doesBoth (B_R_doesBoth_0 (S_R_in (B_R_doesBoth_9 (fun _ => B_R_doesBoth_33 ⟨rfl, hr⟩) (fun h => absurd (if_neg h0) h))))
end RT2
theorem op_rates {X : vX} {d : Nat} {M : vM} {a0 : Int} (hr : Rel M) : cq X (d + 40) 172 [vR 0, vI a0] M (fun v M1 => cq X (d + 40) 277 [vR 81, vI a0] M1 (fun v2 M2 => v2 = v ∧ Rel M2)) := by
  by_cases h0 : 0 ≤ a0 ∧ a0 ≤ 2
  · exact E_X_rates (B_X_rates_0 (S_within (B_X_rates_6 (fun h => by rw [if_pos h0] at h; omega) (fun _ => B_X_rates_9 hr.1 (S_Tw_bestRates hr (B_X_rates_17 (S_R_rates hr h0 ⟨rfl, hr⟩)))))))
  · exact E_X_rates (B_X_rates_0 (S_within (B_X_rates_6 (fun _ => B_X_rates_20 (E_R_rates (B_R_rates_0 (S_R_in (B_R_rates_9 (fun h => absurd (if_neg h0) h) (fun _ => B_R_rates_12 ⟨rfl, hr⟩)))))) (fun h => absurd (if_neg h0) h))))
/-- the ratchet -/
def ra_l (ki ra m : Int) : Int := ra * m - (ki + 1) * m * m
def ra_v (ki ra st m n : Int) : Int := ra_l ki ra m + ra * (n - m - st) - (ki + 1) * n * n
def ra_n (ki ra st m : Int) : Nat → Int → Int × Int × Int → Int × Int × Int
  | 0, _, s => s
  | k + 1, n, s => ra_n ki ra st m k (n + 1) (if s.2.2 < ra_v ki ra st m n then (m, n, ra_v ki ra st m n) else s)
def ra_m (ki ra st : Int) : Nat → Int → Int × Int × Int → Int × Int × Int
  | 0, _, s => s
  | k + 1, m, s => ra_m ki ra st k (m + 1) (ra_n ki ra st m 20 0 (if s.2.2 < ra_l ki ra m then (m, 0, ra_l ki ra m) else s))
def ra_o (wh : Int) (s : Int × Int × Int) : Int := if wh = 0 then s.1 else if wh = 1 then s.2.1 else s.2.2
theorem ra_b {ki ra st m n : Int} (hk : 0 ≤ ki ∧ ki ≤ 1) (hr : 0 ≤ ra ∧ ra ≤ 40) (hs : 0 ≤ st ∧ st ≤ 9) (hm : 0 ≤ m ∧ m ≤ 19) (hn : 0 ≤ n ∧ n ≤ 19) :
    w32 (ra * m) = ra * m ∧ w32 (w32 (w32 (ki + 1) * n) * n) = (ki + 1) * n * n ∧ w32 (ra * m - (ki + 1) * m * m) = ra_l ki ra m ∧ w32 (ra_l ki ra m + w32 (ra * w32 (w32 (n - m) - st))) = ra_l ki ra m + ra * (n - m - st) ∧ w32 (ra_l ki ra m + ra * (n - m - st) - (ki + 1) * n * n) = ra_v ki ra st m n := by
  have p1 := mul_b hr hm
  have p2 := mul_b (a := ki + 1) (A := 2) (by omega) hn
  have p3 := mul_b p2 hn
  have p4 := mul_b (a := ki + 1) (A := 2) (by omega) hm
  have p5 := mul_b p4 hm
  have p6 := mul_s' (a := n - m - st) (A := 28) hr (by omega)
  unfold ra_v ra_l
  simp (disch := omega) only [w32_i, and_self]
section RT3
variable {X : vX} {d : Nat} {M : vM} {Q : Option vV → vM → Prop} {l0 l1 l2 l3 l4 : Int}
theorem LPI_Ra_taken (hk : 0 ≤ l0 ∧ l0 ≤ 1) (hr : 0 ≤ l1 ∧ l1 ≤ 40) (hs : 0 ≤ l2 ∧ l2 ≤ 9) {m : Int} (hm : 0 ≤ m ∧ m ≤ 19) : ∀ (n : Nat) (y : Int) (s : Int × Int × Int) (w10 : vV), 0 ≤ y → y + n = 20 → (∀ (w8 w9 w10 : vV), vw X (d + 1) 66 12 [vI l0, vI l1, vI l2, vI l3, vI (ra_n l0 l1 l2 m n y s).1, vI (ra_n l0 l1 l2 m n y s).2.1, vI (ra_n l0 l1 l2 m n y s).2.2, vI (m + 1), w8, w9, w10] [] M Q) → vw X (d + 1) 66 53 [vI l0, vI l1, vI l2, vI l3, vI s.1, vI s.2.1, vI s.2.2, vI m, vI (ra_l l0 l1 m), vI y, w10] [] M Q
  | 0, y, s, w10, h0, hn, k => B_Ra_taken_53 (fun h => B_Ra_taken_106 (by rw [w32_i (x := m + 1) (by omega)]; exact k _ _ _)) (fun h => by exfalso; omega)
  | n + 1, y, s, w10, h0, hn, k => by
    obtain ⟨b1, b2, b3, b4, b5⟩ := ra_b hk hr hs hm (n := y) (by omega)
    refine B_Ra_taken_53 (fun h => by exfalso; omega) (fun h => B_Ra_taken_60 (E_Ra_toil (B_Ra_toil_0 (B_Ra_taken_78 (fun hb => B_Ra_taken_100 ?_) (fun hb => B_Ra_taken_88 ?_)))))
    · rw [b2, b4, b5] at hb
      rw [w32_i (x := y + 1) (by omega)]
      rw [ra_n, if_neg (by omega)] at k
      exact LPI_Ra_taken hk hr hs hm n (y + 1) s _ (by omega) (by omega) k
    · rw [b2, b4, b5] at hb
      rw [w32_i (x := y + 1) (by omega), b2, b4, b5]
      rw [ra_n, if_pos hb] at k
      exact LPI_Ra_taken hk hr hs hm n (y + 1) (m, y, ra_v l0 l1 l2 m y) _ (by omega) (by omega) k
theorem LP_Ra_taken (hk : 0 ≤ l0 ∧ l0 ≤ 1) (hr : 0 ≤ l1 ∧ l1 ≤ 40) (hs : 0 ≤ l2 ∧ l2 ≤ 9) : ∀ (n : Nat) (m : Int) (s : Int × Int × Int) (w8 w9 w10 : vV), 0 ≤ m → m + n = 20 → Q (some (vI (ra_o l3 (ra_m l0 l1 l2 n m s)))) M → vw X (d + 1) 66 12 [vI l0, vI l1, vI l2, vI l3, vI s.1, vI s.2.1, vI s.2.2, vI m, w8, w9, w10] [] M Q
  | 0, m, s, w8, w9, w10, h0, hn, k => B_Ra_taken_12 (fun _ => B_Ra_taken_112 (fun h => B_Ra_taken_121 (fun h2 => B_Ra_taken_131 (by rw [ra_o, if_neg h, if_neg h2] at k; exact k)) (fun h2 => B_Ra_taken_126 (by rw [ra_o, if_neg h, if_pos h2] at k; exact k))) (fun h => B_Ra_taken_116 (by rw [ra_o, if_pos h] at k; exact k))) (fun h => by exfalso; omega)
  | n + 1, m, s, w8, w9, w10, h0, hn, k => by
    obtain ⟨b1, b2, b3, b4, b5⟩ := ra_b hk hr hs (m := m) (n := m) (by omega) (by omega)
    rw [ra_m] at k
    refine B_Ra_taken_12 (fun h => by exfalso; omega) (fun h => B_Ra_taken_19 (E_Ra_toil (B_Ra_toil_0 (B_Ra_taken_29 (fun hb => B_Ra_taken_50 ?_) (fun hb => B_Ra_taken_39 ?_)))))
    · rw [b1, b2, b3] at hb
      rw [b1, b2, b3]
      rw [if_neg (by omega)] at k
      exact LPI_Ra_taken hk hr hs (by omega) 20 0 s _ (by omega) (by omega) (fun w8 w9 w10 => LP_Ra_taken hk hr hs n (m + 1) _ _ _ _ (by omega) (by omega) k)
    · rw [b1, b2, b3] at hb
      rw [b1, b2, b3]
      rw [if_pos hb] at k
      exact LPI_Ra_taken hk hr hs (by omega) 20 0 (m, 0, ra_l l0 l1 m) _ (by omega) (by omega) (fun w8 w9 w10 => LP_Ra_taken hk hr hs n (m + 1) _ _ _ _ (by omega) (by omega) k)
theorem LPI_R_ratchet (hk : 0 ≤ l1 ∧ l1 ≤ 1) (hr : 0 ≤ l2 ∧ l2 ≤ 40) (hs : 0 ≤ l3 ∧ l3 ≤ 9) {m : Int} (hm : 0 ≤ m ∧ m ≤ 19) : ∀ (n : Nat) (y : Int) (s : Int × Int × Int) (w11 : vV), 0 ≤ y → y + n = 20 → (∀ (w9 w10 w11 : vV), vw X d 278 64 [vR 81, vI l1, vI l2, vI l3, vI l4, vI (ra_n l1 l2 l3 m n y s).1, vI (ra_n l1 l2 l3 m n y s).2.1, vI (ra_n l1 l2 l3 m n y s).2.2, vI (m + 1), w9, w10, w11] [] M Q) → vw X d 278 90 [vR 81, vI l1, vI l2, vI l3, vI l4, vI s.1, vI s.2.1, vI s.2.2, vI m, vI (ra_l l1 l2 m), vI y, w11] [] M Q
  | 0, y, s, w11, h0, hn, k => B_R_ratchet_90 (fun h => B_R_ratchet_167 (by rw [w32_i (x := m + 1) (by omega)]; exact k _ _ _)) (fun h => by exfalso; omega)
  | n + 1, y, s, w11, h0, hn, k => by
    obtain ⟨b1, b2, b3, b4, b5⟩ := ra_b hk hr hs hm (n := y) (by omega)
    refine B_R_ratchet_90 (fun h => by exfalso; omega) (fun h => B_R_ratchet_97 (fun _ => B_R_ratchet_108 (fun hb => B_R_ratchet_161 ?_) (fun hb => B_R_ratchet_139 (fun _ => B_R_ratchet_157 ?_) (fun h => by exfalso; omega))) (fun h => by exfalso; omega))
    · rw [b2, b4, b5] at hb
      rw [w32_i (x := y + 1) (by omega)]
      rw [ra_n, if_neg (by omega)] at k
      exact LPI_R_ratchet hk hr hs hm n (y + 1) s _ (by omega) (by omega) k
    · rw [b2, b4, b5] at hb
      rw [w32_i (x := y + 1) (by omega), b2, b4, b5]
      rw [ra_n, if_pos hb] at k
      exact LPI_R_ratchet hk hr hs hm n (y + 1) (m, y, ra_v l1 l2 l3 m y) _ (by omega) (by omega) k
theorem LP_R_ratchet (hk : 0 ≤ l1 ∧ l1 ≤ 1) (hr : 0 ≤ l2 ∧ l2 ≤ 40) (hs : 0 ≤ l3 ∧ l3 ≤ 9) : ∀ (n : Nat) (m : Int) (s : Int × Int × Int) (w9 w10 w11 : vV), 0 ≤ m → m + n = 20 → Q (some (vI (ra_o l4 (ra_m l1 l2 l3 n m s)))) M → vw X d 278 64 [vR 81, vI l1, vI l2, vI l3, vI l4, vI s.1, vI s.2.1, vI s.2.2, vI m, w9, w10, w11] [] M Q
  | 0, m, s, w9, w10, w11, h0, hn, k => B_R_ratchet_64 (fun _ => B_R_ratchet_173 (fun h => B_R_ratchet_183 (fun h2 => B_R_ratchet_194 (by rw [ra_o, if_neg h, if_neg h2] at k; exact k)) (fun h2 => B_R_ratchet_189 (by rw [ra_o, if_neg h, if_pos h2] at k; exact k))) (fun h => B_R_ratchet_178 (by rw [ra_o, if_pos h] at k; exact k))) (fun h => by exfalso; omega)
  | n + 1, m, s, w9, w10, w11, h0, hn, k => by
    obtain ⟨b1, b2, b3, b4, b5⟩ := ra_b hk hr hs (m := m) (n := m) (by omega) (by omega)
    rw [ra_m] at k
    refine B_R_ratchet_64 (fun h => by exfalso; omega) (fun h => B_R_ratchet_71 ?_)
    rw [b1, b2, b3]
    refine B_R_ratchet_90 (fun h => by exfalso; omega) (fun _ => B_R_ratchet_97 (fun h => absurd rfl h) (fun _ => B_R_ratchet_103 (fun hb => B_R_ratchet_161 ?_) (fun hb => B_R_ratchet_139 (fun h => absurd rfl h) (fun _ => B_R_ratchet_153 ?_))))
    · rw [if_neg (by omega)] at k
      rw [show w32 (-1 + 1) = 0 by decide]
      exact LPI_R_ratchet hk hr hs (by omega) 20 0 s _ (by omega) (by omega) (fun w8 w9 w10 => LP_R_ratchet hk hr hs n (m + 1) _ _ _ _ (by omega) (by omega) k)
    · rw [if_pos hb] at k
      rw [show w32 (-1 + 1) = 0 by decide]
      exact LPI_R_ratchet hk hr hs (by omega) 20 0 (m, 0, ra_l l1 l2 m) _ (by omega) (by omega) (fun w8 w9 w10 => LP_R_ratchet hk hr hs n (m + 1) _ _ _ _ (by omega) (by omega) k)
end RT3
theorem op_ratchet {X : vX} {d : Nat} {M : vM} {a0 a1 a2 a3 : Int} (hr : Rel M) : cq X (d + 40) 173 [vR 0, vI a0, vI a1, vI a2, vI a3] M (fun v M1 => cq X (d + 40) 278 [vR 81, vI a0, vI a1, vI a2, vI a3] M1 (fun v2 M2 => v2 = v ∧ Rel M2)) := by
  by_cases h0 : 0 ≤ a0 ∧ a0 ≤ 1
  · by_cases h3 : 0 ≤ a3 ∧ a3 ≤ 2
    · by_cases h1 : 0 ≤ a1 ∧ a1 ≤ 40
      · by_cases h2 : 0 ≤ a2 ∧ a2 ≤ 9
        · refine E_X_ratchet (B_X_ratchet_0 (S_within (B_X_ratchet_6 (fun h => by rw [if_pos h0] at h; omega) (fun _ => B_X_ratchet_9 (S_within (B_X_ratchet_16 (fun _ => B_X_ratchet_21 (S_isRate (B_X_ratchet_25 (fun h => by rw [if_pos h1] at h; omega) (fun _ => B_X_ratchet_28 (S_within (B_X_ratchet_35 (fun _ => B_X_ratchet_41 (E_Ra_taken (B_Ra_taken_0 (LP_Ra_taken h0 h1 h2 20 0 (0, 0, 0) _ _ _ (by omega) (by omega) (B_X_ratchet_49 ?_))))) (fun h => by rw [if_pos h2] at h; omega))))))) (fun h => by rw [if_pos h3] at h; omega)))))))
          exact E_R_ratchet (B_R_ratchet_0 (S_R_in (B_R_ratchet_7 (fun h => by rw [if_pos h0] at h; omega) (fun _ => B_R_ratchet_10 (S_R_in (B_R_ratchet_20 (fun _ => B_R_ratchet_25 (S_R_in (B_R_ratchet_34 (fun h => by rw [if_pos h1] at h; omega) (fun _ => B_R_ratchet_37 (S_R_in (B_R_ratchet_46 (fun _ => B_R_ratchet_52 (LP_R_ratchet h0 h1 h2 20 0 (0, 0, 0) _ _ _ (by omega) (by omega) ⟨rfl, hr⟩)) (fun h => by rw [if_pos h2] at h; omega))))))) (fun h => by rw [if_pos h3] at h; omega)))))))
        · refine E_X_ratchet (B_X_ratchet_0 (S_within (B_X_ratchet_6 (fun h => by rw [if_pos h0] at h; omega) (fun _ => B_X_ratchet_9 (S_within (B_X_ratchet_16 (fun _ => B_X_ratchet_21 (S_isRate (B_X_ratchet_25 (fun h => by rw [if_pos h1] at h; omega) (fun _ => B_X_ratchet_28 (S_within (B_X_ratchet_35 (fun h => absurd (if_neg h2) h) (fun _ => B_X_ratchet_38 ?_))))))) (fun h => by rw [if_pos h3] at h; omega)))))))
          exact E_R_ratchet (B_R_ratchet_0 (S_R_in (B_R_ratchet_7 (fun h => by rw [if_pos h0] at h; omega) (fun _ => B_R_ratchet_10 (S_R_in (B_R_ratchet_20 (fun _ => B_R_ratchet_25 (S_R_in (B_R_ratchet_34 (fun h => by rw [if_pos h1] at h; omega) (fun _ => B_R_ratchet_37 (S_R_in (B_R_ratchet_46 (fun h => absurd (if_neg h2) h) (fun _ => B_R_ratchet_49 ⟨rfl, hr⟩))))))) (fun h => by rw [if_pos h3] at h; omega)))))))
      · refine E_X_ratchet (B_X_ratchet_0 (S_within (B_X_ratchet_6 (fun h => by rw [if_pos h0] at h; omega) (fun _ => B_X_ratchet_9 (S_within (B_X_ratchet_16 (fun _ => B_X_ratchet_21 (S_isRate (B_X_ratchet_25 (fun _ => B_X_ratchet_38 ?_) (fun h => absurd (if_neg h1) h)))) (fun h => by rw [if_pos h3] at h; omega)))))))
        exact E_R_ratchet (B_R_ratchet_0 (S_R_in (B_R_ratchet_7 (fun h => by rw [if_pos h0] at h; omega) (fun _ => B_R_ratchet_10 (S_R_in (B_R_ratchet_20 (fun _ => B_R_ratchet_25 (S_R_in (B_R_ratchet_34 (fun _ => B_R_ratchet_49 ⟨rfl, hr⟩) (fun h => absurd (if_neg h1) h)))) (fun h => by rw [if_pos h3] at h; omega)))))))
    · refine E_X_ratchet (B_X_ratchet_0 (S_within (B_X_ratchet_6 (fun h => by rw [if_pos h0] at h; omega) (fun _ => B_X_ratchet_9 (S_within (B_X_ratchet_16 (fun h => absurd (if_neg h3) h) (fun _ => B_X_ratchet_19 ?_)))))))
      exact E_R_ratchet (B_R_ratchet_0 (S_R_in (B_R_ratchet_7 (fun h => by rw [if_pos h0] at h; omega) (fun _ => B_R_ratchet_10 (S_R_in (B_R_ratchet_20 (fun h => absurd (if_neg h3) h) (fun _ => B_R_ratchet_23 ⟨rfl, hr⟩)))))))
  · refine E_X_ratchet (B_X_ratchet_0 (S_within (B_X_ratchet_6 (fun _ => B_X_ratchet_19 ?_) (fun h => absurd (if_neg h0) h))))
    exact E_R_ratchet (B_R_ratchet_0 (S_R_in (B_R_ratchet_7 (fun _ => B_R_ratchet_23 ⟨rfl, hr⟩) (fun h => absurd (if_neg h0) h))))
