/-! TWO TASKS, A RATCHET -/
theorem w32_i {x : Int} (h : -2147483648 ≤ x ∧ x < 2147483648) : w32 x = x := w32_id h.1 h.2
def tw_v (k r1 r2 x y : Int) : Int := r1 * x + r2 * y - x * x - y * y - k * x * y
theorem tw_w {k r1 r2 x y : Int} (hk : 0 ≤ k ∧ k ≤ 9) (h1 : 0 ≤ r1 ∧ r1 ≤ 40) (h2 : 0 ≤ r2 ∧ r2 ≤ 40) (hx : 0 ≤ x ∧ x ≤ 8) (hy : 0 ≤ y ∧ y ≤ 8) : w32 (w32 (w32 (w32 (w32 (r1 * x) + w32 (r2 * y)) - w32 (x * x)) - w32 (y * y)) - w32 (w32 (k * x) * y)) = tw_v k r1 r2 x y := by
  have p1 := mul_b h1 hx
  have p2 := mul_b h2 hy
  have p3 := mul_b hx hx
  have p4 := mul_b hy hy
  have p5 := mul_b hk hx
  have p6 := mul_b p5 hy
  unfold tw_v
  simp (disch := omega) only [w32_i]
theorem tw_vr {k r1 r2 x y : Int} (hk : 0 ≤ k ∧ k ≤ 9) (h1 : 0 ≤ r1 ∧ r1 ≤ 40) (h2 : 0 ≤ r2 ∧ r2 ≤ 40) (hx : 0 ≤ x ∧ x ≤ 8) (hy : 0 ≤ y ∧ y ≤ 8) : -1000 ≤ tw_v k r1 r2 x y ∧ tw_v k r1 r2 x y ≤ 1000 := by
  have p1 := mul_b h1 hx
  have p2 := mul_b h2 hy
  have p3 := mul_b hx hx
  have p4 := mul_b hy hy
  have p5 := mul_b hk hx
  have p6 := mul_b p5 hy
  unfold tw_v
  omega
/-- the best y beside x -/
def tw_y (k r2 x : Int) : Int := max 0 (min ((r2 - k * x).tdiv 2) 8)
/-- the scan over x, with the best y -/
def tw_f (k r1 r2 : Int) : Nat → Int → Int → Int → Int
  | 0, _, f, _ => f
  | n + 1, x, f, m => if m < tw_v k r1 r2 x (tw_y k r2 x) then tw_f k r1 r2 n (x + 1) (10 * x + tw_y k r2 x) (tw_v k r1 r2 x (tw_y k r2 x)) else tw_f k r1 r2 n (x + 1) f m
def tw_t (k r1 r2 : Int) : Int := tw_f k r1 r2 9 0 0 0
theorem tw_yr {k r2 x : Int} : 0 ≤ tw_y k r2 x ∧ tw_y k r2 x ≤ 8 := by unfold tw_y; omega
/-- a scan for the first greatest -/
def sc (f g : Int → Int) : Nat → Int → Int × Int → Int × Int
  | 0, _, s => s
  | n + 1, y, s => sc f g n (y + 1) (if s.2 < f y then (g y, f y) else s)
theorem sc_same {f g : Int → Int} : ∀ (n : Nat) (y : Int) (s : Int × Int), (∀ z, y ≤ z → z < y + n → f z ≤ s.2) → sc f g n y s = s
  | 0, _, _, _ => rfl
  | n + 1, y, s, h => by
    rw [sc, if_neg (by have := h y (by omega) (by omega); omega)]
    exact sc_same n (y + 1) s (fun z h1 h2 => h z (by omega) (by omega))
theorem sc_best {f g : Int → Int} {b : Int} : ∀ (n : Nat) (y : Int) (s : Int × Int), y ≤ b → b < y + n → (∀ z, y ≤ z → z < b → f z < f b) → (∀ z, b ≤ z → z < y + n → f z ≤ f b) → s.2 < f b → sc f g n y s = (g b, f b)
  | 0, _, _, h1, h2, _, _, _ => absurd h2 (by omega)
  | n + 1, y, s, h1, h2, h3, h4, h5 => by
    rw [sc]
    by_cases e : y = b
    · subst e
      rw [if_pos h5]
      exact sc_same n (y + 1) _ (fun z q1 q2 => h4 z (by omega) (by omega))
    · have h6 := h3 y (by omega) (by omega)
      refine sc_best n (y + 1) _ (by omega) (by omega) (fun z q1 q2 => h3 z (by omega) q2) (fun z q1 q2 => h4 z q1 (by omega)) ?_
      split
      · exact h6
      · exact h5
theorem sc_best' {f g : Int → Int} {b : Int} {n : Nat} {y : Int} {s : Int × Int} (h1 : y ≤ b) (h2 : b < y + n) (h3 : ∀ z, y ≤ z → z < b → f z < f b) (h4 : ∀ z, b ≤ z → z < y + n → f z ≤ f b) : sc f g n y s = if s.2 < f b then (g b, f b) else s := by
  split
  · next h => exact sc_best n y s h1 h2 h3 h4 h
  · next h =>
    refine sc_same n y s (fun z q1 q2 => ?_)
    by_cases e : z < b
    · have := h3 z q1 e; omega
    · have := h4 z (by omega) q2; omega
theorem c9 {P : Int → Prop} (h : ∀ n : Fin 9, P (n.val : Int)) {x : Int} (h0 : 0 ≤ x) (h1 : x < 9) : P x := by
  have := h ⟨x.toNat, by omega⟩
  simpa [Int.toNat_of_nonneg h0] using this
/-- a parabola over 0 .. 8 -/
theorem tw_par {c z : Int} (hz : 0 ≤ z ∧ z ≤ 8) : (z < max 0 (min (c.tdiv 2) 8) → c * z - z * z < c * max 0 (min (c.tdiv 2) 8) - max 0 (min (c.tdiv 2) 8) * max 0 (min (c.tdiv 2) 8)) ∧ (max 0 (min (c.tdiv 2) 8) ≤ z → c * z - z * z ≤ c * max 0 (min (c.tdiv 2) 8) - max 0 (min (c.tdiv 2) 8) * max 0 (min (c.tdiv 2) 8)) := by
  have h2 : 2 * c.tdiv 2 + c.tmod 2 = c := Int.mul_tdiv_add_tmod c 2
  have h3 : -2 < c.tmod 2 ∧ c.tmod 2 < 2 := by
    have q1 := Int.tmod_lt_of_pos c (b := 2) (by omega)
    have q2 := Int.lt_tmod_of_pos c (b := 2) (by omega)
    omega
  have h4 : 0 ≤ c → 0 ≤ c.tmod 2 := fun h => Int.tmod_nonneg 2 h
  have h5 : c ≤ 0 → c.tdiv 2 ≤ 0 := fun h => by omega
  have h6 : 0 ≤ c → 0 ≤ c.tdiv 2 := fun h => by omega
  generalize hb : max 0 (min (c.tdiv 2) 8) = b
  have hb2 : 0 ≤ b ∧ b ≤ 8 := by omega
  have e : (c * b - b * b) - (c * z - z * z) = (b - z) * (c - b - z) := by
    rw [Int.sub_mul, Int.mul_sub, Int.mul_sub, Int.mul_sub, Int.mul_sub, Int.mul_comm b c, Int.mul_comm z c, Int.mul_comm z b]
    omega
  constructor
  · intro h
    have : 0 < (b - z) * (c - b - z) := Int.mul_pos (by omega) (by omega)
    omega
  · intro h
    have : 0 ≤ (b - z) * (c - b - z) := by
      by_cases e2 : b = z
      · subst e2; simp
      · have := Int.mul_nonneg_of_nonpos_of_nonpos (a := b - z) (b := c - b - z) (by omega) (by omega)
        exact this
    omega
theorem tw_vy {k r1 r2 x y : Int} : tw_v k r1 r2 x y = r1 * x - x * x + ((r2 - k * x) * y - y * y) := by
  unfold tw_v
  rw [Int.sub_mul]
  omega
section TW
variable {X : vX} {d : Nat} {M : vM} {Q : Option vV → vM → Prop} {l0 l1 l2 l3 l4 : Int}
theorem S_J_maxI (k : Q (some (vI (max l0 l1))) M) : cq X (d + 1) 284 [vI l0, vI l1] M Q :=
  E_J_maxI (B_J_maxI_0 (fun h => B_J_maxI_9 (q_i k (by omega))) (fun h => B_J_maxI_5 (q_i k (by omega))))
theorem S_J_minI (k : Q (some (vI (min l0 l1))) M) : cq X (d + 1) 286 [vI l0, vI l1] M Q :=
  E_J_minI (B_J_minI_0 (fun h => B_J_minI_9 (q_i k (by omega))) (fun h => B_J_minI_5 (q_i k (by omega))))
theorem S_Tw_bestBeside (hk : 0 ≤ M 77 0 ∧ M 77 0 ≤ 9) (h1 : 0 ≤ l1 ∧ l1 ≤ 8) (h2 : 0 ≤ l2 ∧ l2 ≤ 40) (k : Q (some (vI (tw_y (M 77 0) l2 l1))) M) : cq X (d + 2) 114 [vR 77, vI l1, vI l2] M Q := by
  have p := mul_b hk h1
  have p' : l2 - M 77 0 * l1 < 2147483648 ∧ -2147483648 ≤ l2 - M 77 0 * l1 := by omega
  refine E_Tw_bestBeside (B_Tw_bestBeside_0 (S_J_minI (B_Tw_bestBeside_16 (S_J_maxI (B_Tw_bestBeside_19 (q_i k ?_))))))
  simp (disch := omega) only [w32_i]
  rw [j_idiv_eq (by omega) (by omega)]
  rfl
theorem LP_Tw_taken (hk : 0 ≤ M 77 0 ∧ M 77 0 ≤ 9) (h1 : 0 ≤ l1 ∧ l1 ≤ 40) (h2 : 0 ≤ l2 ∧ l2 ≤ 40) : ∀ (n : Nat) (x f m : Int) (w6 w7 : vV), 0 ≤ x → x + n = 9 → Q (some (vI (tw_f (M 77 0) l1 l2 n x f m))) M → vw X (d + 2) 113 8 [vR 77, vI l1, vI l2, vI f, vI m, vI x, w6, w7] [] M Q
  | 0, x, f, m, w6, w7, h0, hn, k => B_Tw_taken_8 (fun h => B_Tw_taken_84 k) (fun h => by exfalso; omega)
  | n + 1, x, f, m, w6, w7, h0, hn, k => by
    have hy := tw_yr (k := M 77 0) (r2 := l2) (x := x)
    have e1 := tw_w hk h1 h2 (x := x) (by omega) hy
    refine B_Tw_taken_8 (fun h => by exfalso; omega) (fun h => B_Tw_taken_15 (S_Tw_bestBeside hk (by omega) h2 (B_Tw_taken_22 (fun hb => B_Tw_taken_78 ?_) (fun hb => B_Tw_taken_65 ?_))))
    · rw [w32_i (x := x + 1) (by omega)]
      rw [e1] at hb
      rw [tw_f, if_neg (by omega)] at k
      exact LP_Tw_taken hk h1 h2 n (x + 1) _ _ _ _ (by omega) (by omega) k
    · rw [w32_i (x := x + 1) (by omega), e1, w32_i (x := 10 * x) (by omega), w32_i (by omega)]
      rw [e1] at hb
      rw [tw_f, if_pos hb] at k
      exact LP_Tw_taken hk h1 h2 n (x + 1) _ _ _ _ (by omega) (by omega) k
theorem S_Tw_taken (hk : 0 ≤ M 77 0 ∧ M 77 0 ≤ 9) (h1 : 0 ≤ l1 ∧ l1 ≤ 40) (h2 : 0 ≤ l2 ∧ l2 ≤ 40) (k : Q (some (vI (tw_t (M 77 0) l1 l2))) M) : cq X (d + 3) 113 [vR 77, vI l1, vI l2] M Q :=
  E_Tw_taken (B_Tw_taken_0 (LP_Tw_taken hk h1 h2 9 0 0 0 _ _ (by omega) (by omega) k))
theorem LPI_R_doesOf (hk : 0 ≤ M 81 56 ∧ M 81 56 ≤ 9) (h1 : 0 ≤ l1 ∧ l1 ≤ 40) (h2 : 0 ≤ l2 ∧ l2 ≤ 40) {x : Int} (hx : 0 ≤ x ∧ x ≤ 8) : ∀ (n : Nat) (y f m : Int) (w7 : vV), 0 ≤ y → y + n = 9 → (∀ (w6 w7 : vV), vw X d 275 8 [vR 81, vI l1, vI l2, vI (sc (tw_v (M 81 56) l1 l2 x) (fun y => 10 * x + y) n y (f, m)).1, vI (sc (tw_v (M 81 56) l1 l2 x) (fun y => 10 * x + y) n y (f, m)).2, vI (x + 1), w6, w7] [] M Q) → vw X d 275 18 [vR 81, vI l1, vI l2, vI f, vI m, vI x, vI y, w7] [] M Q
  | 0, y, f, m, w7, h0, hn, k => B_R_doesOf_18 (fun h => B_R_doesOf_85 (by rw [w32_i (x := x + 1) (by omega)]; exact k _ _)) (fun h => by exfalso; omega)
  | n + 1, y, f, m, w7, h0, hn, k => by
    have e1 := tw_w hk h1 h2 (x := x) (y := y) (by omega) (by omega)
    refine B_R_doesOf_18 (fun h => by exfalso; omega) (fun h => B_R_doesOf_25 (fun hb => B_R_doesOf_79 ?_) (fun hb => B_R_doesOf_66 ?_))
    · rw [w32_i (x := y + 1) (by omega)]
      rw [e1] at hb
      rw [sc, if_neg (show ¬ m < _ by omega)] at k
      exact LPI_R_doesOf hk h1 h2 hx n (y + 1) _ _ _ (by omega) (by omega) k
    · rw [w32_i (x := y + 1) (by omega), e1, w32_i (x := 10 * x) (by omega), w32_i (by omega)]
      rw [e1] at hb
      rw [sc, if_pos (show m < _ from hb)] at k
      exact LPI_R_doesOf hk h1 h2 hx n (y + 1) _ _ _ (by omega) (by omega) k
theorem LP_R_doesOf (hk : 0 ≤ M 81 56 ∧ M 81 56 ≤ 9) (h1 : 0 ≤ l1 ∧ l1 ≤ 40) (h2 : 0 ≤ l2 ∧ l2 ≤ 40) : ∀ (n : Nat) (x f m : Int) (w6 w7 : vV), 0 ≤ x → x + n = 9 → Q (some (vI (tw_f (M 81 56) l1 l2 n x f m))) M → vw X d 275 8 [vR 81, vI l1, vI l2, vI f, vI m, vI x, w6, w7] [] M Q
  | 0, x, f, m, w6, w7, h0, hn, k => B_R_doesOf_8 (fun h => B_R_doesOf_91 k) (fun h => by exfalso; omega)
  | n + 1, x, f, m, w6, w7, h0, hn, k => by
    refine B_R_doesOf_8 (fun h => by exfalso; omega) (fun h => B_R_doesOf_15 (LPI_R_doesOf hk h1 h2 (by omega) 9 0 f m _ (by omega) (by omega) (fun w6 w7 => ?_)))
    have hy := tw_yr (k := M 81 56) (r2 := l2) (x := x)
    rw [sc_best' (b := tw_y (M 81 56) l2 x) hy.1 (by omega) (fun z q1 q2 => by
      rw [tw_vy, tw_vy]
      have := (tw_par (c := l2 - M 81 56 * x) (z := z) (by omega)).1 q2
      unfold tw_y
      omega) (fun z q1 q2 => by
      rw [tw_vy, tw_vy]
      have := (tw_par (c := l2 - M 81 56 * x) (z := z) (by omega)).2 q1
      unfold tw_y
      omega)]
    rw [tw_f] at k
    by_cases hb : m < tw_v (M 81 56) l1 l2 x (tw_y (M 81 56) l2 x)
    · rw [if_pos hb] at k
      rw [if_pos hb]
      exact LP_R_doesOf hk h1 h2 n (x + 1) _ _ _ _ (by omega) (by omega) k
    · rw [if_neg hb] at k
      rw [if_neg hb]
      exact LP_R_doesOf hk h1 h2 n (x + 1) _ _ _ _ (by omega) (by omega) k
theorem S_R_doesOf (hk : 0 ≤ M 81 56 ∧ M 81 56 ≤ 9) (h1 : 0 ≤ l1 ∧ l1 ≤ 40) (h2 : 0 ≤ l2 ∧ l2 ≤ 40) (k : Q (some (vI (tw_t (M 81 56) l1 l2))) M) : cq X (d + 1) 275 [vR 81, vI l1, vI l2] M Q :=
  E_R_doesOf (B_R_doesOf_0 (LP_R_doesOf hk h1 h2 9 0 0 0 _ _ (by omega) (by omega) k))
end TW
