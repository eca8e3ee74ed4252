/-! PROMISES: the loops of both -/
abbrev prS (P : PrP) (sc : Int) (r : Int → Int) (K : Nat) : Int → Int × Int := fun w => pr_scan P sc r w K 0 (vNO, 0)
def pr_bd : Nat → Int
  | 0 => 0
  | t + 1 => 12 * pr_bd t + 1188 * 12 ^ t
theorem mul_pb {p b x y : Int} (hp : 0 ≤ p ∧ p ≤ 12) (hx : -b ≤ x ∧ x ≤ b) (hy : -b ≤ y ∧ y ≤ b) : -(12 * b) ≤ p * x + (12 - p) * y ∧ p * x + (12 - p) * y ≤ 12 * b := by
  have h1 : p * x ≤ p * b := Int.mul_le_mul_of_nonneg_left hx.2 hp.1
  have h2 : (12 - p) * y ≤ (12 - p) * b := Int.mul_le_mul_of_nonneg_left hy.2 (by omega)
  have h3 : p * (-b) ≤ p * x := Int.mul_le_mul_of_nonneg_left hx.1 hp.1
  have h4 : (12 - p) * (-b) ≤ (12 - p) * y := Int.mul_le_mul_of_nonneg_left hy.1 (by omega)
  have e : (12 - p) * b = 12 * b - p * b := Int.sub_mul 12 p b
  rw [Int.mul_neg] at h3 h4
  omega
theorem pr_scan_b {P : PrP} {sc b B : Int} {r : Int → Int} {w : Int} (hP : ∀ e, 0 ≤ pr_p P e ∧ pr_p P e ≤ 12) (hg : 0 ≤ P.2.2.2.2 ∧ P.2.2.2.2 ≤ 99) (hsc : 0 ≤ sc) (hB : B = 12 * b + 1188 * sc) (hr : ∀ u, 0 ≤ u → u < 13 → r u = vNO ∨ (-b ≤ r u ∧ r u ≤ b)) : ∀ (n : Nat) (k : Int) (s : Int × Int), 0 ≤ k → k + n ≤ 2366 → (s.1 = vNO ∨ (-B ≤ s.1 ∧ s.1 ≤ B)) → (pr_scan P sc r w n k s).1 = vNO ∨ (-B ≤ (pr_scan P sc r w n k s).1 ∧ (pr_scan P sc r w n k s).1 ≤ B)
  | 0, _, _, _, _, h => h
  | n + 1, k, s, h0, hn, h => by
    rw [pr_scan_s]
    refine pr_scan_b hP hg hsc hB hr n (k + 1) _ (by omega) (by omega) ?_
    unfold pr_st
    by_cases q : pr_ok P r w (k / 1183) (k / 169 % 7) (k / 13 % 13) (k % 13) = true ∧ s.1 < pr_v P sc r (k / 1183) (k / 169 % 7) (k / 13 % 13) (k % 13)
    · rw [if_pos q]
      right
      have ok := q.1
      unfold pr_ok at ok
      have ok := of_decide_eq_true ok
      have r1 := hr (k / 13 % 13) (by omega) (by omega)
      have r2 := hr (k % 13) (by omega) (by omega)
      have r1 : -b ≤ r (k / 13 % 13) ∧ r (k / 13 % 13) ≤ b := by rcases r1 with z | z; exact absurd z ok.1; exact z
      have r2 : -b ≤ r (k % 13) ∧ r (k % 13) ≤ b := by rcases r2 with z | z; exact absurd z ok.2.1; exact z
      have pp := hP (k / 1183)
      have m := mul_pb pp r1 r2
      have g := mul_b (a := pr_p P (k / 1183)) (A := 12) (b := P.2.2.2.2) (B := 99) pp hg
      have t := mul_s' (b := sc) (B := sc) (a := pr_p P (k / 1183) * P.2.2.2.2 - 12 * (k / 169 % 7)) (A := 1188) ⟨hsc, Int.le_refl _⟩ (by omega)
      show -B ≤ pr_v P sc r (k / 1183) (k / 169 % 7) (k / 13 % 13) (k % 13) ∧ pr_v P sc r (k / 1183) (k / 169 % 7) (k / 13 % 13) (k % 13) ≤ B
      unfold pr_v
      omega
    · rw [if_neg q]
      exact h
theorem pr_p_r {M : vM} (hB : PB M) (e : Int) : 0 ≤ pr_p (pr_P M) e ∧ pr_p (pr_P M) e ≤ 12 := by
  unfold pr_p pr_P
  split
  · exact hB.2.1 0 (by decide)
  · exact hB.2.1 1 (by decide)
theorem pr_row_b {M : vM} (hB : PB M) : ∀ (t : Nat) (w : Int), pr_row (pr_P M) t w = vNO ∨ (-(pr_bd t) ≤ pr_row (pr_P M) t w ∧ pr_row (pr_P M) t w ≤ pr_bd t)
  | 0, w => by
    rw [pr_row, pr_bd]
    split
    · right; omega
    · left; rfl
  | t + 1, w => by
    rw [pr_row]
    refine pr_scan_b (fun e => pr_p_r hB e) hB.2.2 (Int.le_of_lt (Int.pow_pos (by decide))) rfl (fun u _ _ => pr_row_b hB t u) 2366 0 _ (by omega) (by omega) (Or.inl rfl)
theorem pr_bd_5 : ∀ t : Fin 6, pr_bd t.val ≤ 200000000 ∧ (12 : Int) ^ t.val ≤ 248832 := by decide +kernel
theorem pr_RB {M : vM} (hB : PB M) {t : Nat} (ht : t ≤ 5) : RB (pr_row (pr_P M) t) := fun u _ _ => by
  have := (pr_bd_5 ⟨t, by omega⟩).1
  rcases pr_row_b hB t u with h | h
  · exact Or.inl h
  · right
    simp only at this
    omega
theorem pr_now {M : vM} (hB : PB M) {t : Nat} (ht : t ≤ 5) {e a : Nat} (he : e < 2) (ha : a < 7) : -300000000 ≤ (12 : Int) ^ t * (pr_p (pr_P M) e * (pr_P M).2.2.2.2 - 12 * a) ∧ (12 : Int) ^ t * (pr_p (pr_P M) e * (pr_P M).2.2.2.2 - 12 * a) ≤ 300000000 ∧ -1188 ≤ pr_p (pr_P M) e * (pr_P M).2.2.2.2 - 12 * a ∧ pr_p (pr_P M) e * (pr_P M).2.2.2.2 - 12 * a ≤ 1188 := by
  have b1 := (pr_bd_5 ⟨t, by omega⟩).2
  have b0 : (0 : Int) < 12 ^ t := Int.pow_pos (by decide)
  have g := mul_b (a := pr_p (pr_P M) e) (A := 12) (b := (pr_P M).2.2.2.2) (B := 99) (pr_p_r hB e) hB.2.2
  have t2 := mul_s' (b := (12 : Int) ^ t) (B := 248832) (a := pr_p (pr_P M) e * (pr_P M).2.2.2.2 - 12 * a) (A := 1188) ⟨by omega, b1⟩ (by omega)
  omega
theorem PT_next {M0 M : vM} {T K : Nat} {P : PrP} {sc : Int} {r : Int → Int} {e a u v : Nat} (ha : a < 7) (hu : u < 13) (hv : v < 13) (hK : K = e * 1183 + a * 169 + u * 13 + v) (h : PT M0 M T (fun w => pr_st P sc r w e a u v ((e * 1183 + a * 169 + u * 13 + v : Nat) : Int) (prS P sc r K w))) : PT M0 M T (prS P sc r (K + 1)) := by
  subst hK
  have : (fun w => pr_st P sc r w e a u v ((e * 1183 + a * 169 + u * 13 + v : Nat) : Int) (prS P sc r (e * 1183 + a * 169 + u * 13 + v) w)) = prS P sc r (e * 1183 + a * 169 + u * 13 + v + 1) := funext fun w => (pr_scan_next P sc r w ha hu hv).symm
  rw [this] at h
  exact h
theorem K_1 {K A u v : Nat} (hK : K = A + u * 13 + v) (hn : v + 0 = 13) : K = A + (u + 1) * 13 := by omega
theorem K_2 {K A v : Nat} (hK : K = A + v) : K + 1 = A + (v + 1) := by omega
theorem K_3 {K A a u : Nat} (hK : K = A + a * 169 + u * 13) (hn : u + 0 = 13) : K = A + (a + 1) * 169 := by omega
theorem K_4 {K A : Nat} (hK : K = A) : K = A + 0 := hK
theorem K_5 {K e a : Nat} (hK : K = e * 1183 + a * 169) (hn : a + 0 = 7) : K = (e + 1) * 1183 := by omega
theorem K_6 {K A c : Nat} (hK : K = A) : K = A + 0 * c := by rw [Nat.zero_mul]; exact hK
theorem K_8 {K e : Nat} (hK : K = e * 1183) (hn : e + 0 = 2) : K = 2366 := by omega
section PL
variable {X : vX} {d : Nat} {M : vM} {Q : Option vV → vM → Prop} {l0 l1 l2 l3 l4 l5 a0 a1 a2 : Int}
theorem LP_Pr_d {M0 : vM} {T : Nat} {sc : Int} {r : Int → Int} {now : Int} {e a u : Nat} (hT : T ≤ 5) (hB : PB M0) (hrow : ∀ u : Nat, u < 13 → M0 (34 + T) u = r u) (hr : RB r) (hnow : now = sc * (pr_p (pr_P M0) e * (pr_P M0).2.2.2.2 - 12 * a)) (hnb : -300000000 ≤ now ∧ now ≤ 300000000) (he : e < 2) (ha : a < 7) (hu : u < 13) :
    ∀ (n v K : Nat) (M : vM), v + n = 13 → K = e * 1183 + a * 169 + u * 13 + v → PT M0 M T (prS (pr_P M0) sc r K) → (∀ M1 l9 K, K = e * 1183 + a * 169 + (u + 1) * 13 → PT M0 M1 T (prS (pr_P M0) sc r K) → vw X (d + 5) 62 111 [vR 30, vI ((T + 1 : Nat) : Int), vL l2, vN, vI (e : Int), vI (a : Int), vL now, vN, vI (u : Int), vI l9] [] M1 Q) → vw X (d + 5) 62 83 [vR 30, vI ((T + 1 : Nat) : Int), vL l2, vN, vI (e : Int), vI (a : Int), vL now, vN, vI (u : Int), vI (v : Int)] [] M Q
  | 0, v, K, M, hn, hK, h, k => by
    exact B_Pr_learnTerm_83 (fun _ => k M _ K (K_1 hK hn) h) (fun h => by exfalso; omega)
  | n + 1, v, K, M, hn, hK, h, k => by
    refine B_Pr_learnTerm_83 (fun h => by exfalso; omega) (fun _ => B_Pr_learnTerm_90 (S_Pr_weigh hT hB h hrow hr hnow hnb he ha hu (show v < 13 by omega) (fun M1 h1 => B_Pr_learnTerm_105 ?_)))
    rw [w32_i (x := (v : Int) + 1) (by omega)]
    exact LP_Pr_d hT hB hrow hr hnow hnb he ha hu n (v + 1) (K + 1) M1 (by omega) (K_2 hK) (PT_next ha hu (by omega) hK h1) k
theorem LP_Pr_u {M0 : vM} {T : Nat} {sc : Int} {r : Int → Int} {now : Int} {e a : Nat} (hT : T ≤ 5) (hB : PB M0) (hrow : ∀ u : Nat, u < 13 → M0 (34 + T) u = r u) (hr : RB r) (hnow : now = sc * (pr_p (pr_P M0) e * (pr_P M0).2.2.2.2 - 12 * a)) (hnb : -300000000 ≤ now ∧ now ≤ 300000000) (he : e < 2) (ha : a < 7) :
    ∀ (n u K : Nat) (M : vM) (w9 : vV), u + n = 13 → K = e * 1183 + a * 169 + u * 13 → PT M0 M T (prS (pr_P M0) sc r K) → (∀ M1 l8 w9 K, K = e * 1183 + (a + 1) * 169 → PT M0 M1 T (prS (pr_P M0) sc r K) → vw X (d + 5) 62 117 [vR 30, vI ((T + 1 : Nat) : Int), vL l2, vN, vI (e : Int), vI (a : Int), vL now, vN, vI l8, w9] [] M1 Q) → vw X (d + 5) 62 73 [vR 30, vI ((T + 1 : Nat) : Int), vL l2, vN, vI (e : Int), vI (a : Int), vL now, vN, vI (u : Int), w9] [] M Q
  | 0, u, K, M, w9, hn, hK, h, k => by
    exact B_Pr_learnTerm_73 (fun _ => k M _ _ K (K_3 hK hn) h) (fun h => by exfalso; omega)
  | n + 1, u, K, M, w9, hn, hK, h, k => by
    refine B_Pr_learnTerm_73 (fun h => by exfalso; omega) (fun _ => B_Pr_learnTerm_80 (LP_Pr_d hT hB hrow hr hnow hnb he ha (show u < 13 by omega) 13 0 K M (by omega) (K_4 hK) h (fun M1 l9 K1 hK1 h1 => B_Pr_learnTerm_111 ?_)))
    rw [w32_i (x := (u : Int) + 1) (by omega)]
    exact LP_Pr_u hT hB hrow hr hnow hnb he ha n (u + 1) K1 M1 _ (by omega) hK1 h1 k
theorem LP_Pr_a {M0 : vM} {T : Nat} {r : Int → Int} {e : Nat} (hT : T ≤ 5) (hB : PB M0) (hrow : ∀ u : Nat, u < 13 → M0 (34 + T) u = r u) (hr : RB r) (he : e < 2) :
    ∀ (n a K : Nat) (M : vM) (w6 w8 w9 : vV), a + n = 7 → K = e * 1183 + a * 169 → PT M0 M T (prS (pr_P M0) (12 ^ T) r K) → (∀ M1 l5 w6 w8 w9 K, K = (e + 1) * 1183 → PT M0 M1 T (prS (pr_P M0) (12 ^ T) r K) → vw X (d + 5) 62 123 [vR 30, vI ((T + 1 : Nat) : Int), vL (12 ^ T), vN, vI (e : Int), vI l5, w6, vN, w8, w9] [] M1 Q) → vw X (d + 5) 62 40 [vR 30, vI ((T + 1 : Nat) : Int), vL (12 ^ T), vN, vI (e : Int), vI (a : Int), w6, vN, w8, w9] [] M Q
  | 0, a, K, M, w6, w8, w9, hn, hK, h, k => by
    exact B_Pr_learnTerm_40 (fun _ => k M _ _ _ _ K (K_5 hK hn) h) (fun h => by exfalso; omega)
  | n + 1, a, K, M, w6, w8, w9, hn, hK, h, k => by
    have nb := pr_now hB hT he (a := a) (by omega)
    have f : ∀ b j : Nat, b < 35 → M b j = M0 b j := fun b j hb => h.2.1 b j (by omega)
    have g := mul_b (a := pr_p (pr_P M0) e) (A := 12) (b := (pr_P M0).2.2.2.2) (B := 99) (pr_p_r hB e) hB.2.2
    have ep := (pr_ce M0 he).2
    have e4 : M0 30 4 = (pr_P M0).2.2.2.2 := rfl
    refine B_Pr_learnTerm_40 (fun h => by exfalso; omega) (fun _ => B_Pr_learnTerm_47 h.1 (by omega) ?_)
    rw [Int.toNat_natCast, f 32 e (by omega), f 30 4 (by omega), ← ep, e4, w32_i (x := pr_p (pr_P M0) e * (pr_P M0).2.2.2.2) (by omega), w32_i (x := 12 * (a : Int)) (by omega), w32_i (x := pr_p (pr_P M0) e * (pr_P M0).2.2.2.2 - 12 * (a : Int)) (by omega), w64_i (by omega)]
    refine LP_Pr_u hT hB hrow hr rfl ⟨nb.1, nb.2.1⟩ he (show a < 7 by omega) 13 0 K M _ (by omega) (K_6 hK) h (fun M1 l8 w9 K1 hK1 h1 => B_Pr_learnTerm_117 ?_)
    rw [w32_i (x := (a : Int) + 1) (by omega)]
    exact LP_Pr_a hT hB hrow hr he n (a + 1) K1 M1 _ _ _ (by omega) hK1 h1 k
theorem LP_Pr_e {M0 : vM} {T : Nat} {r : Int → Int} (hT : T ≤ 5) (hB : PB M0) (hrow : ∀ u : Nat, u < 13 → M0 (34 + T) u = r u) (hr : RB r) :
    ∀ (n e K : Nat) (M : vM) (w5 w6 w8 w9 : vV), e + n = 2 → K = e * 1183 → PT M0 M T (prS (pr_P M0) (12 ^ T) r K) → (∀ M1, PT M0 M1 T (prS (pr_P M0) (12 ^ T) r 2366) → Q none M1) → vw X (d + 5) 62 31 [vR 30, vI ((T + 1 : Nat) : Int), vL (12 ^ T), vN, vI (e : Int), w5, w6, vN, w8, w9] [] M Q
  | 0, e, K, M, w5, w6, w8, w9, hn, hK, h, k => by
    have : K = 2366 := K_8 hK hn
    subst this
    exact B_Pr_learnTerm_31 (fun _ => B_Pr_learnTerm_129 (k M h)) (fun h => by exfalso; omega)
  | n + 1, e, K, M, w5, w6, w8, w9, hn, hK, h, k => by
    refine B_Pr_learnTerm_31 (fun h => by exfalso; omega) (fun _ => B_Pr_learnTerm_37 (LP_Pr_a hT hB hrow hr (show e < 2 by omega) 7 0 K M _ _ _ (by omega) (K_6 hK) h (fun M1 l5 w6 w8 w9 K1 hK1 h1 => B_Pr_learnTerm_123 ?_)))
    rw [w32_i (x := (e : Int) + 1) (by omega)]
    exact LP_Pr_e hT hB hrow hr n (e + 1) K1 M1 _ _ _ _ (by omega) hK1 h1 k
theorem LP_Pr_no {T : Nat} (hT : T ≤ 5) : ∀ (n w : Nat) (M1 : vM), w + n = 13 → vRefs M1 → Fr (fun b _ => b = 34 + (T + 1) ∨ b = 42 + (T + 1)) M M1 → (∀ i : Nat, i < w → M1 (34 + (T + 1)) i = vNO) → (∀ M1, vRefs M1 → Fr (fun b _ => b = 34 + (T + 1) ∨ b = 42 + (T + 1)) M M1 → (∀ i : Nat, i < 13 → M1 (34 + (T + 1)) i = vNO) → vw X d 62 28 [vR 30, vI ((T + 1 : Nat) : Int), vL l2, vN, vI 13, vN, vN, vN, vN, vN] [] M1 Q) → vw X d 62 3 [vR 30, vI ((T + 1 : Nat) : Int), vL l2, vN, vI (w : Int), vN, vN, vN, vN, vN] [] M1 Q
  | 0, w, M1, hn, hR, f, h, k => by
    have : w = 13 := by omega
    subst this
    exact B_Pr_learnTerm_3 (fun _ => k M1 hR f h) (fun h => by exfalso; omega)
  | n + 1, w, M1, hn, hR, f, h, k => by
    refine B_Pr_learnTerm_3 (fun h => by exfalso; omega) (fun _ => B_Pr_learnTerm_10 hR (by omega) (by omega) (fun hR2 => ?_))
    simp only [Int.toNat_natCast] at hR2 ⊢
    rw [w32_i (x := (w : Int) + 1) (by omega)]
    refine LP_Pr_no hT n (w + 1) _ (by omega) hR2 (f.up (Or.inl rfl)) (fun i hi => ?_) k
    rw [vm_up_at]
    by_cases q : i = w
    · rw [if_pos q]
    · rw [if_neg q]; exact h i (by omega)
theorem S_Pr_learnTerm {T : Nat} {r : Int → Int} (hT : T ≤ 5) (hR : vRefs M) (hB : PB M) (hrow : ∀ u : Nat, u < 13 → M (34 + T) u = r u) (hr : RB r) (k : ∀ M1, PT M M1 T (prS (pr_P M) (12 ^ T) r 2366) → Q none M1) : cq X (d + 6) 62 [vR 30, vI ((T + 1 : Nat) : Int), vL (12 ^ T)] M Q := by
  refine E_Pr_learnTerm (B_Pr_learnTerm_0 (LP_Pr_no (M := M) hT 13 0 M (by omega) hR Fr.refl (fun i hi => by omega) (fun M1 hR1 f h => B_Pr_learnTerm_28 ?_)))
  refine LP_Pr_e hT hB hrow hr 2 0 0 M1 _ _ _ _ (by omega) (by omega) ⟨hR1, f, fun w hw => ⟨h w hw, fun q => absurd rfl q⟩⟩ k
/-- the table, T terms of it -/
def LT (M M1 : vM) (T : Nat) : Prop := vRefs M1 ∧ Fr (fun b j => (34 ≤ b ∧ b ≤ 40) ∨ (42 ≤ b ∧ b ≤ 48)) M M1 ∧ ∀ t w : Nat, t ≤ T → w < 13 → M1 (34 + t) w = pr_row (pr_P M) t w ∧ (1 ≤ t → pr_row (pr_P M) t w ≠ vNO → ∀ i : Nat, i < 4 → M1 (42 + t) (4 * w + i) = pr_dig (pr_plan (pr_P M) t w) i)
theorem pr_P_fr {M M1 : vM} (f : ∀ b j : Nat, 30 ≤ b → b ≤ 32 → M1 b j = M b j) : pr_P M1 = pr_P M := by
  unfold pr_P
  rw [f 31 0 (by omega) (by omega), f 31 1 (by omega) (by omega), f 32 0 (by omega) (by omega), f 32 1 (by omega) (by omega), f 30 4 (by omega) (by omega)]
theorem PB_fr {M M1 : vM} (f : ∀ b j : Nat, 30 ≤ b → b ≤ 32 → M1 b j = M b j) (h : PB M) : PB M1 := by
  unfold PB
  rw [f 30 4 (by omega) (by omega)]
  exact ⟨fun e he => by rw [f 31 e (by omega) (by omega)]; exact h.1 e he, fun e he => by rw [f 32 e (by omega) (by omega)]; exact h.2.1 e he, h.2.2⟩
theorem LP_Pr_learn (hB : PB M) : ∀ (n T : Nat) (M1 : vM), T + n = 6 → LT M M1 T → (∀ M1, LT M M1 6 → vRefs (vm_up M1 30 5 1) → Q none (vm_up M1 30 5 1)) → vw X (d + 6) 61 45 [vR 30, vL (12 ^ T), vN, vI ((T + 1 : Nat) : Int)] [] M1 Q
  | 0, T, M1, hn, h, k => by
    have : T = 6 := by omega
    subst this
    exact B_Pr_learn_45 (fun _ => B_Pr_learn_69 h.1 (k M1 h)) (fun h => by exfalso; omega)
  | n + 1, T, M1, hn, h, k => by
    obtain ⟨hR, f, h3⟩ := h
    have f3 : ∀ b j : Nat, 30 ≤ b → b ≤ 32 → M1 b j = M b j := fun b j h1 h2 => f b j (by omega)
    have eP := pr_P_fr f3
    have b1 := (pr_bd_5 ⟨T, by omega⟩).2
    have b0 : (0 : Int) < 12 ^ T := Int.pow_pos (by decide)
    simp only at b1
    refine B_Pr_learn_45 (fun h => by exfalso; omega) (fun _ => B_Pr_learn_51 (S_Pr_learnTerm (r := pr_row (pr_P M) T) (by omega) hR (PB_fr f3 hB) (fun u hu => (h3 T u (by omega) hu).1) (pr_RB hB (by omega)) (fun M2 h2 => B_Pr_learn_57 ?_)))
    rw [w64_i (x := 12 ^ T * 12) (by omega), w32_i (x := ((T + 1 : Nat) : Int) + 1) (by omega), ← Int.pow_succ]
    refine LP_Pr_learn hB n (T + 1) M2 (by omega) ⟨h2.1, f.trans (h2.2.1.mono (fun b j q => by omega)), fun t w ht hw => ?_⟩ k
    by_cases q : t = T + 1
    · subst q
      rw [eP] at h2
      exact ⟨(h2.2.2 w hw).1, fun _ hne i hi => (h2.2.2 w hw).2 hne i hi⟩
    · rw [h2.2.1 (34 + t) w (by omega)]
      refine ⟨(h3 t w (by omega) hw).1, fun h1 hne i hi => ?_⟩
      rw [h2.2.1 (42 + t) _ (by omega)]
      exact (h3 t w (by omega) hw).2 h1 hne i hi
theorem LP_Pr_row0 : ∀ (n w : Nat) (M1 : vM), w + n = 13 → vRefs M1 → Fr (fun b _ => b = 34) M M1 → (∀ i : Nat, i < w → M1 34 i = pr_row (pr_P M) 0 i) → (∀ M1, vRefs M1 → Fr (fun b _ => b = 34) M M1 → (∀ i : Nat, i < 13 → M1 34 i = pr_row (pr_P M) 0 i) → vw X d 61 41 [vR 30, vI 13, vN, vN] [] M1 Q) → vw X d 61 10 [vR 30, vI (w : Int), vN, vN] [] M1 Q
  | 0, w, M1, hn, hR, f, h, k => by
    have : w = 13 := by omega
    subst this
    exact B_Pr_learn_10 (fun _ => k M1 hR f h) (fun h => by exfalso; omega)
  | n + 1, w, M1, hn, hR, f, h, k => by
    refine B_Pr_learn_10 (fun h => by exfalso; omega) (fun _ => B_Pr_learn_16 hR (fun hw => B_Pr_learn_31 (qs0 := 34) rfl ⟨by decide, by decide⟩ hR (by omega) (fun hR2 => ?_)) (fun hw => B_Pr_learn_27 (qs0 := 34) rfl ⟨by decide, by decide⟩ hR (by omega) (fun hR2 => ?_)))
    all_goals
      rw [Int.toNat_natCast] at hR2 ⊢
      rw [w32_i (x := (w : Int) + 1) (by omega)]
      refine LP_Pr_row0 n (w + 1) _ (by omega) hR2 (f.up rfl) (fun i hi => ?_) k
      rw [vm_up_at]
      by_cases q : i = w
      · subst q
        rw [if_pos rfl, pr_row]
        first | rw [if_neg (by omega)] | rw [if_pos (by omega)]
      · rw [if_neg q]; exact h i (by omega)
theorem RP_PB (hr : Rel M) : PB M := ⟨fun e he => (hr.2.2.2.1.1 e he).2, fun e he => (hr.2.2.2.1.2.1 e he).2, hr.2.2.2.1.2.2.2.1⟩
theorem S_Pr_learn (hr : Rel M) (k : ∀ M1, Rel M1 → PK M1 → pr_P M1 = pr_P M → Q none M1) : cq X (d + 7) 61 [vR 30] M Q := by
  have hP := hr.2.2.2.1
  have hB := RP_PB hr
  by_cases hk : M 30 5 = 0
  · refine E_Pr_learn (B_Pr_learn_0 (fun _ => B_Pr_learn_8 (LP_Pr_row0 (M := M) 13 0 M (by omega) hr.1 Fr.refl (fun i hi => by omega) (fun M1 hR1 f h => B_Pr_learn_41 ?_))) (fun h => absurd hk h))
    refine LP_Pr_learn hB 6 0 M1 (by omega) ⟨hR1, f.mono (fun b j q => by omega), fun t w ht hw => ?_⟩ (fun M2 h2 hR2 => ?_)
    · have : t = 0 := by omega
      subst this
      exact ⟨h w hw, fun q => absurd q (by decide)⟩
    · have f2 := h2.2.1
      have f3 : ∀ b j : Nat, 30 ≤ b → b ≤ 32 → ¬ (b = 30 ∧ j = 5) → vm_up M2 30 5 1 b j = M b j := fun b j q1 q2 q3 => by
        unfold vm_up
        rw [if_neg q3]
        exact f2 b j (by omega)
      have eP : pr_P (vm_up M2 30 5 1) = pr_P M := by
        unfold pr_P
        rw [f3 31 0 (by omega) (by omega) (by omega), f3 31 1 (by omega) (by omega) (by omega), f3 32 0 (by omega) (by omega) (by omega), f3 32 1 (by omega) (by omega) (by omega), f3 30 4 (by omega) (by omega) (by omega)]
      have hPK : PK (vm_up M2 30 5 1) := fun t w ht hw => by
        rw [eP, vm_up_o (by omega), vm_up_o (by omega)]
        exact h2.2.2 t w (by omega) hw
      refine k _ (Rel_P ((f2.mono (fun b j q => by unfold sP; omega)).up (by unfold sP; omega)) hr ?_) hPK eP
      obtain ⟨q1, q2, q3, q4, q5, q6⟩ := hP
      refine ⟨fun e he => ?_, fun e he => ?_, ?_, ?_, Or.inr vm_up_s, fun _ => hPK⟩
      · rw [vm_up_o (by omega), vm_up_o (by omega), f2 98 e (by omega), f2 31 e (by omega)]; exact q1 e he
      · rw [vm_up_o (by omega), vm_up_o (by omega), f2 99 e (by omega), f2 32 e (by omega)]; exact q2 e he
      · rw [vm_up_o (by omega), vm_up_k (by omega), f2 81 28 (by omega), f2 30 4 (by omega)]; exact q3
      · rw [vm_up_k (by omega), f2 30 4 (by omega)]; exact q4
  · refine E_Pr_learn (B_Pr_learn_0 (fun h => absurd h hk) (fun _ => B_Pr_learn_7 (k M hr (hP.2.2.2.2.2 ?_) rfl)))
    rcases hP.2.2.2.2.1 with q | q
    · exact absurd q hk
    · exact q
end PL
