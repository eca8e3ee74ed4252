/-! YEARS -/
theorem RY_of {M M2 : vM} {n : Nat} {L v1 v2 v3 v4 v5 v6 : Int} (h : RY M) (hn : M 70 6 = (n : Int)) (h60 : n < 60) (e0 : M2 1 0 = M 1 0) (e1 : M2 70 6 = (n : Int) + 1) (e2 : M2 81 49 = (n : Int) + 1) (e3 : M2 70 7 = L) (e4 : M2 81 48 = L) (hL : 0 ≤ L ∧ L ≤ 65536)
    (c1 : ∀ y : Nat, M2 71 y = if y = n then v1 else M 71 y) (d1 : ∀ y : Nat, M2 112 y = if y = n then v1 else M 112 y) (r1 : 0 ≤ v1 ∧ v1 < 4)
    (c2 : ∀ y : Nat, M2 72 y = if y = n then v2 else M 72 y) (d2 : ∀ y : Nat, M2 113 y = if y = n then v2 else M 113 y) (r2 : -1 ≤ v2 ∧ v2 < M 1 0)
    (c3 : ∀ y : Nat, M2 73 y = if y = n then v3 else M 73 y) (d3 : ∀ y : Nat, M2 114 y = if y = n then v3 else M 114 y) (r3 : 0 ≤ v3 ∧ v3 ≤ 999)
    (c4 : ∀ y : Nat, M2 74 y = if y = n then v4 else M 74 y) (d4 : ∀ y : Nat, M2 115 y = if y = n then v4 else M 115 y) (r4 : -99 ≤ v4 ∧ v4 ≤ 99)
    (c5 : ∀ y : Nat, M2 75 y = if y = n then v5 else M 75 y) (d5 : ∀ y : Nat, M2 116 y = if y = n then v5 else M 116 y) (r5 : 0 ≤ v5 ∧ v5 ≤ 65536)
    (c6 : ∀ y : Nat, M2 76 y = if y = n then v6 else M 76 y) (d6 : ∀ y : Nat, M2 117 y = if y = n then v6 else M 117 y) (r6 : 0 ≤ v6 ∧ v6 ≤ 65536) : RY M2 := by
  obtain ⟨q1, q2, q3, q4, q5⟩ := h
  refine ⟨by rw [e1]; omega, by rw [e1, e2], by rw [e3]; exact hL, by rw [e3, e4], fun y hy hy2 => ?_⟩
  rw [e1] at hy2
  rw [c1, d1, c2, d2, c3, d3, c4, d4, c5, d5, c6, d6, e0]
  by_cases e : y = n
  · simp only [if_pos e]
    exact ⟨⟨trivial, r1⟩, ⟨trivial, r2⟩, ⟨trivial, r3⟩, ⟨trivial, r4⟩, ⟨trivial, r5⟩, trivial, r6⟩
  · simp only [if_neg e]
    exact q5 y hy (by omega)
def lk (M : vM) (a w : Int) : Nat → Nat → Int → Int
  | 0, _, p => p
  | n + 1, y, p => lk M a w n (y + 1) (if M 72 y = -1 then p else p * a_ch M a w (M 72 y))
def lk_of (M : vM) (a w n : Int) : Int := lk M a w n.toNat (M 70 6 - n).toNat 1
def lk_b (n : Nat) (p : Int) : Prop := 0 ≤ p ∧ p * 12 ^ n ≤ 184884258895036416
theorem lk_b_le {n : Nat} {p : Int} (h : lk_b n p) : 0 ≤ p ∧ p ≤ 184884258895036416 := by
  have h1 : (0 : Int) < 12 ^ n := Int.pow_pos (by decide)
  have h1 : (1 : Int) ≤ 12 ^ n := by omega
  have h2 := Int.mul_le_mul_of_nonneg_left h1 h.1
  have := h.2
  have := h.1
  omega
theorem lk_b_s {n : Nat} {p c : Int} (h : lk_b (n + 1) p) (hc : 0 ≤ c ∧ c ≤ 12) : lk_b n (p * c) := by
  refine ⟨Int.mul_nonneg h.1 hc.1, ?_⟩
  have h1 : (0 : Int) ≤ 12 ^ n := Int.le_of_lt (Int.pow_pos (by decide))
  have h2 : p * c * 12 ^ n ≤ p * 12 * 12 ^ n := Int.mul_le_mul_of_nonneg_right (Int.mul_le_mul_of_nonneg_left hc.2 h.1) h1
  have h3 := h.2
  rw [Int.pow_succ, Int.mul_comm (12 ^ n) 12, ← Int.mul_assoc] at h3
  omega
theorem lk_b_1 {n : Nat} (h : n ≤ 16) : lk_b n 1 := by
  refine ⟨by decide, ?_⟩
  rw [Int.one_mul]
  exact (by decide : ∀ k : Fin 17, (12 : Int) ^ k.val ≤ 184884258895036416) ⟨n, by omega⟩
theorem lk_b_d {n : Nat} {p : Int} (h : lk_b (n + 1) p) : lk_b n p := by
  have := lk_b_s (c := 1) h (by omega)
  rwa [Int.mul_one] at this
section YR
variable {X : vX} {d : Nat} {M : vM} {Q : Option vV → vM → Prop} {l0 l1 l2 l3 l4 l5 a0 a1 a2 : Int}
theorem lk_r (hr : Rel M) {a w : Int} (ha : 0 ≤ a ∧ a < 4) (hw : 0 ≤ w ∧ w < 2) : ∀ (n y : Nat) (p : Int), (y : Int) + n ≤ M 70 6 → lk_b n p → 0 ≤ lk M a w n y p ∧ lk M a w n y p ≤ 184884258895036416
  | 0, y, p, _, h => lk_b_le h
  | n + 1, y, p, hn, h => by
    have hY := hr.2.2.2.2.2.2.2.1
    have hs := hr.2.1.1
    have hy := (hY.2.2.2.2 y (by have := hY.1; omega) (by omega)).2.1
    rw [lk]
    refine lk_r hr ha hw n (y + 1) _ (by omega) ?_
    by_cases e : M 72 y = -1
    · rw [if_pos e]; exact lk_b_d h
    · rw [if_neg e]
      exact lk_b_s h (a_ch_r hr.2.1 ha hw (by omega)).2
theorem S_Ye_howMany (k : Q (some (vI (M 70 6))) M) : cq X (d + 1) 117 [vR 70] M Q := E_Ye_howMany (B_Ye_howMany_0 k)
theorem LP_X_likely (hr : Rel M) (ha : 0 ≤ l1 ∧ l1 < 4) (hw : 0 ≤ l2 ∧ l2 < 2) : ∀ (n y : Nat) (p : Int) (w7 : vV), (y : Int) + n = M 70 6 → lk_b n p → Q (some (vL (lk M l1 l2 n y p))) M → vw X (d + 2) 168 47 [vR 0, vI l1, vI l2, vI l3, vL p, vN, vI (y : Int), w7] [] M Q
  | 0, y, p, w7, hn, hb, k => by
    refine B_X_likely_47 hr.1 ?_
    refine S_Ye_howMany ?_
    exact B_X_likely_56 (fun _ => B_X_likely_106 k) (fun h => by exfalso; omega)
  | n + 1, y, p, w7, hn, hb, k => by
    have hY := hr.2.2.2.2.2.2.2.1
    have hs := hr.2.1.1
    have h60 := hY.1
    have hy := (hY.2.2.2.2 y (by omega) (by omega)).2.1
    have pb := lk_b_le hb
    rw [lk] at k
    refine B_X_likely_47 hr.1 ?_
    refine S_Ye_howMany ?_
    refine B_X_likely_56 (fun h => by exfalso; omega) (fun _ => ?_)
    refine B_X_likely_59 hr.1 ?_
    refine E_Ye_told ?_
    refine B_Ye_told_0 (fun h => by exfalso; omega) (fun h => by exfalso; omega) (fun _ => ?_) (fun h => by exfalso; omega) (fun h => by exfalso; omega) (fun h => by exfalso; omega)
    refine B_Ye_told_43 hr.1 (by omega) ?_
    refine B_X_likely_69 hr.1 ?_
    refine S_isSight ?_
    rw [Int.toNat_natCast]
    by_cases e : M 72 y = -1
    · rw [if_pos e] at k
      refine B_X_likely_80 (fun _ => ?_) (fun h => absurd (if_neg (by omega)) h)
      refine B_X_likely_100 ?_
      rw [w32_i (x := (y : Int) + 1) (by omega)]
      exact LP_X_likely hr ha hw n (y + 1) p _ (by omega) (lk_b_d hb) k
    · rw [if_neg e] at k
      have c := a_ch_r hr.2.1 ha hw (s := M 72 y) (by omega)
      have pb2 := lk_b_le (lk_b_s hb c.2)
      refine B_X_likely_80 (fun h => by rw [if_pos (by omega)] at h; omega) (fun _ => ?_)
      refine B_X_likely_83 hr.1 ?_
      refine S_Ac_chanceAt hr.1 ha hw (by omega) ?_
      refine B_X_likely_96 ?_
      rw [w32_i (x := (y : Int) + 1) (by omega), w64_i (x := p * a_ch M l1 l2 (M 72 y)) (by omega)]
      exact LP_X_likely hr ha hw n (y + 1) _ _ (by omega) (lk_b_s hb c.2) k
def lk_ok (M : vM) (a w n : Int) : Prop := (0 ≤ a ∧ a < M 1 4) ∧ (0 ≤ w ∧ w ≤ 1) ∧ (1 ≤ n ∧ n ≤ 16) ∧ n ≤ M 70 6
theorem S_X_likely {p : Prop} [Decidable p] (hp : p ↔ lk_ok M l1 l2 l3) (hr : Rel M) (k : Q (some (vL (if p then lk_of M l1 l2 l3 else -9223372036854775808))) M) : cq X (d + 5) 168 [vR 0, vI l1, vI l2, vI l3] M Q := by
  have h4 := hr.2.1.2.2.1
  have hY := hr.2.2.2.2.2.2.2.1.1
  by_cases h0 : 0 ≤ l1 ∧ l1 < M 1 4
  · by_cases h1 : 0 ≤ l2 ∧ l2 ≤ 1
    · by_cases h2 : 1 ≤ l3 ∧ l3 ≤ 16
      · refine E_X_likely ?_
        refine B_X_likely_0 hr.1 ?_
        refine S_isAct ?_
        refine B_X_likely_8 (fun h => by rw [if_pos h0] at h; omega) (fun _ => ?_)
        refine B_X_likely_11 ?_
        refine S_isWorld ?_
        refine B_X_likely_15 (fun h => by rw [if_pos h1] at h; omega) (fun _ => ?_)
        refine B_X_likely_18 hr.1 ?_
        refine E_Ye_areLatest ?_
        refine B_Ye_areLatest_0 ?_
        refine S_within ?_
        refine B_Ye_areLatest_7 (fun h => by rw [if_pos h2] at h; omega) (fun _ => ?_)
        by_cases h3 : l3 ≤ M 70 6
        · rw [if_pos (hp.mpr ⟨h0, h1, h2, h3⟩)] at k
          refine B_Ye_areLatest_10 (fun h => by exfalso; omega) (fun _ => ?_)
          refine B_Ye_areLatest_18 ?_
          refine B_X_likely_26 (fun _ => ?_) (fun h => by exfalso; omega)
          refine B_X_likely_33 hr.1 ?_
          refine S_Ye_howMany ?_
          refine B_X_likely_43 ?_
          rw [w32_i (x := M 70 6 - l3) (by omega), show M 70 6 - l3 = (((M 70 6 - l3).toNat : Nat) : Int) by omega]
          exact LP_X_likely hr (by omega) (by omega) l3.toNat _ 1 _ (by omega) (lk_b_1 (by omega)) k
        · rw [if_neg (fun q => h3 (hp.mp q).2.2.2)] at k
          refine B_Ye_areLatest_10 (fun _ => ?_) (fun h => by exfalso; omega)
          refine B_Ye_areLatest_22 ?_
          refine B_X_likely_26 (fun h => absurd rfl h) (fun _ => ?_)
          refine B_X_likely_29 ?_
          exact k
      · rw [if_neg (fun q => h2 (hp.mp q).2.2.1)] at k
        refine E_X_likely ?_
        refine B_X_likely_0 hr.1 ?_
        refine S_isAct ?_
        refine B_X_likely_8 (fun h => by rw [if_pos h0] at h; omega) (fun _ => ?_)
        refine B_X_likely_11 ?_
        refine S_isWorld ?_
        refine B_X_likely_15 (fun h => by rw [if_pos h1] at h; omega) (fun _ => ?_)
        refine B_X_likely_18 hr.1 ?_
        refine E_Ye_areLatest ?_
        refine B_Ye_areLatest_0 ?_
        refine S_within ?_
        refine B_Ye_areLatest_7 (fun _ => ?_) (fun h => absurd (if_neg h2) h)
        refine B_Ye_areLatest_22 ?_
        refine B_X_likely_26 (fun h => absurd rfl h) (fun _ => ?_)
        refine B_X_likely_29 ?_
        exact k
    · rw [if_neg (fun q => h1 (hp.mp q).2.1)] at k
      refine E_X_likely ?_
      refine B_X_likely_0 hr.1 ?_
      refine S_isAct ?_
      refine B_X_likely_8 (fun h => by rw [if_pos h0] at h; omega) (fun _ => ?_)
      refine B_X_likely_11 ?_
      refine S_isWorld ?_
      refine B_X_likely_15 (fun _ => ?_) (fun h => absurd (if_neg h1) h)
      refine B_X_likely_29 ?_
      exact k
  · rw [if_neg (fun q => h0 (hp.mp q).1)] at k
    refine E_X_likely ?_
    refine B_X_likely_0 hr.1 ?_
    refine S_isAct ?_
    refine B_X_likely_8 (fun _ => ?_) (fun h => absurd (if_neg h0) h)
    refine B_X_likely_29 ?_
    exact k
theorem LP_R_likelyOf (hr : Rel M) (ha : 0 ≤ l1 ∧ l1 < 4) (hw : 0 ≤ l2 ∧ l2 < 2) : ∀ (n y : Nat) (p : Int), (y : Int) + n = M 70 6 → lk_b n p → Q (some (vL (lk M l1 l2 n y p))) M → vw X (d + 1) 271 11 [vR 81, vI l1, vI l2, vI l3, vL p, vN, vI (y : Int)] [] M Q
  | 0, y, p, hn, hb, k => by
    have e := hr.2.2.2.2.2.2.2.1.2.1
    exact B_R_likelyOf_11 (fun _ => B_R_likelyOf_60 k) (fun h => by exfalso; omega)
  | n + 1, y, p, hn, hb, k => by
    have hY := hr.2.2.2.2.2.2.2.1
    have e := hY.2.1
    have hs := hr.2.1.1
    have h60 := hY.1
    have hy := (hY.2.2.2.2 y (by omega) (by omega)).2.1
    have pb := lk_b_le hb
    rw [lk] at k
    refine B_R_likelyOf_11 (fun h => by exfalso; omega) (fun _ => B_R_likelyOf_20 hr.1 (by omega) (fun h => ?_) (fun h => ?_))
    · rw [Int.toNat_natCast, hy.1] at h
      rw [if_neg h] at k
      have c := a_ch_r hr.2.1 ha hw (s := M 72 y) (by omega)
      have pb2 := lk_b_le (lk_b_s hb c.2)
      refine B_R_likelyOf_37 hr.1 (by omega) ?_
      rw [Int.toNat_natCast, hy.1]
      refine S_R_chance hr.1 ha (by omega) (by omega) ?_
      refine B_R_likelyOf_50 ?_
      rw [w32_i (x := (y : Int) + 1) (by omega), c.1, w64_i (x := p * a_ch M l1 l2 (M 72 y)) (by omega)]
      exact LP_R_likelyOf hr ha hw n (y + 1) _ (by omega) (lk_b_s hb c.2) k
    · rw [Int.toNat_natCast, hy.1] at h
      rw [if_pos h] at k
      refine B_R_likelyOf_33 ?_
      rw [w32_i (x := (y : Int) + 1) (by omega), Int.mul_one, w64_i (x := p) (by omega)]
      exact LP_R_likelyOf hr ha hw n (y + 1) p (by omega) (lk_b_d hb) k
theorem S_R_likelyOf (hr : Rel M) (ha : 0 ≤ l1 ∧ l1 < 4) (hw : 0 ≤ l2 ∧ l2 < 2) (hn : 1 ≤ l3 ∧ l3 ≤ 16) (hn2 : l3 ≤ M 70 6) (k : Q (some (vL (lk_of M l1 l2 l3))) M) : cq X (d + 2) 271 [vR 81, vI l1, vI l2, vI l3] M Q := by
  have hY := hr.2.2.2.2.2.2.2.1
  have e := hY.2.1
  have h60 := hY.1
  refine E_R_likelyOf (B_R_likelyOf_0 ?_)
  rw [e, w32_i (x := M 70 6 - l3) (by omega), show M 70 6 - l3 = (((M 70 6 - l3).toNat : Nat) : Int) by omega]
  exact LP_R_likelyOf hr ha hw l3.toNat _ 1 (by omega) (lk_b_1 (by omega)) k
theorem op_likely (hr : Rel M) : cq X (d + 40) 168 [vR 0, vI a0, vI a1, vI a2] M (fun v M1 => cq X (d + 40) 272 [vR 81, vI a0, vI a1, vI a2] M1 (fun v2 M2 => v2 = v ∧ Rel M2)) := by
  haveI dc : Decidable (lk_ok M a0 a1 a2) := Classical.propDecidable _
  have h4 := hr.2.1.2.2.1
  have e := hr.2.2.2.2.2.2.2.1.2.1
  refine S_X_likely Iff.rfl hr ?_
  by_cases h0 : 0 ≤ a0 ∧ a0 < M 1 4
  · by_cases h1 : 0 ≤ a1 ∧ a1 ≤ 1
    · by_cases h2 : 1 ≤ a2 ∧ a2 ≤ 16
      · refine E_R_likely ?_
        refine B_R_likely_0 ?_
        refine S_R_isAct hr ?_
        refine B_R_likely_5 (fun h => by rw [if_pos h0] at h; omega) (fun _ => ?_)
        refine B_R_likely_8 ?_
        refine S_R_isWorld ?_
        refine B_R_likely_12 (fun h => by rw [if_pos h1] at h; omega) (fun _ => ?_)
        refine B_R_likely_15 ?_
        refine S_R_in ?_
        refine B_R_likely_24 (fun h => by rw [if_pos h2] at h; omega) (fun _ => ?_)
        by_cases h3 : a2 ≤ M 70 6
        · rw [if_pos ⟨h0, h1, h2, h3⟩]
          refine B_R_likely_27 (fun h => by exfalso; omega) (fun _ => ?_)
          refine B_R_likely_35 ?_
          refine S_R_likelyOf hr (by omega) (by omega) h2 h3 ?_
          refine B_R_likely_42 ?_
          exact ⟨rfl, hr⟩
        · rw [if_neg (fun q => h3 q.2.2.2)]
          refine B_R_likely_27 (fun _ => ?_) (fun h => by exfalso; omega)
          refine B_R_likely_45 ?_
          exact ⟨rfl, hr⟩
      · rw [if_neg (fun q => h2 q.2.2.1)]
        refine E_R_likely ?_
        refine B_R_likely_0 ?_
        refine S_R_isAct hr ?_
        refine B_R_likely_5 (fun h => by rw [if_pos h0] at h; omega) (fun _ => ?_)
        refine B_R_likely_8 ?_
        refine S_R_isWorld ?_
        refine B_R_likely_12 (fun h => by rw [if_pos h1] at h; omega) (fun _ => ?_)
        refine B_R_likely_15 ?_
        refine S_R_in ?_
        refine B_R_likely_24 (fun _ => ?_) (fun h => absurd (if_neg h2) h)
        refine B_R_likely_45 ?_
        exact ⟨rfl, hr⟩
    · rw [if_neg (fun q => h1 q.2.1)]
      refine E_R_likely ?_
      refine B_R_likely_0 ?_
      refine S_R_isAct hr ?_
      refine B_R_likely_5 (fun h => by rw [if_pos h0] at h; omega) (fun _ => ?_)
      refine B_R_likely_8 ?_
      refine S_R_isWorld ?_
      refine B_R_likely_12 (fun _ => ?_) (fun h => absurd (if_neg h1) h)
      refine B_R_likely_45 ?_
      exact ⟨rfl, hr⟩
  · rw [if_neg (fun q => h0 q.1)]
    refine E_R_likely ?_
    refine B_R_likely_0 ?_
    refine S_R_isAct hr ?_
    refine B_R_likely_5 (fun _ => ?_) (fun h => absurd (if_neg h0) h)
    refine B_R_likely_45 ?_
    exact ⟨rfl, hr⟩
/-- the act that is most likely -/
def sp (M : vM) (w n : Int) : Nat → Int → Int → Int
  | 0, _, b => b
  | k + 1, a, b => sp M w n k (a + 1) (if lk_of M b w n < lk_of M a w n then a else b)
theorem lk_of_r (hr : Rel M) {a w n : Int} (h : lk_ok M a w n) : 0 ≤ lk_of M a w n ∧ lk_of M a w n ≤ 184884258895036416 := by
  obtain ⟨h0, h1, h2, h3⟩ := h
  have h4 := hr.2.1.2.2.1
  exact lk_r hr (by omega) (by omega) _ _ _ (by omega) (lk_b_1 (by omega))
theorem LP_X_suspect_n (hr : Rel M) (h : ∀ a, ¬ lk_ok M a l1 l2) : ∀ (n : Nat) (a : Int) (w7 : vV), 0 ≤ a → a + n = M 1 4 → Q (some (vI (-1))) M → vw X (d + 5) 169 10 [vR 0, vI l1, vI l2, vI (-1), vL (-9223372036854775808), vN, vI a, w7, vN] [] M Q
  | 0, a, w7, h0, hn, k => by
    refine B_X_suspect_10 hr.1 ?_
    refine E_Ac_howMany ?_
    refine B_Ac_howMany_0 ?_
    exact B_X_suspect_19 (fun _ => B_X_suspect_53 k) (fun h => by exfalso; omega)
  | n + 1, a, w7, h0, hn, k => by
    have h4 := hr.2.1.2.2.1
    haveI dc : Decidable (lk_ok M a l1 l2) := Classical.propDecidable _
    refine B_X_suspect_10 hr.1 ?_
    refine E_Ac_howMany ?_
    refine B_Ac_howMany_0 ?_
    refine B_X_suspect_19 (fun h => by exfalso; omega) (fun _ => ?_)
    refine B_X_suspect_22 ?_
    refine S_X_likely Iff.rfl hr ?_
    rw [if_neg (h a)]
    refine B_X_suspect_30 (fun _ => B_X_suspect_47 ?_) (fun h => absurd h (by decide))
    rw [w32_i (x := a + 1) (by omega)]
    exact LP_X_suspect_n hr h n (a + 1) _ (by omega) (by omega) k
theorem LP_X_suspect (hr : Rel M) (h1 : 0 ≤ l1 ∧ l1 ≤ 1) (h2 : 1 ≤ l2 ∧ l2 ≤ 16) (h3 : l2 ≤ M 70 6) : ∀ (n : Nat) (a b : Int) (w7 : vV), 0 ≤ b → b < a → a + n = M 1 4 → Q (some (vI (sp M l1 l2 n a b))) M → vw X (d + 5) 169 10 [vR 0, vI l1, vI l2, vI b, vL (lk_of M b l1 l2), vN, vI a, w7, vN] [] M Q
  | 0, a, b, w7, hb, h0, hn, k => by
    refine B_X_suspect_10 hr.1 ?_
    refine E_Ac_howMany ?_
    refine B_Ac_howMany_0 ?_
    exact B_X_suspect_19 (fun _ => B_X_suspect_53 k) (fun h => by exfalso; omega)
  | n + 1, a, b, w7, hb, h0, hn, k => by
    have h4 := hr.2.1.2.2.1
    haveI dc : Decidable (lk_ok M a l1 l2) := Classical.propDecidable _
    rw [sp] at k
    refine B_X_suspect_10 hr.1 ?_
    refine E_Ac_howMany ?_
    refine B_Ac_howMany_0 ?_
    refine B_X_suspect_19 (fun h => by exfalso; omega) (fun _ => ?_)
    refine B_X_suspect_22 ?_
    refine S_X_likely Iff.rfl hr ?_
    rw [if_pos (show lk_ok M a l1 l2 from ⟨by omega, h1, h2, h3⟩)]
    refine B_X_suspect_30 (fun hq => B_X_suspect_47 ?_) (fun hq => B_X_suspect_40 ?_)
    · rw [w32_i (x := a + 1) (by omega)]
      rw [if_neg (by omega)] at k
      exact LP_X_suspect hr h1 h2 h3 n (a + 1) b _ hb (by omega) (by omega) k
    · rw [w32_i (x := a + 1) (by omega)]
      rw [if_pos hq] at k
      exact LP_X_suspect hr h1 h2 h3 n (a + 1) a _ (by omega) (by omega) (by omega) k
theorem LP_R_suspect (hr : Rel M) (h1 : 0 ≤ l1 ∧ l1 ≤ 1) (h2 : 1 ≤ l2 ∧ l2 ≤ 16) (h3 : l2 ≤ M 70 6) : ∀ (n : Nat) (a b : Int), 0 ≤ b → b < a → a + n = M 1 4 → Q (some (vI (sp M l1 l2 n a b))) M → vw X (d + 5) 273 41 [vR 81, vI l1, vI l2, vI b, vI a] [] M Q
  | 0, a, b, hb, h0, hn, k => by
    have e4 := hr.2.1.2.2.2.1
    exact B_R_suspect_41 (fun _ => B_R_suspect_82 k) (fun h => by exfalso; omega)
  | n + 1, a, b, hb, h0, hn, k => by
    have h4 := hr.2.1.2.2.1
    have e4 := hr.2.1.2.2.2.1
    rw [sp] at k
    refine B_R_suspect_41 (fun h => by exfalso; omega) (fun _ => ?_)
    refine B_R_suspect_50 ?_
    refine S_R_likelyOf hr (by omega) (by omega) h2 h3 ?_
    refine B_R_suspect_58 ?_
    refine S_R_likelyOf hr (by omega) (by omega) h2 h3 ?_
    refine B_R_suspect_65 (fun hq => B_R_suspect_74 ?_) (fun hq => B_R_suspect_69 ?_)
    · rw [w32_i (x := a + 1) (by omega)]
      rw [if_neg (by omega)] at k
      exact LP_R_suspect hr h1 h2 h3 n (a + 1) b hb (by omega) (by omega) k
    · rw [w32_i (x := a + 1) (by omega)]
      rw [if_pos hq] at k
      exact LP_R_suspect hr h1 h2 h3 n (a + 1) a (by omega) (by omega) (by omega) k
theorem op_suspect (hr : Rel M) : cq X (d + 40) 169 [vR 0, vI a0, vI a1] M (fun v M1 => cq X (d + 40) 273 [vR 81, vI a0, vI a1] M1 (fun v2 M2 => v2 = v ∧ Rel M2)) := by
  have h4 := hr.2.1.2.2.1
  have e4 := hr.2.1.2.2.2.1
  have e := hr.2.2.2.2.2.2.2.1.2.1
  by_cases h1 : 0 ≤ a0 ∧ a0 ≤ 1
  · by_cases h2 : 1 ≤ a1 ∧ a1 ≤ 16
    · by_cases h3 : a1 ≤ M 70 6
      · by_cases h5 : M 1 4 = 0
        · refine E_X_suspect (B_X_suspect_0 (LP_X_suspect_n hr (fun a q => by have := q.1; omega) (M 1 4).toNat 0 _ (by omega) (by omega) ?_))
          refine E_R_suspect ?_
          refine B_R_suspect_0 ?_
          refine S_R_isWorld ?_
          refine B_R_suspect_4 (fun h => by rw [if_pos h1] at h; omega) (fun _ => ?_)
          refine B_R_suspect_7 ?_
          refine S_R_in ?_
          refine B_R_suspect_16 (fun h => by rw [if_pos h2] at h; omega) (fun _ => ?_)
          refine B_R_suspect_19 (fun h => by exfalso; omega) (fun _ => ?_)
          refine B_R_suspect_27 (fun h => by exfalso; omega) (fun _ => ?_)
          refine B_R_suspect_34 ?_
          exact ⟨rfl, hr⟩
        · haveI dc : Decidable (lk_ok M 0 a0 a1) := Classical.propDecidable _
          have ok0 : lk_ok M 0 a0 a1 := ⟨by omega, h1, h2, h3⟩
          have r0 := lk_of_r hr ok0
          refine E_X_suspect ?_
          refine B_X_suspect_0 ?_
          refine B_X_suspect_10 hr.1 ?_
          refine E_Ac_howMany ?_
          refine B_Ac_howMany_0 ?_
          refine B_X_suspect_19 (fun h => by exfalso; omega) (fun _ => ?_)
          refine B_X_suspect_22 ?_
          refine S_X_likely Iff.rfl hr ?_
          rw [if_pos ok0]
          refine B_X_suspect_30 (fun h => by exfalso; omega) (fun _ => ?_)
          refine B_X_suspect_40 ?_
          rw [show w32 (0 + 1) = 1 by decide]
          refine LP_X_suspect hr h1 h2 h3 (M 1 4 - 1).toNat 1 0 _ (by omega) (by omega) (by omega) ?_
          refine E_R_suspect ?_
          refine B_R_suspect_0 ?_
          refine S_R_isWorld ?_
          refine B_R_suspect_4 (fun h => by rw [if_pos h1] at h; omega) (fun _ => ?_)
          refine B_R_suspect_7 ?_
          refine S_R_in ?_
          refine B_R_suspect_16 (fun h => by rw [if_pos h2] at h; omega) (fun _ => ?_)
          refine B_R_suspect_19 (fun h => by exfalso; omega) (fun _ => ?_)
          refine B_R_suspect_27 (fun _ => ?_) (fun h => by exfalso; omega)
          refine B_R_suspect_36 ?_
          exact LP_R_suspect hr h1 h2 h3 (M 1 4 - 1).toNat 1 0 (by omega) (by omega) (by omega) ⟨rfl, hr⟩
      · refine E_X_suspect (B_X_suspect_0 (LP_X_suspect_n hr (fun a q => h3 q.2.2.2) (M 1 4).toNat 0 _ (by omega) (by omega) ?_))
        refine E_R_suspect ?_
        refine B_R_suspect_0 ?_
        refine S_R_isWorld ?_
        refine B_R_suspect_4 (fun h => by rw [if_pos h1] at h; omega) (fun _ => ?_)
        refine B_R_suspect_7 ?_
        refine S_R_in ?_
        refine B_R_suspect_16 (fun h => by rw [if_pos h2] at h; omega) (fun _ => ?_)
        refine B_R_suspect_19 (fun _ => ?_) (fun h => by exfalso; omega)
        refine B_R_suspect_34 ?_
        exact ⟨rfl, hr⟩
    · refine E_X_suspect (B_X_suspect_0 (LP_X_suspect_n hr (fun a q => h2 q.2.2.1) (M 1 4).toNat 0 _ (by omega) (by omega) ?_))
      refine E_R_suspect ?_
      refine B_R_suspect_0 ?_
      refine S_R_isWorld ?_
      refine B_R_suspect_4 (fun h => by rw [if_pos h1] at h; omega) (fun _ => ?_)
      refine B_R_suspect_7 ?_
      refine S_R_in ?_
      refine B_R_suspect_16 (fun _ => ?_) (fun h => absurd (if_neg h2) h)
      refine B_R_suspect_34 ?_
      exact ⟨rfl, hr⟩
  · refine E_X_suspect (B_X_suspect_0 (LP_X_suspect_n hr (fun a q => h1 q.2.1) (M 1 4).toNat 0 _ (by omega) (by omega) ?_))
    refine E_R_suspect ?_
    refine B_R_suspect_0 ?_
    refine S_R_isWorld ?_
    refine B_R_suspect_4 (fun _ => ?_) (fun h => absurd (if_neg h1) h)
    refine B_R_suspect_34 ?_
    exact ⟨rfl, hr⟩
/-- the accounts -/
def ac (M : vM) (who : Int) : Nat → Nat → Int → Int
  | 0, _, p => p
  | n + 1, y, p => ac M who n (y + 1) (p + if who = 0 then M 74 y - M 73 y else M 73 y)
theorem LP_Ye_sum (hr : Rel M) : ∀ (n y : Nat) (p : Int), (y : Int) + n = M 70 6 → -(2000 * y) ≤ p → p ≤ 2000 * y → Q (some (vL (ac M l1 n y p))) M → vw X d 126 5 [vR 70, vI l1, vL p, vN, vI (y : Int)] [] M Q
  | 0, y, p, hn, h1, h2, k => B_Ye_sum_5 (fun _ => B_Ye_sum_54 k) (fun h => by exfalso; omega)
  | n + 1, y, p, hn, h1, h2, k => by
    have hY := hr.2.2.2.2.2.2.2.1
    have h60 := hY.1
    have hy := hY.2.2.2.2 y (by omega) (by omega)
    have y3 := hy.2.2.1
    have y4 := hy.2.2.2.1
    rw [ac] at k
    refine B_Ye_sum_5 (fun h => by exfalso; omega) (fun _ => B_Ye_sum_14 (fun h => B_Ye_sum_38 hr.1 (by omega) ?_) (fun h => B_Ye_sum_19 hr.1 (by omega) (by omega) ?_))
    · rw [if_neg h] at k
      rw [Int.toNat_natCast, w32_i (x := (y : Int) + 1) (by omega), w64_i (x := p + M 73 y) (by omega)]
      exact LP_Ye_sum hr n (y + 1) _ (by omega) (by omega) (by omega) k
    · rw [if_pos h] at k
      rw [Int.toNat_natCast, w32_i (x := (y : Int) + 1) (by omega), w32_i (x := M 74 y - M 73 y) (by omega), w64_i (x := p + (M 74 y - M 73 y)) (by omega)]
      exact LP_Ye_sum hr n (y + 1) _ (by omega) (by omega) (by omega) k
theorem LP_R_account (hr : Rel M) : ∀ (n y : Nat) (p : Int), (y : Int) + n = M 70 6 → -(2000 * y) ≤ p → p ≤ 2000 * y → Q (some (vL (ac M l1 n y p))) M → vw X d 270 19 [vR 81, vI l1, vL p, vN, vI (y : Int)] [] M Q
  | 0, y, p, hn, h1, h2, k => by
    have e := hr.2.2.2.2.2.2.2.1.2.1
    exact B_R_account_19 (fun _ => B_R_account_68 k) (fun h => by exfalso; omega)
  | n + 1, y, p, hn, h1, h2, k => by
    have hY := hr.2.2.2.2.2.2.2.1
    have e := hY.2.1
    have h60 := hY.1
    have hy := hY.2.2.2.2 y (by omega) (by omega)
    have y3 := hy.2.2.1
    have y4 := hy.2.2.2.1
    rw [ac] at k
    refine B_R_account_19 (fun h => by exfalso; omega) (fun _ => B_R_account_28 (fun h => B_R_account_52 hr.1 (by omega) ?_) (fun h => B_R_account_33 hr.1 (by omega) (by omega) ?_))
    · rw [if_neg h] at k
      rw [Int.toNat_natCast, y3.1, w32_i (x := (y : Int) + 1) (by omega), w64_i (x := p + M 73 y) (by omega)]
      exact LP_R_account hr n (y + 1) _ (by omega) (by omega) (by omega) k
    · rw [if_pos h] at k
      rw [Int.toNat_natCast, y3.1, y4.1, w32_i (x := (y : Int) + 1) (by omega), w32_i (x := M 74 y - M 73 y) (by omega), w64_i (x := p + (M 74 y - M 73 y)) (by omega)]
      exact LP_R_account hr n (y + 1) _ (by omega) (by omega) (by omega) k
theorem op_account (hr : Rel M) : cq X (d + 40) 167 [vR 0, vI a0] M (fun v M1 => cq X (d + 40) 270 [vR 81, vI a0] M1 (fun v2 M2 => v2 = v ∧ Rel M2)) := by
  have h60 := hr.2.2.2.2.2.2.2.1.1
  by_cases h0 : 0 ≤ a0 ∧ a0 ≤ 1
  · refine E_X_account ?_
    refine B_X_account_0 ?_
    refine S_within ?_
    refine B_X_account_6 (fun h => by rw [if_pos h0] at h; omega) (fun _ => ?_)
    refine B_X_account_9 hr.1 ?_
    refine E_Ye_sum ?_
    refine B_Ye_sum_0 ?_
    refine LP_Ye_sum hr (M 70 6).toNat 0 0 (by omega) (by omega) (by omega) ?_
    refine B_X_account_17 ?_
    refine E_R_account ?_
    refine B_R_account_0 ?_
    refine S_R_in ?_
    refine B_R_account_7 (fun _ => ?_) (fun h => by rw [if_pos h0] at h; omega)
    refine B_R_account_14 ?_
    refine LP_R_account hr (M 70 6).toNat 0 0 (by omega) (by omega) (by omega) ?_
    exact ⟨rfl, hr⟩
  · refine E_X_account ?_
    refine B_X_account_0 ?_
    refine S_within ?_
    refine B_X_account_6 (fun _ => ?_) (fun h => absurd (if_neg h0) h)
    refine B_X_account_20 ?_
    refine E_R_account ?_
    refine B_R_account_0 ?_
    refine S_R_in ?_
    refine B_R_account_7 (fun h => absurd (if_neg h0) h) (fun _ => ?_)
    refine B_R_account_10 ?_
    exact ⟨rfl, hr⟩
theorem op_back (hr : Rel M) : cq X (d + 40) 165 [vR 0] M (fun v M1 => cq X (d + 40) 268 [vR 81] M1 (fun v2 M2 => v2 = v ∧ Rel M2)) := by
  have hY := hr.2.2.2.2.2.2.2.1
  have h60 := hY.1
  have e := hY.2.1
  refine E_X_back ?_
  refine B_X_back_0 hr.1 ?_
  refine S_Ye_howMany ?_
  by_cases h0 : M 70 6 = 0
  · refine B_X_back_7 (fun h => absurd h0 h) (fun _ => B_X_back_10 ?_)
    exact E_R_back (B_R_back_0 (fun h => by exfalso; omega) (fun _ => B_R_back_7 ⟨rfl, hr⟩))
  · obtain ⟨n, hn⟩ : ∃ n : Nat, M 70 6 = (n : Int) + 1 := ⟨(M 70 6 - 1).toNat, by omega⟩
    have en : w32 ((n : Int) + 1 - 1) = (n : Int) := by unfold w32; omega
    have y6 := hY.2.2.2.2 n (by omega) (by omega)
    refine B_X_back_7 (fun _ => B_X_back_14 hr.1 (E_Ye_takeBack (B_Ye_takeBack_0 hr.1 ?_ (fun hR2 => B_X_back_21 ?_)))) (fun h => absurd h h0)
    · simp (disch := decide) only [vm_up_o, vm_up_s, vm_up_k]
      rw [hn, en]
      omega
    · simp (disch := decide) only [vm_up_o, vm_up_s, vm_up_k, hn, en, Int.toNat_natCast] at hR2 ⊢
      refine E_R_back (B_R_back_0 ?_ ?_)
      · intro _
        refine B_R_back_9 hR2 ?_ (fun hR3 => ?_)
        · simp (disch := decide) only [vm_up_o, vm_up_s, vm_up_k, e, hn, en]
          omega
        · simp (disch := decide) only [vm_up_o, vm_up_s, vm_up_k, e, hn, en, Int.toNat_natCast]
          refine ⟨by trivial, Rel_Y ((((Fr.refl.up (by unfold sY; omega)).up (by unfold sY; omega)).up (by unfold sY; omega)).up (by unfold sY; omega)) hr ?_⟩
          obtain ⟨q1, q2, q3, q4, q5⟩ := hY
          have z6 := y6.2.2.2.2.2
          refine ⟨?_, ?_, ?_, ?_, fun y hy hy2 => ?_⟩
          · simp (disch := decide) only [vm_up_o, vm_up_s, vm_up_k]
            omega
          · simp (disch := decide) only [vm_up_o, vm_up_s, vm_up_k]
          · simp (disch := decide) only [vm_up_o, vm_up_s, vm_up_k]
            exact z6.2
          · simp (disch := decide) only [vm_up_o, vm_up_s, vm_up_k]
            exact z6.1
          · revert hy2
            simp (disch := decide) only [vm_up_o, vm_up_s, vm_up_k]
            intro hy2
            exact q5 y hy (by omega)
      · intro h
        simp (disch := decide) only [vm_up_o, vm_up_s, vm_up_k, e, hn] at h
        exfalso; omega
end YR
