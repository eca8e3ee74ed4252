/-! THE CLASS READS A TEXT and works it out at once -/
def kk (v : Int) : Int := if 1000000 < v then 1000000 else if v < -1000000 then -1000000 else v
def kp_op (code p q : Int) : Int := kk (if code = 20043 then p + q else if code = 20045 then p - q else if code = 20042 then p * q else if code = 20077 then (if p < q then p else q) else if q < p then p else q)
def kp_st (s v code : Int) (st : List Int) : List Int := if code < 20000 then (if code < 10000 then code else if code = 10000 then s else v) :: st
  else if code = 20073 then (match st with | z :: y :: x :: w :: r => (if kk (w - x) < 0 then y else z) :: r | _ => st)
  else match st with | q :: p :: r => kp_op code p q :: r | _ => st
def kp_ev (s v : Int) : List Int → List Int → List Int
  | [], st => st
  | c :: cs, st => kp_ev s v cs (kp_st s v c st)
theorem kp_ev_app {s v : Int} : ∀ (c c2 st : List Int), kp_ev s v (c ++ c2) st = kp_ev s v c2 (kp_ev s v c st)
  | [], _, _ => rfl
  | x :: c, c2, st => by
    show kp_ev s v (c ++ c2) (kp_st s v x st) = _
    rw [kp_ev_app c c2]
    rfl
theorem kk_r (v : Int) : -1000000 ≤ kk v ∧ kk v ≤ 1000000 := by unfold kk; split <;> (try split) <;> omega
theorem kk_id {v : Int} (h : -1000000 ≤ v ∧ v ≤ 1000000) : kk v = v := by unfold kk; rw [if_neg (by omega), if_neg (by omega)]
/-- these codes put just this value on the stack -/
def KV (s v : Int) (c : List Int) (x : Int) : Prop := (∀ st, kp_ev s v c st = x :: st) ∧ -1000000 ≤ x ∧ x ≤ 1000000
theorem KV_c {s v x : Int} (h : 0 ≤ x ∧ x ≤ 9999) : KV s v [x] x := by
  refine ⟨fun st => ?_, by omega, by omega⟩
  show kp_st s v x st = _
  unfold kp_st
  rw [if_pos (by omega), if_pos (by omega)]
theorem KV_s {s v : Int} (h : 0 ≤ s ∧ s ≤ 3) : KV s v [10000] s := ⟨fun st => rfl, by omega, by omega⟩
theorem KV_v {s v : Int} (h : -99 ≤ v ∧ v ≤ 99) : KV s v [10001] v := ⟨fun st => rfl, by omega, by omega⟩
theorem KV_op {s v p q code : Int} {c1 c2 : List Int} (h1 : KV s v c1 p) (h2 : KV s v c2 q) (hc : 20000 ≤ code ∧ code ≠ 20073) : KV s v (c1 ++ c2 ++ [code]) (kp_op code p q) := by
  refine ⟨fun st => ?_, (kk_r _).1, (kk_r _).2⟩
  rw [kp_ev_app, kp_ev_app, h1.1, h2.1]
  show kp_st s v code (q :: p :: st) = _
  unfold kp_st
  rw [if_neg (by omega), if_neg hc.2]
theorem KV_if {s v w x y z : Int} {c1 c2 c3 c4 : List Int} (h1 : KV s v c1 w) (h2 : KV s v c2 x) (h3 : KV s v c3 y) (h4 : KV s v c4 z) : KV s v (c1 ++ c2 ++ c3 ++ c4 ++ [20073]) (if w < x then y else z) := by
  have e : (if w < x then y else z) = if kk (w - x) < 0 then y else z := by
    have : w < x ↔ kk (w - x) < 0 := by unfold kk; split <;> (try split) <;> omega
    by_cases q : w < x
    · rw [if_pos q, if_pos (this.mp q)]
    · rw [if_neg q, if_neg (fun z => q (this.mpr z))]
  rw [e]
  refine ⟨fun st => ?_, ?_⟩
  · rw [kp_ev_app, kp_ev_app, kp_ev_app, kp_ev_app, h1.1, h2.1, h3.1, h4.1]
    rfl
  · split
    · exact h3.2
    · exact h4.2
/-- what a reading rests on: memory, the text's cell, its end, the sight, its value -/
abbrev KZ : Type := vM × Nat × Nat × Int × Int
def KH (Z : KZ) : Prop := vS0[Z.2.1]? = some (.inr (2, 120)) ∧ Z.2.1 ≠ 68 ∧ Z.2.2.1 ≤ 120 ∧ (0 ≤ Z.2.2.2.1 ∧ Z.2.2.2.1 ≤ 3) ∧ (-99 ≤ Z.2.2.2.2 ∧ Z.2.2.2.2 ≤ 99)
def KG (Z : KZ) : Nat → Int := kp_g (Z.1 Z.2.1) Z.2.2.1
def KM (Z : KZ) (M1 : vM) (k : Nat) (ft : Int) : Prop := vRefs M1 ∧ Fr (fun b _ => b = 68) Z.1 M1 ∧ M1 68 0 = (Z.2.1 : Int) ∧ M1 68 1 = (Z.2.2.1 : Int) ∧ M1 68 2 = (k : Int) ∧ M1 68 3 = ft ∧ M1 68 4 = Z.2.2.2.1 ∧ M1 68 5 = Z.2.2.2.2
def KA (Z : KZ) (M1 : vM) (k : Nat) : Prop := KM Z M1 k (-1) ∧ k ≤ Z.2.2.1
def KD (Z : KZ) (M1 : vM) (f : Nat) : Prop := KM Z M1 f f
def KO (Z : KZ) (R : KR) (M1 : vM) (x : Int) : Prop := match R with
  | .inl f => KD Z M1 f
  | .inr (c, k) => KA Z M1 k ∧ KV Z.2.2.2.1 Z.2.2.2.2 c x
theorem KA_up {Z : KZ} {M1 : vM} {k : Nat} (h : KA Z M1 k) (hk : k < Z.2.2.1) (hR : vRefs (vm_up M1 68 2 ((k : Int) + 1))) : KA Z (vm_up M1 68 2 ((k : Int) + 1)) (k + 1) := by
  obtain ⟨⟨h0, h1, h2, h3, h4, h5, h6, h7⟩, h8⟩ := h
  exact ⟨⟨hR, h1.up rfl, by rw [vm_up_k (by decide)]; exact h2, by rw [vm_up_k (by decide)]; exact h3, by rw [vm_up_s]; omega, by rw [vm_up_k (by decide)]; exact h5, by rw [vm_up_k (by decide)]; exact h6, by rw [vm_up_k (by decide)]; exact h7⟩, hk⟩
theorem KD_of {Z : KZ} {M1 : vM} {k : Nat} (h : KA Z M1 k) (hR : vRefs (vm_up M1 68 3 (k : Int))) : KD Z (vm_up M1 68 3 (k : Int)) k := by
  obtain ⟨⟨h0, h1, h2, h3, h4, h5, h6, h7⟩, h8⟩ := h
  exact ⟨hR, h1.up rfl, by rw [vm_up_k (by decide)]; exact h2, by rw [vm_up_k (by decide)]; exact h3, by rw [vm_up_k (by decide)]; exact h4, vm_up_s, by rw [vm_up_k (by decide)]; exact h6, by rw [vm_up_k (by decide)]; exact h7⟩
section RD
variable {X : vX} {d : Nat} {M : vM} {Q : Option vV → vM → Prop} {l0 l1 l2 l3 l4 l5 l6 l8 : Int} {Z : KZ} {k f : Nat} {R : KR}
theorem S_next_d (h : KD Z M f) (q : Q (some (vI (-1))) M) : cq X (d + 1) 71 [vR 68] M Q := by
  have e := h.2.2.2.2.2.1
  exact E_Re_next (B_Re_next_0 (fun _ => B_Re_next_34 q) (fun z => by exfalso; omega))
theorem S_next (H : KH Z) (h : KA Z M k) (q : Q (some (vI (KG Z k))) M) : cq X (d + 1) 71 [vR 68] M Q := by
  obtain ⟨⟨h0, h1, h2, h3, h4, h5, h6, h7⟩, h8⟩ := h
  have e0 := H.2.2.1
  unfold KG kp_g at q
  refine E_Re_next (B_Re_next_0 (fun z => by exfalso; omega) (fun _ => B_Re_next_7 (fun z => B_Re_next_34 ?_) (fun z => B_Re_next_18 h2 H.1 (by omega) ?_)))
  · rw [if_neg (by omega)] at q
    exact q
  · rw [if_pos (by omega)] at q
    rw [j_iand_255, h4, Int.toNat_natCast, h1 Z.2.1 k (fun z => H.2.1 z)]
    exact q
theorem KG_r {k : Nat} : -1 ≤ KG Z k ∧ KG Z k ≤ 255 ∧ (KG Z k ≠ -1 → k < Z.2.2.1) := by
  unfold KG kp_g
  split
  · omega
  · exact ⟨by omega, by omega, fun z => absurd rfl z⟩
theorem S_skips_d (hw : 0 ≤ l1) (h : KD Z M f) (q : Q (some (vI 0)) M) : cq X (d + 2) 73 [vR 68, vI l1] M Q :=
  E_Re_skips (B_Re_skips_0 (S_next_d h (B_Re_skips_4 (fun z => by exfalso; omega) (fun _ => B_Re_skips_8 q))))
theorem S_skips (hw : 0 ≤ l1) (H : KH Z) (h : KA Z M k) (q1 : KG Z k = l1 → ∀ M1, KA Z M1 (k + 1) → Q (some (vI 1)) M1) (q2 : KG Z k ≠ l1 → Q (some (vI 0)) M) : cq X (d + 2) 73 [vR 68, vI l1] M Q := by
  have r := KG_r (Z := Z) (k := k)
  have e2 := h.1.2.2.2.2.1
  have e0 := H.2.2.1
  refine E_Re_skips (B_Re_skips_0 (S_next H h (B_Re_skips_4 (fun z => B_Re_skips_10 h.1.1 (fun hR => ?_)) (fun z => B_Re_skips_8 (q2 z)))))
  have hk := r.2.2 (by omega)
  rw [e2, w32_i (x := (k : Int) + 1) (by omega)] at hR ⊢
  exact q1 z _ (KA_up h hk hR)
theorem S_fail_d (h : KD Z M f) (q : Q none M) : cq X (d + 1) 72 [vR 68] M Q := by
  have e := h.2.2.2.2.2.1
  exact E_Re_fail (B_Re_fail_0 (fun _ => B_Re_fail_15 q) (fun z => by exfalso; omega))
theorem S_fail (h : KA Z M k) (q : ∀ M1, KD Z M1 k → Q none M1) : cq X (d + 1) 72 [vR 68] M Q := by
  have e := h.1.2.2.2.2.2.1
  have e2 := h.1.2.2.2.2.1
  refine E_Re_fail (B_Re_fail_0 (fun z => by exfalso; omega) (fun _ => B_Re_fail_7 h.1.1 (fun hR => ?_)))
  rw [e2] at hR ⊢
  exact q _ (KD_of h hR)
theorem S_needs_d (hw : 0 ≤ l1) (h : KD Z M f) (q : Q none M) : cq X (d + 3) 74 [vR 68, vI l1] M Q :=
  E_Re_needs (B_Re_needs_0 (S_skips_d hw h (B_Re_needs_5 (fun z => absurd rfl z) (fun _ => B_Re_needs_8 (S_fail_d h (B_Re_needs_12 q))))))
theorem S_needs (hw : 0 ≤ l1) (H : KH Z) (h : KA Z M k) (q1 : KG Z k = l1 → ∀ M1, KA Z M1 (k + 1) → Q none M1) (q2 : KG Z k ≠ l1 → ∀ M1, KD Z M1 k → Q none M1) : cq X (d + 3) 74 [vR 68, vI l1] M Q :=
  E_Re_needs (B_Re_needs_0 (S_skips hw H h (fun z M1 h1 => B_Re_needs_5 (fun _ => B_Re_needs_12 (q1 z M1 h1)) (fun z => absurd z (by decide))) (fun z => B_Re_needs_5 (fun z => absurd rfl z) (fun _ => B_Re_needs_8 (S_fail h (fun M1 h1 => B_Re_needs_12 (q2 z M1 h1)))))))
theorem S_opens_d (h : KD Z M f) (q : Q none M) : cq X (d + 4) 80 [vR 68, vI l1] M Q :=
  E_Re_opens (B_Re_opens_0 (fun _ => B_Re_opens_9 (S_needs_d (by decide) h (B_Re_opens_15 q))) (fun _ => B_Re_opens_5 (S_fail_d h (B_Re_opens_9 (S_needs_d (by decide) h (B_Re_opens_15 q))))))
theorem S_opens (H : KH Z) (h : KA Z M k) (q1 : l1 < 5 → KG Z k = 40 → ∀ M1, KA Z M1 (k + 1) → Q none M1) (q2 : ¬ (l1 < 5 ∧ KG Z k = 40) → ∀ M1, KD Z M1 k → Q none M1) : cq X (d + 4) 80 [vR 68, vI l1] M Q :=
  E_Re_opens (B_Re_opens_0 (fun z => B_Re_opens_9 (S_needs (by decide) H h (fun z2 M1 h1 => B_Re_opens_15 (q1 z z2 M1 h1)) (fun z2 M1 h1 => B_Re_opens_15 (q2 (fun y => z2 y.2) M1 h1)))) (fun z => B_Re_opens_5 (S_fail h (fun M1 h1 => B_Re_opens_9 (S_needs_d (by decide) h1 (B_Re_opens_15 (q2 (fun y => by omega) M1 h1)))))))
theorem S_number_d (h : KD Z M f) (q : Q (some (vL 0)) M) : cq X (d + 2) 79 [vR 68] M Q :=
  E_Re_number (B_Re_number_0 (B_Re_number_10 (fun z => absurd z (by decide)) (fun _ => B_Re_number_16 (S_next_d h (B_Re_number_20 (fun _ => B_Re_number_66 (fun z => absurd rfl z) (fun _ => B_Re_number_74 (S_fail_d h (B_Re_number_78 q)))) (fun z => absurd z (by decide)))))))
theorem LP_number (H : KH Z) {k0 : Nat} : ∀ (n k : Nat) (x : Int) (M : vM), KA Z M k → k0 ≤ k → n ≤ 4 → 0 ≤ x → (x + 1) * 10 ^ n ≤ 10000 → (∀ M1 k1 x1, kp_num (KG Z) n x k = (x1, k1) → k ≤ k1 → KA Z M1 k1 → 0 ≤ x1 → x1 ≤ 9999 → ∀ l4, vw X (d + 1) 79 66 [vR 68, vI (k0 : Int), vL x1, vN, vI l4] [] M1 Q) → vw X (d + 1) 79 10 [vR 68, vI (k0 : Int), vL x, vN, vI (4 - (n : Int))] [] M Q
  | 0, k, x, M, h, hk, _, h0, h1, q => by
    rw [Int.pow_zero] at h1
    exact B_Re_number_10 (fun _ => q M k x rfl (Nat.le_refl k) h h0 (by omega) _) (fun z => by exfalso; omega)
  | n + 1, k, x, M, h, hk, hn4, h0, h1, q => by
    have e0 := H.2.2.1
    have e2 := h.1.2.2.2.2.1
    have r := KG_r (Z := Z) (k := k)
    have hp : (1 : Int) ≤ 10 ^ n := Int.pow_pos (by decide)
    rw [Int.pow_succ, Int.mul_comm (10 ^ n) 10, ← Int.mul_assoc] at h1
    have h2 : (x + 1) * 10 * 1 ≤ (x + 1) * 10 * 10 ^ n := Int.mul_le_mul_of_nonneg_left hp (by omega)
    have stop : ¬ (48 ≤ KG Z k ∧ KG Z k ≤ 57) → ∀ l4, vw X (d + 1) 79 66 [vR 68, vI (k0 : Int), vL x, vN, vI l4] [] M Q := fun z => by
      refine q M k x ?_ (Nat.le_refl k) h h0 (by omega)
      rw [kp_num, if_neg z]
    refine B_Re_number_10 (fun z => by exfalso; omega) (fun _ => B_Re_number_16 (S_next H h (B_Re_number_20 (fun z => stop (by omega) _) (fun z1 => B_Re_number_25 (S_next H h (B_Re_number_29 (fun z => stop (by omega) _) (fun z2 => B_Re_number_34 (S_next H h (B_Re_number_43 h.1.1 (fun hR => ?_))))))))))
    have hk2 := r.2.2 (by omega)
    rw [e2, w32_i (x := (k : Int) + 1) (by omega)] at hR ⊢
    rw [w64_i (x := x * 10) (by omega), w64_i (x := x * 10 + KG Z k) (by omega), w64_i (x := x * 10 + KG Z k - 48) (by omega), w32_i (x := 4 - ((n + 1 : Nat) : Int) + 1) (by omega), show 4 - ((n + 1 : Nat) : Int) + 1 = 4 - (n : Int) by omega]
    refine LP_number H n (k + 1) _ _ (KA_up h hk2 hR) (by omega) (by omega) (by omega) ?_ (fun M1 k1 x1 e hle hA y0 y1 => q M1 k1 x1 ?_ (by omega) hA y0 y1)
    · have : (x * 10 + KG Z k - 48 + 1) * 10 ^ n ≤ (x + 1) * 10 * 10 ^ n := Int.mul_le_mul_of_nonneg_right (by omega) (by omega)
      omega
    · rw [kp_num, if_pos ⟨z1, z2⟩]
      exact e
def kp_number (g : Nat → Int) (k : Nat) : KR := if (kp_num g 4 0 k).2 = k then .inl k else .inr ([(kp_num g 4 0 k).1], (kp_num g 4 0 k).2)
theorem S_number (H : KH Z) (h : KA Z M k) (q : ∀ M1 x, KO Z (kp_number (KG Z) k) M1 x → Q (some (vL x)) M1) : cq X (d + 2) 79 [vR 68] M Q := by
  have e2 := h.1.2.2.2.2.1
  refine E_Re_number (B_Re_number_0 ?_)
  rw [e2]
  refine LP_number H (k0 := k) 4 k 0 M h (Nat.le_refl k) (by omega) (by omega) (by decide) (fun M1 k1 x1 e hle hA y0 y1 l4 => ?_)
  have e3 := hA.1.2.2.2.2.1
  unfold kp_number at q
  rw [e] at q
  refine B_Re_number_66 (fun z => B_Re_number_78 ?_) (fun z => B_Re_number_74 ?_)
  · refine q M1 x1 ?_
    rw [if_neg (by intro y; simp only at y; omega)]
    exact ⟨hA, KV_c ⟨y0, y1⟩⟩
  · have : k1 = k := by omega
    subst this
    refine S_fail hA (fun M2 h2 => B_Re_number_78 (q M2 x1 ?_))
    rw [if_pos rfl]
    exact h2
theorem S_kept (h : -9000000000000 ≤ l0 ∧ l0 ≤ 9000000000000) (q : Q (some (vL (kk l0))) M) : cq X (d + 2) 75 [vL l0] M Q := by
  unfold kk at q
  refine E_Re_kept (B_Re_kept_0 (E_J_minL (B_J_minL_0 (fun z => B_J_minL_10 ?_) (fun z => B_J_minL_6 ?_))))
  · rw [if_pos (by omega)] at q
    exact B_Re_kept_10 (E_J_maxL (B_J_maxL_0 (fun _ => B_J_maxL_10 (B_Re_kept_13 q)) (fun z => absurd z (by decide))))
  · rw [if_neg (by omega)] at q
    refine B_Re_kept_10 (E_J_maxL (B_J_maxL_0 (fun z2 => B_J_maxL_10 (B_Re_kept_13 ?_)) (fun z2 => B_J_maxL_6 (B_Re_kept_13 ?_))))
    · rw [if_neg (by omega)] at q
      exact q
    · by_cases e : l0 = -1000000
      · subst e
        exact q
      · rw [if_pos (by omega)] at q
        exact q
theorem S_minL (q : Q (some (vL (if l0 < l1 then l0 else l1))) M) : cq X (d + 1) 287 [vL l0, vL l1] M Q := by
  refine E_J_minL (B_J_minL_0 (fun z => B_J_minL_10 ?_) (fun z => B_J_minL_6 ?_))
  · rw [if_neg (by omega)] at q; exact q
  · by_cases e : l0 = l1
    · subst e; rw [if_neg (by omega)] at q; exact q
    · rw [if_pos (by omega)] at q; exact q
theorem S_maxL (q : Q (some (vL (if l1 < l0 then l0 else l1))) M) : cq X (d + 1) 285 [vL l0, vL l1] M Q := by
  refine E_J_maxL (B_J_maxL_0 (fun z => B_J_maxL_10 ?_) (fun z => B_J_maxL_6 ?_))
  · rw [if_neg (by omega)] at q; exact q
  · by_cases e : l0 = l1
    · subst e; rw [if_neg (by omega)] at q; exact q
    · rw [if_pos (by omega)] at q; exact q
end RD
