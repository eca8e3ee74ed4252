/-! WHAT A CONTRACT PAYS, in both -/
def kd : List Int → Nat → Option Nat
  | [], n => some n
  | c :: cs, n => if c < 20000 then kd cs (n + 1) else if c = 20073 then (if 4 ≤ n then kd cs (n - 3) else none) else if 2 ≤ n then kd cs (n - 1) else none
def okc (x : Int) : Prop := (0 ≤ x ∧ x ≤ 10001) ∨ x = 20042 ∨ x = 20043 ∨ x = 20045 ∨ x = 20073 ∨ x = 20077 ∨ x = 20088
def KW (c : List Int) : Prop := (∀ n, kd c n = some (n + 1)) ∧ ∀ x ∈ c, okc x
def KRW (R : KR) : Prop := ∀ c k, R = .inr (c, k) → KW c
theorem kd_app : ∀ (c c2 : List Int) (n m : Nat), kd c n = some m → kd (c ++ c2) n = kd c2 m
  | [], _, n, m, h => by cases h; rfl
  | x :: c, c2, n, m, h => by
    show kd (x :: (c ++ c2)) n = _
    rw [kd] at h ⊢
    by_cases h1 : x < 20000
    · rw [if_pos h1] at h ⊢
      exact kd_app c c2 _ _ h
    · rw [if_neg h1] at h ⊢
      by_cases h2 : x = 20073
      · rw [if_pos h2] at h ⊢
        by_cases h3 : 4 ≤ n
        · rw [if_pos h3] at h ⊢
          exact kd_app c c2 _ _ h
        · rw [if_neg h3] at h
          cases h
      · rw [if_neg h2] at h ⊢
        by_cases h3 : 2 ≤ n
        · rw [if_pos h3] at h ⊢
          exact kd_app c c2 _ _ h
        · rw [if_neg h3] at h
          cases h
theorem KW_1 {x : Int} (h : 0 ≤ x ∧ x ≤ 10001) : KW [x] := by
  refine ⟨fun n => ?_, fun y hy => ?_⟩
  · rw [kd, if_pos (by omega)]
    rfl
  · rw [List.mem_singleton.mp hy]
    exact Or.inl h
theorem KW_op {c1 c2 : List Int} {code : Int} (h1 : KW c1) (h2 : KW c2) (hc : code = 20042 ∨ code = 20043 ∨ code = 20045 ∨ code = 20077 ∨ code = 20088) : KW (c1 ++ c2 ++ [code]) := by
  refine ⟨fun n => ?_, fun y hy => ?_⟩
  · rw [kd_app (c1 ++ c2) [code] n (n + 2) (by rw [kd_app c1 c2 n (n + 1) (h1.1 n)]; exact h2.1 (n + 1))]
    rw [kd, if_neg (by omega), if_neg (by omega), if_pos (by omega)]
    rfl
  · rcases List.mem_append.mp hy with q | q
    · rcases List.mem_append.mp q with q | q
      · exact h1.2 y q
      · exact h2.2 y q
    · rw [List.mem_singleton.mp q]
      unfold okc
      omega
theorem KW_if {c1 c2 c3 c4 : List Int} (h1 : KW c1) (h2 : KW c2) (h3 : KW c3) (h4 : KW c4) : KW (c1 ++ c2 ++ c3 ++ c4 ++ [20073]) := by
  refine ⟨fun n => ?_, fun y hy => ?_⟩
  · rw [kd_app (c1 ++ c2 ++ c3 ++ c4) [20073] n (n + 4) (by
      rw [kd_app (c1 ++ c2 ++ c3) c4 n (n + 3) (by
        rw [kd_app (c1 ++ c2) c3 n (n + 2) (by rw [kd_app c1 c2 n (n + 1) (h1.1 n)]; exact h2.1 (n + 1))]
        exact h3.1 (n + 2))]
      exact h4.1 (n + 3))]
    rw [kd, if_neg (by decide), if_pos rfl, if_pos (by omega)]
    rfl
  · rcases List.mem_append.mp hy with q | q
    · rcases List.mem_append.mp q with q | q
      · rcases List.mem_append.mp q with q | q
        · rcases List.mem_append.mp q with q | q
          · exact h1.2 y q
          · exact h2.2 y q
        · exact h3.2 y q
      · exact h4.2 y q
    · rw [List.mem_singleton.mp q]
      unfold okc
      omega
theorem KRW_l {f : Nat} : KRW (.inl f) := fun c k h => by cases h
theorem KRW_r {c : List Int} {k : Nat} (h : KW c) : KRW (.inr (c, k)) := fun c' k' e => by cases e; exact h
theorem KRW_then {x : KR} {f : List Int → Nat → KR} (hx : KRW x) (hf : ∀ c k, KW c → KRW (f c k)) : KRW (kp_then x f) := by
  cases x with
  | inl p => exact KRW_l
  | inr r => obtain ⟨c, k⟩ := r; exact hf c k (hx c k rfl)
theorem KRW_need {g : Nat → Int} {w : Int} {k : Nat} {f : Nat → KR} (hf : ∀ k, KRW (f k)) : KRW (kp_need g w k f) := by
  unfold kp_need
  split
  · exact hf _
  · exact KRW_l
theorem KRW_open {g : Nat → Int} {can : Bool} {k : Nat} {f : Nat → KR} (hf : ∀ k, KRW (f k)) : KRW (kp_open g can k f) := by
  unfold kp_open
  split
  · exact hf _
  · exact KRW_l
theorem kp_num_r {g : Nat → Int} : ∀ (n : Nat) (v : Int) (k : Nat), 0 ≤ v → (v + 1) * 10 ^ n ≤ 10000 → 0 ≤ (kp_num g n v k).1 ∧ (kp_num g n v k).1 ≤ 9999
  | 0, v, k, h0, h => by
    rw [Int.pow_zero] at h
    rw [kp_num]
    omega
  | n + 1, v, k, h0, h => by
    have hp : (1 : Int) ≤ 10 ^ n := Int.pow_pos (by decide)
    rw [Int.pow_succ, Int.mul_comm (10 ^ n) 10, ← Int.mul_assoc] at h
    have h2 : (v + 1) * 10 * 1 ≤ (v + 1) * 10 * 10 ^ n := Int.mul_le_mul_of_nonneg_left hp (by omega)
    rw [kp_num]
    split
    · next z =>
      refine kp_num_r n _ _ (by omega) ?_
      have : (v * 10 + g k - 48 + 1) * 10 ^ n ≤ (v + 1) * 10 * 10 ^ n := Int.mul_le_mul_of_nonneg_right (by omega) (by omega)
      omega
    · omega
theorem KRW_atom {g : Nat → Int} {dp : Nat → KR} {can : Bool} (hd : ∀ k, KRW (dp k)) (k : Nat) : KRW (kp_atom g dp can k) := by
  have two : ∀ code, (code = 20077 ∨ code = 20088) → ∀ k, KRW (kp_two g dp can code k) := fun code hc k => KRW_open (fun k => KRW_then (hd k) (fun c1 k h1 => KRW_need (fun k => KRW_then (hd k) (fun c2 k h2 => KRW_need (fun k => KRW_r (KW_op h1 h2 (by omega)))))))
  have iff' : ∀ k, KRW (kp_if g dp can k) := fun k => KRW_open (fun k => KRW_then (hd k) (fun c1 k h1 => KRW_need (fun k => KRW_then (hd k) (fun c2 k h2 => KRW_need (fun k => KRW_then (hd k) (fun c3 k h3 => KRW_need (fun k => KRW_then (hd k) (fun c4 k h4 => KRW_need (fun k => KRW_r (KW_if h1 h2 h3 h4))))))))))
  have nr := kp_num_r (g := g) 4 0 k (by omega) (by decide)
  unfold kp_atom
  split
  · exact KRW_r (KW_1 (by omega))
  · split
    · exact KRW_r (KW_1 (by omega))
    · split
      · split
        · exact KRW_need (two 20077 (Or.inl rfl))
        · exact KRW_need (fun k => KRW_need (two 20088 (Or.inr rfl)))
      · split
        · exact KRW_need iff'
        · split
          · exact KRW_open (fun k => KRW_then (hd k) (fun c k h => KRW_need (fun k => KRW_r h)))
          · split
            · exact KRW_l
            · exact KRW_r (KW_1 (by omega))
theorem KRW_prods {g : Nat → Int} {a : Nat → KR} (ha : ∀ k, KRW (a k)) : ∀ (n : Nat) (c : List Int) (k : Nat), KW c → KRW (kp_prods g a n c k)
  | 0, c, k, h => KRW_r h
  | n + 1, c, k, h => by
    rw [kp_prods]
    split
    · exact KRW_then (ha _) (fun c2 k h2 => KRW_prods ha n _ k (KW_op h h2 (by omega)))
    · exact KRW_r h
theorem KRW_sums {g : Nat → Int} {a : Nat → KR} (ha : ∀ k, KRW (a k)) : ∀ (n : Nat) (c : List Int) (k : Nat), KW c → KRW (kp_sums g a n c k)
  | 0, c, k, h => KRW_r h
  | n + 1, c, k, h => by
    rw [kp_sums]
    split
    · exact KRW_then (ha _) (fun c2 k h2 => KRW_sums ha n _ k (KW_op h h2 (by omega)))
    · split
      · exact KRW_then (ha _) (fun c2 k h2 => KRW_sums ha n _ k (KW_op h h2 (by omega)))
      · exact KRW_r h
theorem KRW_sum {g : Nat → Int} {e : Nat} {dp : Nat → KR} {can : Bool} (hd : ∀ k, KRW (dp k)) (k : Nat) : KRW (kp_sum g e dp can k) := by
  have hp : ∀ k, KRW (kp_prod g e dp can k) := fun k => KRW_then (KRW_atom hd k) (fun c k h => KRW_prods (KRW_atom hd) e c k h)
  exact KRW_then (hp k) (fun c k h => KRW_sums hp e c k h)
theorem KRW_lvl {g : Nat → Int} {e : Nat} : ∀ (n k : Nat), KRW (kp_lvl g e n k)
  | 0, k => KRW_sum (fun _ => KRW_l) k
  | n + 1, k => KRW_sum (KRW_lvl n) k
theorem KW_all {g : Nat → Int} {e : Nat} {c : List Int} (h : kp_all g e = .inr c) : KW c := by
  unfold kp_all at h
  cases e1 : kp_lvl g e 5 0 with
  | inl p =>
    rw [e1] at h
    cases h
  | inr r =>
    obtain ⟨c1, k1⟩ := r
    rw [e1] at h
    dsimp only at h
    split at h
    · cases h
    · cases h
      exact KRW_lvl 5 0 _ _ e1
/-- what is paid -/
def cl (x : Int) : Int := if x < 0 then 0 else if 999 < x then 999 else x
def kcode (M : vM) (k : Nat) : List Int := match kp_all (kp_g (M (59 + k)) (M 67 k).toNat) (M 67 k).toNat with
  | .inr c => c
  | .inl _ => []
def kw (M : vM) (k : Nat) (s v : Int) : Int := cl ((kp_ev s v (kcode M k) []).headD 0)
theorem cl_r (x : Int) : 0 ≤ cl x ∧ cl x ≤ 999 := by unfold cl; split <;> (try split) <;> omega
/-- the stack, its top first -/
def SK (M : vM) : List Int → Prop
  | [] => True
  | x :: st => M 111 st.length = x ∧ SK M st
theorem SK_up {M : vM} {n : Nat} {y : Int} : ∀ (st : List Int), SK M st → st.length ≤ n → SK (vm_up M 111 n y) st
  | [], _, _ => trivial
  | x :: st, h, hl => by
    rw [List.length_cons] at hl
    exact ⟨by rw [vm_up_k (by omega)]; exact h.1, SK_up st h.2 (by omega)⟩
theorem j_l2i_id {x : Int} (h : -2147483648 ≤ x ∧ x < 2147483648) : j_l2i x = x := by rw [j_l2i_e, w64_i (by omega), w32_i h]
section WO
variable {X : vX} {d : Nat} {M : vM} {Q : Option vV → vM → Prop} {l0 l1 l2 l3 l4 l5 l6 l8 a0 a1 : Int}
theorem S_R_kept (q : Q (some (vL (kk l0))) M) : cq X (d + 1) 260 [vL l0] M Q := by
  unfold kk at q
  refine E_R_kept (B_R_kept_0 (fun z => B_R_kept_14 (fun z2 => B_R_kept_28 ?_) (fun z2 => B_R_kept_22 ?_)) (fun z => B_R_kept_8 ?_))
  · rw [if_neg (by omega), if_neg (by omega)] at q
    exact q
  · rw [if_neg (by omega), if_pos (by omega)] at q
    exact q
  · rw [if_pos (by omega)] at q
    exact q
theorem WO_leaf {k s i n : Nat} {c v : Int} {w6 w8 w10 : vV} (hR : vRefs M) (hs : s < 4) (hn : n ≤ 120) (hc : okc c) (hc2 : c < 20000) (e84 : M 84 s = v)
    (go : ∀ x : Int, x = (if c < 10000 then c else if c = 10000 then (s : Int) else v) → vRefs (vm_up M 111 n x) → vw X (d + 1) 261 5 [vR 81, vI (k : Int), vI (s : Int), vI (w32 ((n : Int) + 1)), vI (w32 ((i : Int) + 1)), vI c, w6, vN, w8, vN, w10] [] (vm_up M 111 n x) Q) :
    vw X (d + 1) 261 38 [vR 81, vI (k : Int), vI (s : Int), vI (n : Int), vI (i : Int), vI c, w6, vN, w8, vN, w10] [] M Q := by
  refine B_R_worthOf_38 hR (fun z1 => B_R_worthOf_57 (fun z2 => B_R_worthOf_70 hR (by omega) (by omega) (fun hR2 => ?_)) (fun z2 => B_R_worthOf_65 hR (by omega) (fun hR2 => ?_))) (fun z1 => B_R_worthOf_51 hR (by omega) (fun hR2 => ?_))
  · rw [Int.toNat_natCast, Int.toNat_natCast, e84] at hR2 ⊢
    exact go v (by rw [if_neg (by omega), if_neg z2]) hR2
  · rw [Int.toNat_natCast] at hR2 ⊢
    exact go s (by rw [if_neg (by omega), if_pos z2]) hR2
  · rw [Int.toNat_natCast] at hR2 ⊢
    exact go c (by rw [if_pos z1]) hR2
theorem WO_bin {k s i n : Nat} {c p1 q1 : Int} {w6 w8 w10 : vV} (hR : vRefs M) (hn : n ≤ 118) (hc : okc c) (hc2 : ¬ c < 20000) (hc3 : ¬ c = 20073) (g1 : M 111 (n + 1) = q1) (g2 : M 111 n = p1) (bq : -1000000 ≤ q1 ∧ q1 ≤ 1000000) (bp : -1000000 ≤ p1 ∧ p1 ≤ 1000000)
    (go : ∀ l10, vRefs (vm_up M 111 n (kp_op c p1 q1)) → vw X (d + 1) 261 5 [vR 81, vI (k : Int), vI (s : Int), vI ((n + 1 : Nat) : Int), vI (w32 ((i : Int) + 1)), vI c, vL p1, vN, vL q1, vN, vI l10] [] (vm_up M 111 n (kp_op c p1 q1)) Q) :
    vw X (d + 1) 261 148 [vR 81, vI (k : Int), vI (s : Int), vI ((n + 1 + 1 : Nat) : Int), vI (i : Int), vI c, w6, vN, w8, vN, w10] [] M Q := by
  have u1 : w32 (((n + 1 + 1 : Nat) : Int) + (-1)) = ((n + 1 : Nat) : Int) := by rw [w32_i (by omega)]; omega
  have u2 : w32 (((n + 1 : Nat) : Int) - 1) = (n : Int) := by rw [w32_i (by omega)]; omega
  have u3 : w32 (c - 20000) = c - 20000 := w32_i (by unfold okc at hc; omega)
  have m := mul_s' (b := p1 + 1000000) (B := 2000000) (a := q1) (A := 1000000) (by omega) bq
  have e2 : (p1 + 1000000) * q1 = p1 * q1 + 1000000 * q1 := Int.add_mul _ _ _
  have fin : ∀ {x l10 : Int}, x = kp_op c p1 q1 → vw X (d + 1) 261 272 [vR 81, vI (k : Int), vI (s : Int), vI ((n + 1 : Nat) : Int), vI (i : Int), vI c, vL p1, vN, vL q1, vN, vI l10] [vL x, vI (n : Int), vR 111] M Q := fun {x l10} hx => by
    subst hx
    refine B_R_worthOf_272 hR (by omega) (fun hR2 => ?_)
    rw [Int.toNat_natCast] at hR2 ⊢
    exact go _ hR2
  refine B_R_worthOf_148 hR (by rw [u1, u2]; omega) (by rw [u1]; omega) (fun z1 => ?_) (fun z1 => ?_)
  · rw [u3] at z1
    rw [u1, u2, u3, Int.toNat_natCast, Int.toNat_natCast, g1, g2]
    refine B_R_worthOf_199 (fun z2 => B_R_worthOf_214 (fun z3 => B_R_worthOf_229 (fun z4 => B_R_worthOf_254 (fun z5 => B_R_worthOf_267 (S_R_kept (fin ?_))) (fun z5 => B_R_worthOf_262 (S_R_kept (fin ?_)))) (fun z4 => B_R_worthOf_236 (fun z5 => B_R_worthOf_249 (S_R_kept (fin ?_))) (fun z5 => B_R_worthOf_244 (S_R_kept (fin ?_))))) (fun z3 => B_R_worthOf_221 ?_)) (fun z2 => B_R_worthOf_206 ?_)
    · unfold kp_op
      rw [if_neg (by omega), if_neg (by omega), if_neg (by omega), if_neg (by omega), if_neg (by omega)]
    · unfold kp_op
      rw [if_neg (by omega), if_neg (by omega), if_neg (by omega), if_neg (by omega), if_pos (by omega)]
    · unfold kp_op
      rw [if_neg (by omega), if_neg (by omega), if_neg (by omega), if_pos (by omega), if_neg (by omega)]
    · unfold kp_op
      rw [if_neg (by omega), if_neg (by omega), if_neg (by omega), if_pos (by omega), if_pos (by omega)]
    · rw [w64_i (x := p1 * q1) (by omega)]
      refine S_R_kept (fin ?_)
      unfold kp_op
      rw [if_neg (by omega), if_neg (by omega), if_pos (by omega)]
    · rw [w64_i (x := p1 - q1) (by omega)]
      refine S_R_kept (fin ?_)
      unfold kp_op
      rw [if_neg (by omega), if_pos (by omega)]
  · rw [u3] at z1
    rw [u1, u2, u3, Int.toNat_natCast, Int.toNat_natCast, g1, g2]
    refine B_R_worthOf_191 ?_
    rw [w64_i (x := p1 + q1) (by omega)]
    refine S_R_kept (fin ?_)
    unfold kp_op
    rw [if_pos (by omega)]
theorem wu1 {n : Nat} (hn : n ≤ 116) : w32 (((n + 1 + 1 + 1 + 1 : Nat) : Int) + (-3)) = ((n + 1 : Nat) : Int) := by rw [w32_i (by omega)]; omega
theorem wu2 {n : Nat} (hn : n ≤ 116) : w32 (((n + 1 : Nat) : Int) - 1) = (n : Int) := by rw [w32_i (by omega)]; omega
theorem wu3 {n : Nat} (hn : n ≤ 116) : w32 (((n + 1 : Nat) : Int) + 1) = ((n + 1 + 1 : Nat) : Int) := by rw [w32_i (by omega)]; omega
theorem wu4 {n : Nat} (hn : n ≤ 116) : w32 (((n + 1 : Nat) : Int) + 2) = ((n + 1 + 1 + 1 : Nat) : Int) := by rw [w32_i (by omega)]; omega
theorem wb {n m : Nat} (h : m ≤ n + 3) (hn : n ≤ 116) : 0 ≤ (m : Int) ∧ (m : Int) < (130 : Nat) := by omega
theorem w64_d {a b : Int} (ha : -1000000 ≤ a ∧ a ≤ 1000000) (hb : -1000000 ≤ b ∧ b ≤ 1000000) : w64 (a - b) = a - b := w64_i (by omega)
theorem WO_if {k s i n : Nat} {z1 y1 x1 v1 : Int} {w6 w8 w10 : vV} (hR : vRefs M) (hn : n ≤ 116) (g1 : M 111 (n + 1 + 1 + 1) = z1) (g2 : M 111 (n + 1 + 1) = y1) (g3 : M 111 (n + 1) = x1) (g4 : M 111 n = v1) (b3 : -1000000 ≤ x1 ∧ x1 ≤ 1000000) (b4 : -1000000 ≤ v1 ∧ v1 ≤ 1000000)
    (go : vRefs (vm_up M 111 n (if kk (v1 - x1) < 0 then y1 else z1)) → vw X (d + 1) 261 5 [vR 81, vI (k : Int), vI (s : Int), vI ((n + 1 : Nat) : Int), vI (w32 ((i : Int) + 1)), vI 20073, w6, vN, w8, vN, w10] [] (vm_up M 111 n (if kk (v1 - x1) < 0 then y1 else z1)) Q) :
    vw X (d + 1) 261 92 [vR 81, vI (k : Int), vI (s : Int), vI ((n + 1 + 1 + 1 + 1 : Nat) : Int), vI (i : Int), vI 20073, w6, vN, w8, vN, w10] [] M Q := by
  have e64 := w64_d b4 b3
  refine B_R_worthOf_92 hR (by rw [wu1 hn, wu2 hn]; exact wb (n := n) (Nat.le_add_right n 3) hn) (by rw [wu1 hn]; exact wb (n := n) (Nat.add_le_add_left (show 1 ≤ 3 by decide) n) hn) ?_
  rw [wu1 hn, wu2 hn, Int.toNat_natCast, Int.toNat_natCast, g3, g4, e64]
  refine S_R_kept (B_R_worthOf_120 (fun z2 => B_R_worthOf_136 hR (by rw [wu4 hn]; exact wb (n := n) (Nat.le_refl _) hn) (wb (n := n) (Nat.le_add_right n 3) hn) (fun hR2 => ?_)) (fun z2 => B_R_worthOf_125 hR (by rw [wu3 hn]; exact wb (n := n) (Nat.add_le_add_left (show 2 ≤ 3 by decide) n) hn) (wb (n := n) (Nat.le_add_right n 3) hn) (fun hR2 => ?_)))
  · rw [wu4 hn, Int.toNat_natCast, Int.toNat_natCast, g1] at hR2
    rw [wu4 hn, Int.toNat_natCast, Int.toNat_natCast, g1]
    rw [if_neg (Int.not_lt.mpr z2)] at go
    exact go hR2
  · rw [wu3 hn, Int.toNat_natCast, Int.toNat_natCast, g2] at hR2
    rw [wu3 hn, Int.toNat_natCast, Int.toNat_natCast, g2]
    rw [if_pos z2] at go
    exact go hR2
theorem ix_s {a i j : Nat} : a + (i + 1) + j = a + i + (j + 1) := by omega
theorem ix_e {k : Nat} (hk : k < 8) (i : Nat) (hi : i ≤ 120) : w32 (w32 (120 * (k : Int)) + (i : Int)) = ((120 * k + i : Nat) : Int) := by rw [w32_i (x := 120 * (k : Int)) (by omega), w32_i (by omega)]; omega
theorem ix_m {k : Nat} (hk : k < 8) : 120 * k ≤ 840 := by omega
theorem nxl {n : Nat} (h : n ≤ 120) : w32 ((n : Int) + 1) = ((n + 1 : Nat) : Int) := by rw [w32_i (by omega)]; omega
theorem ix_b {A i : Nat} (hA : A ≤ 840) (hi : i ≤ 119) : 0 ≤ ((A + i : Nat) : Int) ∧ ((A + i : Nat) : Int) < (960 : Nat) := by omega
theorem len_2 {r i : Nat} (h : r + 1 + 1 ≤ i) (hi : i ≤ 119) : r ≤ 118 := by omega
theorem len_2' {r i : Nat} (h : r + 1 + 1 ≤ i) : r + 1 ≤ i + 1 := by omega
theorem len_4 {r i : Nat} (h : r + 1 + 1 + 1 + 1 ≤ i) (hi : i ≤ 119) : r ≤ 116 := by omega
theorem len_4' {r i : Nat} (h : r + 1 + 1 + 1 + 1 ≤ i) : r + 1 ≤ i + 1 := by omega
theorem leaf_b {c v : Int} {s : Nat} (hc : okc c) (z : c < 20000) (hs : s < 4) (hv2 : -99 ≤ v ∧ v ≤ 99) : -1000000 ≤ (if c < 10000 then c else if c = 10000 then (s : Int) else v) ∧ (if c < 10000 then c else if c = 10000 then (s : Int) else v) ≤ 1000000 := by
  unfold okc at hc
  split
  · omega
  · split <;> omega
theorem getD_z (c : Int) (l : List Int) : (c :: l).getD 0 0 = c := rfl
theorem getD_s (c : Int) (l : List Int) (j : Nat) : (c :: l).getD (j + 1) 0 = l.getD j 0 := rfl
set_option maxHeartbeats 100000 in
theorem LP_R_worthOf {k s A : Nat} {v : Int} {n : Nat} (hk : k < 8) (hA : A ≤ 840) (hei : ∀ i : Nat, i ≤ 120 → w32 (w32 (120 * (k : Int)) + (i : Int)) = ((A + i : Nat) : Int)) (hs : s < 4) (hv : M 84 s = v) (hv2 : -99 ≤ v ∧ v ≤ 99) (hl : M 107 k = (n : Int)) (hn : n ≤ 120) : ∀ (rest : List Int) (i : Nat) (st : List Int) (M1 : vM) (w5 w6 w8 w10 : vV), vRefs M1 → Fr (fun b _ => b = 111) M M1 → SK M1 st → (∀ x ∈ st, -1000000 ≤ x ∧ x ≤ 1000000) → st.length ≤ i → i + rest.length = n → (∀ j m : Nat, j < rest.length → m = A + i + j → M 108 m = rest.getD j 0) → (∀ x ∈ rest, okc x) → kd rest st.length = some 1 → (∀ M1, vRefs M1 → Fr (fun b _ => b = 111) M M1 → Q (some (vI (cl ((kp_ev s v rest st).headD 0)))) M1) → vw X (d + 1) 261 5 [vR 81, vI (k : Int), vI (s : Int), vI (st.length : Int), vI (i : Int), w5, w6, vN, w8, vN, w10] [] M1 Q := by
  intro rest
  induction rest with
  | nil =>
    intro i st M1 w5 w6 w8 w10 hR f hS hb h1 h2 h3 h4 h5 q
    have e107 : M1 107 k = (n : Int) := by rw [f 107 k (show ¬ ((107 : Nat) = 111) by decide)]; exact hl
    rw [List.length_nil] at h2
    have h6 : st.length = 1 := Option.some.inj h5
    obtain ⟨x, rfl⟩ : ∃ x, st = [x] := by
      cases st with
      | nil => cases h6
      | cons a t => cases t with
        | nil => exact ⟨a, rfl⟩
        | cons b t => cases h6
    have e0 : M1 111 0 = x := hS.1
    have bx := hb x (List.mem_singleton.mpr rfl)
    have q := q M1 hR f
    have q : Q (some (vI (cl x))) M1 := q
    unfold cl at q
    refine B_R_worthOf_5 hR (by omega) (fun _ => B_R_worthOf_279 hR (fun z => B_R_worthOf_294 hR (fun z2 => B_R_worthOf_313 hR ?_) (fun z2 => B_R_worthOf_307 ?_)) (fun z => B_R_worthOf_290 ?_)) (fun z => by rw [Int.toNat_natCast, e107] at z; exfalso; omega)
    · rw [if_neg (by omega), if_neg (by omega)] at q
      rw [j_l2i_id (by omega), e0]
      exact q
    · rw [if_neg (by omega), if_pos (by omega)] at q
      exact q
    · rw [if_pos (by omega)] at q
      exact q
  | cons c rest ih =>
    intro i st M1 w5 w6 w8 w10 hR f hS hb h1 h2 h3 h4 h5 q
    rw [List.length_cons] at h2 h3
    have hin : (i : Int) < n := by omega
    have hb1 : i ≤ 119 := by omega
    have hk8 : 0 ≤ (k : Int) ∧ (k : Int) < (8 : Nat) := by omega
    have nx := nxl (n := i) (by omega)
    have e107 : M1 107 k = (n : Int) := by rw [f 107 k (show ¬ ((107 : Nat) = 111) by decide)]; exact hl
    have ei := hei i (Nat.le_succ_of_le hb1)
    have ec : M1 108 (A + i) = c := by rw [f 108 _ (show ¬ ((108 : Nat) = 111) by decide)]; exact (h3 0 _ (Nat.succ_pos _) rfl).trans (getD_z c rest)
    have h3' : ∀ j m : Nat, j < rest.length → m = A + (i + 1) + j → M 108 m = rest.getD j 0 := fun j m hj hm => (h3 (j + 1) m (Nat.succ_lt_succ hj) (hm.trans ix_s)).trans (getD_s c rest j)
    have hc := h4 c (List.mem_cons_self)
    have h4' : ∀ x ∈ rest, okc x := fun x hx => h4 x (List.mem_cons_of_mem c hx)
    rw [kd] at h5
    have go : ∀ {M1 : vM} {st : List Int} {w5 w6 w8 w10 : vV}, vRefs M1 → Fr (fun b _ => b = 111) M M1 → SK M1 st → (∀ x ∈ st, -1000000 ≤ x ∧ x ≤ 1000000) → st.length ≤ i + 1 → kd rest st.length = some 1 → (∀ M1, vRefs M1 → Fr (fun b _ => b = 111) M M1 → Q (some (vI (cl ((kp_ev s v rest st).headD 0)))) M1) → vw X (d + 1) 261 5 [vR 81, vI (k : Int), vI (s : Int), vI (st.length : Int), vI ((i + 1 : Nat) : Int), w5, w6, vN, w8, vN, w10] [] M1 Q := fun {M1} {st} {w5 w6 w8 w10} y1 y2 y3 y4 y5 y6 y7 => ih (i + 1) st M1 w5 w6 w8 w10 y1 y2 y3 y4 y5 ((Nat.add_right_comm i 1 rest.length).trans h2) h3' h4' y6 y7
    have q' : ∀ M1, vRefs M1 → Fr (fun b _ => b = 111) M M1 → Q (some (vI (cl ((kp_ev s v rest (kp_st s v c st)).headD 0)))) M1 := q
    have e84 : M1 84 s = v := by rw [f 84 s (show ¬ ((84 : Nat) = 111) by decide)]; exact hv
    refine B_R_worthOf_5 hR hk8 (fun z => by rw [Int.toNat_natCast, e107] at z; exact absurd z (Int.not_le.mpr hin)) (fun _ => B_R_worthOf_16 hR (by rw [ei]; exact ix_b hA hb1) (fun z => ?_) (fun z => ?_))
    · rw [ei, Int.toNat_natCast, ec] at z ⊢
      rw [if_neg (Int.not_lt.mpr z)] at h5
      refine B_R_worthOf_84 (fun y => ?_) (fun y => ?_)
      · rw [if_neg y] at h5
        by_cases h6 : 2 ≤ st.length
        · rw [if_pos h6] at h5
          obtain ⟨q1, p1, r, rfl⟩ : ∃ q1 p1 r, st = q1 :: p1 :: r := by
            cases st with
            | nil => exact absurd h6 (by decide)
            | cons a t => cases t with
              | nil => exact absurd h6 (show ¬ 2 ≤ 1 by decide)
              | cons b t => exact ⟨a, b, t, rfl⟩
          rw [List.length_cons, List.length_cons] at h1 h5 ⊢
          have hq := hb q1 List.mem_cons_self
          have hp := hb p1 (List.mem_cons_of_mem _ List.mem_cons_self)
          refine WO_bin (n := r.length) hR (len_2 h1 hb1) hc (Int.not_lt.mpr z) y hS.1 hS.2.1 hq hp (fun l10 hR2 => ?_)
          rw [nx]
          refine go (st := kp_op c p1 q1 :: r) hR2 (f.up rfl) ⟨vm_up_s, SK_up r hS.2.2 (Nat.le_refl _)⟩ (fun x hx => ?_) (by rw [List.length_cons]; exact len_2' h1) h5 (fun M2 w1 w2 => ?_)
          · rcases List.mem_cons.mp hx with h | h
            · rw [h]; exact kk_r _
            · exact hb x (List.mem_cons_of_mem _ (List.mem_cons_of_mem _ h))
          · have := q' M2 w1 w2
            unfold kp_st at this
            rw [if_neg (Int.not_lt.mpr z), if_neg y] at this
            exact this
        · rw [if_neg h6] at h5
          cases h5
      · rw [if_pos y] at h5
        by_cases h6 : 4 ≤ st.length
        · rw [if_pos h6] at h5
          obtain ⟨z1, y1, x1, v1, r, rfl⟩ : ∃ z1 y1 x1 v1 r, st = z1 :: y1 :: x1 :: v1 :: r := by
            cases st with
            | nil => exact absurd h6 (by decide)
            | cons a t => cases t with
              | nil => exact absurd h6 (show ¬ 4 ≤ 1 by decide)
              | cons b t => cases t with
                | nil => exact absurd h6 (show ¬ 4 ≤ 2 by decide)
                | cons a2 t => cases t with
                  | nil => exact absurd h6 (show ¬ 4 ≤ 3 by decide)
                  | cons b2 t => exact ⟨a, b, a2, b2, t, rfl⟩
          rw [List.length_cons, List.length_cons, List.length_cons, List.length_cons] at h1 h5 ⊢
          have b1 := hb z1 List.mem_cons_self
          have b2 := hb y1 (List.mem_cons_of_mem _ List.mem_cons_self)
          have b3 := hb x1 (List.mem_cons_of_mem _ (List.mem_cons_of_mem _ List.mem_cons_self))
          have b4 := hb v1 (List.mem_cons_of_mem _ (List.mem_cons_of_mem _ (List.mem_cons_of_mem _ List.mem_cons_self)))
          subst y
          refine WO_if (n := r.length) hR (len_4 h1 hb1) hS.1 hS.2.1 hS.2.2.1 hS.2.2.2.1 b3 b4 (fun hR2 => ?_)
          rw [nx]
          refine go (st := (if kk (v1 - x1) < 0 then y1 else z1) :: r) hR2 (f.up rfl) ⟨vm_up_s, SK_up r hS.2.2.2.2 (Nat.le_refl _)⟩ (fun t ht => ?_) (by rw [List.length_cons]; exact len_4' h1) h5 (fun M2 w1 w2 => q' M2 w1 w2)
          rcases List.mem_cons.mp ht with h | h
          · rw [h]
            split
            · exact b2
            · exact b1
          · exact hb t (List.mem_cons_of_mem _ (List.mem_cons_of_mem _ (List.mem_cons_of_mem _ (List.mem_cons_of_mem _ h))))
        · rw [if_neg h6] at h5
          cases h5
    · rw [ei, Int.toNat_natCast, ec] at z ⊢
      rw [if_pos z] at h5
      have u1 := nxl (n := st.length) (Nat.le_trans h1 (Nat.le_succ_of_le hb1))
      refine WO_leaf hR hs (Nat.le_trans h1 (Nat.le_succ_of_le hb1)) hc z e84 (fun x hx hR2 => ?_)
      rw [nx, u1]
      refine go (st := x :: st) hR2 (f.up rfl) ⟨vm_up_s, SK_up st hS (Nat.le_refl _)⟩ (fun t ht => ?_) (by rw [List.length_cons]; exact Nat.succ_le_succ h1) h5 (fun M2 w1 w2 => ?_)
      · rcases List.mem_cons.mp ht with h | h
        · rw [h, hx]
          exact leaf_b hc z hs hv2
        · exact hb t h
      · have := q' M2 w1 w2
        unfold kp_st at this
        rw [if_pos z] at this
        subst hx
        exact this
theorem kcode_of {k : Nat} {c : List Int} (h : kp_all (kp_g (M (59 + k)) (M 67 k).toNat) (M 67 k).toNat = .inr c) : kcode M k = c := by
  unfold kcode
  rw [h]
theorem S_R_worthOf {k s : Nat} (hR : vRefs M) (hK : RK M) (hk : (k : Int) < M 56 5) (hs : s < 4) (hv2 : -99 ≤ M 84 s ∧ M 84 s ≤ 99) (q : ∀ M1, vRefs M1 → Fr (fun b _ => b = 111) M M1 → Q (some (vI (kw M k s (M 84 s)))) M1) : cq X (d + 2) 261 [vR 81, vI (k : Int), vI (s : Int)] M Q := by
  have h8 : k < 8 := by have := hK.2.2.2.2.1; omega
  obtain ⟨t1, c, t2, t3, t4, t5⟩ := hK.2.2.2.2.2 k h8 hk
  have W := KW_all t2
  have ek := kcode_of t2
  unfold kw at q
  rw [ek] at q
  exact E_R_worthOf (B_R_worthOf_0 (LP_R_worthOf (A := 120 * k) h8 (ix_m h8) (ix_e h8) hs rfl hv2 t4 t3 c 0 [] M _ _ _ _ hR Fr.refl trivial (fun x hx => by cases hx) (Nat.le_refl 0) (by omega) (fun j m hj hm => by rw [hm, Nat.add_zero]; exact t5 j hj) W.2 (W.1 0) q))
set_option maxHeartbeats 60000 in
theorem S_Co_paid {k s : Nat} {v : Int} (hR : vRefs M) (hK : RK M) (hk : (k : Int) < M 56 5) (hs : s < 4) (hv : -99 ≤ v ∧ v ≤ 99) (q : ∀ M1, vRefs M1 → Fr (fun b _ => b = 68) M M1 → Q (some (vI (kw M k s v))) M1) : cq X (d + 35) 43 [vR 56, vI (k : Int), vI (s : Int), vI v] M Q := by
  have h8 : k < 8 := by have := hK.2.2.2.2.1; omega
  obtain ⟨t1, c, t2, t3, t4, t5⟩ := hK.2.2.2.2.2 k h8 hk
  have ek := kcode_of t2
  unfold kw at q
  rw [ek] at q
  refine E_Co_paid (B_Co_paid_0 hR (by omega) (by omega) ?_)
  rw [Int.toNat_natCast]
  have tx : vS0[59 + k]? = some (.inr (2, 120)) := by
    have := vrs_58 (i := (k : Int)) (by omega)
    rwa [Int.toNat_natCast] at this
  rw [show M 67 k = (((M 67 k).toNat : Nat) : Int) by omega]
  refine S_works (M := M) (e := (M 67 k).toNat) hR tx (by omega) (by omega) (by omega) hv (fun M1 x f hf _ _ _ => ?_) (fun M1 x c2 hc hV hR1 hf _ => ?_)
  · rw [t2] at hf
    cases hf
  · rw [t2] at hc
    cases hc
    have e : (kp_ev s v c []).headD 0 = x := by rw [hV.1]; rfl
    rw [e] at q
    have q := q M1 hR1 hf
    unfold cl at q
    have b := hV.2
    refine B_Co_paid_21 (S_minL (B_Co_paid_32 (S_maxL (B_Co_paid_35 ?_))))
    by_cases h1 : x < 0
    · rw [if_pos h1] at q
      rw [if_pos (show x < 999 by omega), if_pos h1, j_l2i_id (by omega)]
      exact q
    · rw [if_neg h1] at q
      by_cases h2 : 999 < x
      · rw [if_pos h2] at q
        rw [if_neg (show ¬ x < 999 by omega), if_neg (by decide), j_l2i_id (by omega)]
        exact q
      · rw [if_neg h2] at q
        by_cases h3 : x < 999
        · rw [if_pos h3, if_neg h1, j_l2i_id (by omega)]
          exact q
        · have : x = 999 := by omega
          subst this
          rw [if_neg h3, if_neg (by decide), j_l2i_id (by omega)]
          exact q
end WO
