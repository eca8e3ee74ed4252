/-! THE REFERENCE'S CORNERS -/
def dot (f g : Nat → Int) : Nat → Int
  | 0 => 0
  | k + 1 => dot f g k + f k * g k
theorem dot_b {f g : Nat → Int} {a b : Int} : ∀ k : Nat, (∀ i, i < k → bd a (f i)) → (∀ i, i < k → bd b (g i)) → bd (a * b * k) (dot f g k)
  | 0, _, _ => by unfold dot bd; omega
  | k + 1, h1, h2 => by
    have e := bd_a (dot_b k (fun i hi => h1 i (by omega)) (fun i hi => h2 i (by omega))) (bd_m (h1 k (by omega)) (h2 k (by omega)))
    rw [show (a * b * ((k + 1 : Nat) : Int)) = a * b * (k : Int) + a * b by rw [Int.natCast_add, Int.mul_add]; omega]
    exact e
theorem detp_b {n c : Nat} {G : Nat → Nat → Int} (hn : 1 ≤ n ∧ n ≤ 4) (hG : ∀ r s, r < n → s < n → bd (cb c s) (G r s)) : bd 100000000 (detp n G) := by
  rw [← mn_last G hn]
  exact mnr_b hn.2 hG (by omega) (by omega) (by omega)
section RC
variable {X : vX} {d : Nat} {M M0 : vM} {Q : Option vV → vM → Prop} {n N : Nat} {bA : Nat → Nat → Int} {bC : Nat → Int} {pk : Nat → Nat}
abbrev sCr (b _ : Nat) : Prop := b = 89 ∨ b = 90
def BnH (n N : Nat) (bA : Nat → Nat → Int) (bC : Nat → Int) (M : vM) : Prop := (2 ≤ n ∧ n ≤ 4) ∧ N ≤ 12 ∧ M 81 0 = (n : Int) ∧ M 81 9 = (N : Int) ∧ (∀ r s, r < N → s < n → M 87 (5 * r + s) = bA r s ∧ bd 12 (bA r s)) ∧ ∀ r, r < N → M 87 (5 * r + 4) = bC r ∧ bd 2376 (bC r)
def PkH (n N : Nat) (pk : Nat → Nat) (M : vM) : Prop := ∀ r, r < n → M 88 r = (pk r : Int) ∧ pk r < N
abbrev pF (bA : Nat → Nat → Int) (pk : Nat → Nat) (r s : Nat) : Int := bA (pk r) s
abbrev pv (bC : Nat → Int) (pk : Nat → Nat) (r : Nat) : Int := bC (pk r)
def sgn (x : Int) : Int := if x < 0 then -1 else 1
/-- the corner of the picked rows -/
def crn (n : Nat) (bA : Nat → Nat → Int) (bC : Nat → Int) (pk : Nat → Nat) (s : Nat) : Int := if s < n then sgn (detp n (pF bA pk)) * detp n (colr (pF bA pk) s (pv bC pk)) else 0
def crt (n : Nat) (bA : Nat → Nat → Int) (pk : Nat → Nat) : Int := detp n (pF bA pk) * sgn (detp n (pF bA pk))
theorem BnH_fr (h : BnH n N bA bC M0) (f : Fr (fun b j => b ≠ 87 ∧ ¬ (b = 81 ∧ (j = 0 ∨ j = 9))) M0 M) : BnH n N bA bC M := ⟨h.1, h.2.1, by rw [f 81 0 (by omega)]; exact h.2.2.1, by rw [f 81 9 (by omega)]; exact h.2.2.2.1, fun r s h1 h2 => by rw [f 87 _ (by omega)]; exact h.2.2.2.2.1 r s h1 h2, fun r h1 => by rw [f 87 _ (by omega)]; exact h.2.2.2.2.2 r h1⟩
theorem PkH_fr (h : PkH n N pk M0) (f : Fr (fun b _ => b ≠ 88) M0 M) : PkH n N pk M := fun r hr => by rw [f 88 r (by omega)]; exact h r hr
theorem S_det0 (hR : vRefs M) (h : BnH n N bA bC M) (hp : PkH n N pk M) (q : ∀ M1, vRefs M1 → Fr s89 M M1 → Q (some (vL (detp n (pF bA pk)))) M1) : cq X (d + 1) 203 [vR 81, vI (-1)] M Q := by
  refine S_determinant (cc := 5) (G0 := pF bA pk) hR ⟨h.1, by omega, h.2.2.1, fun r hr => by have := hp r hr; have := h.2.1; omega, fun r s hr hs => ?_⟩ (fun r s hr hs => ?_) q
  · have e := hp r hr
    rw [e.1, Int.toNat_natCast, if_neg (by omega)]
    exact (h.2.2.2.2.1 _ s e.2 hs).1
  · have := h.1
    unfold cb
    rw [if_neg (by omega)]
    exact (h.2.2.2.2.1 _ s (hp r hr).2 hs).2
theorem pk_b (h : BnH n N bA bC M) (hp : PkH n N pk M) : bd 100000000 (detp n (pF bA pk)) := detp_b (c := 5) (by have := h.1; omega) (fun r s hr hs => by
  have := h.1
  unfold cb
  rw [if_neg (by omega)]
  exact (h.2.2.2.2.1 _ s (hp r hr).2 hs).2)
theorem col_b (h : BnH n N bA bC M) (hp : PkH n N pk M) (c : Nat) : ∀ r s, r < n → s < n → bd (cb c s) (colr (pF bA pk) c (pv bC pk) r s) := fun r s hr hs => by
  unfold cb colr
  by_cases e : s = c
  · rw [if_pos e, if_pos e]; exact (h.2.2.2.2.2 _ (hp r hr).2).2
  · rw [if_neg e, if_neg e]; exact (h.2.2.2.2.1 _ s (hp r hr).2 hs).2
theorem S_det1 {c : Nat} (hc : c < n) (hR : vRefs M) (h : BnH n N bA bC M) (hp : PkH n N pk M) (q : ∀ M1, vRefs M1 → Fr s89 M M1 → Q (some (vL (detp n (colr (pF bA pk) c (pv bC pk))))) M1) : cq X (d + 1) 203 [vR 81, vI (c : Int)] M Q := by
  refine S_determinant (cc := c) (G0 := colr (pF bA pk) c (pv bC pk)) hR ⟨h.1, by have := h.1; omega, h.2.2.1, fun r hr => by have := hp r hr; have := h.2.1; omega, fun r s hr hs => ?_⟩ (col_b h hp c) q
  have e := hp r hr
  rw [e.1, Int.toNat_natCast]
  unfold colr
  by_cases z : s = c
  · rw [if_pos (by omega), if_pos z]; exact (h.2.2.2.2.2 _ e.2).1
  · rw [if_neg (by omega), if_neg z]; exact (h.2.2.2.2.1 _ s e.2 hs).1
theorem sgn_r (x : Int) : sgn x = 1 ∨ sgn x = -1 := by unfold sgn; split <;> omega
theorem crn_b (h : BnH n N bA bC M) (hp : PkH n N pk M) (s : Nat) : bd 100000000 (crn n bA bC pk s) := by
  unfold crn
  split
  · have b := detp_b (by have := h.1; omega) (col_b h hp s)
    unfold bd at b ⊢
    rcases sgn_r (detp n (pF bA pk)) with e | e <;> rw [e] <;> omega
  · unfold bd; omega
theorem crt_p (hz : detp n (pF bA pk) ≠ 0) : 0 < crt n bA pk := by
  unfold crt sgn
  split <;> omega
theorem crt_b (h : BnH n N bA bC M) (hp : PkH n N pk M) : bd 100000000 (crt n bA pk) := by
  have b := pk_b h hp
  unfold crt
  unfold bd at b ⊢
  rcases sgn_r (detp n (pF bA pk)) with e | e <;> rw [e] <;> omega
theorem det4_b {P : Nat → Nat → Int} (h : ∀ r s, r < 4 → s < 4 → bd 12 (P r s)) : bd 497664 (det4 P) := lp_bD (A := P) (B := fun j => j) (fun j s hj hs => h j s hj hs)
theorem crt_b5 (h : BnH n N bA bC M) (hp : PkH n N pk M) : bd 500000 (crt n bA pk) := by
  have b : bd 497664 (detp n (pF bA pk)) := det4_b (fun r s hr hs => by
    unfold pad
    by_cases e : r < n ∧ s < n
    · rw [if_pos e]; exact (h.2.2.2.2.1 _ s (hp r e.1).2 e.2).2
    · rw [if_neg e]; unfold bd; split <;> omega)
  unfold crt
  unfold bd at b ⊢
  rcases sgn_r (detp n (pF bA pk)) with e | e <;> rw [e] <;> omega
/-- the picked rows hold just -/
theorem crn_eq (hn : n ≤ 4) {r : Nat} (hr : r < n) (hA : ∀ s, n ≤ s → s < 4 → bA (pk r) s = 0) : s4 (fun s => bA (pk r) s * crn n bA bC pk s) = bC (pk r) * crt n bA pk := by
  have h := cramer (n := n) (F := pF bA pk) (v := pv bC pk) hn (x := fun s => if s < n then detp n (colr (pF bA pk) s (pv bC pk)) else 0) (fun s hs => by rw [if_pos hs]) (fun s hs => by rw [if_neg (by omega)]) hr
  have e : ∀ s, s < 4 → bA (pk r) s * crn n bA bC pk s = sgn (detp n (pF bA pk)) * (pad n (pF bA pk) r s * (if s < n then detp n (colr (pF bA pk) s (pv bC pk)) else 0)) := fun s hs => by
    unfold crn
    by_cases z : s < n
    · rw [if_pos z, if_pos z]
      unfold pad
      rw [if_pos ⟨hr, z⟩]
      grind
    · rw [if_neg z, if_neg z, Int.mul_zero, Int.mul_zero, Int.mul_zero]
  simp only [s4] at h ⊢
  rw [e 0 (by omega), e 1 (by omega), e 2 (by omega), e 3 (by omega), ← Int.mul_add, ← Int.mul_add, ← Int.mul_add, h]
  unfold crt
  show _ * (bC (pk r) * _) = _
  grind
abbrev vCo (l1 l3 : Int) (w4 w6 : vV) : List vV := [vR 81, vL l1, vN, vI l3, w4, vN, w6]
theorem LP_corner (h : BnH n N bA bC M0) (hp : PkH n N pk M0) : ∀ (w s : Nat) (M : vM), s + w = n → vRefs M → Fr sCr M0 M → M 90 4 = detp n (pF bA pk) → (∀ k, k < s → M 90 k = crn n bA bC pk k) → (∀ M1, vRefs M1 → Fr sCr M0 M1 → M1 90 4 = crt n bA pk → (∀ k, k < n → M1 90 k = crn n bA bC pk k) → vw X (d + 1) 204 84 (vCo (sgn (detp n (pF bA pk))) 0 vN vN) [] M1 Q) → vw X (d + 1) 204 45 (vCo (sgn (detp n (pF bA pk))) (s : Int) vN vN) [] M Q
  | 0, s, M, hs, hR, f, h4, hk, q => by
    have hn := h.1
    have e0 : M 81 0 = (n : Int) := by rw [f 81 0 (by omega)]; exact h.2.2.1
    have b := crt_b h hp
    refine B_R_isCorner_45 (fun _ => B_R_isCorner_72 hR (fun hR2 => ?_)) (fun z => by exfalso; omega)
    rw [h4, show detp n (pF bA pk) * sgn (detp n (pF bA pk)) = crt n bA pk from rfl, bd64 b (by decide)] at hR2 ⊢
    refine q _ hR2 (f.up (Or.inr rfl)) (by rw [vm_up2, if_pos ⟨rfl, rfl⟩]) (fun k hk2 => ?_)
    rw [vm_up2, if_neg (by omega)]
    exact hk k (by omega)
  | w + 1, s, M, hs, hR, f, h4, hk, q => by
    have hn := h.1
    have e0 : M 81 0 = (n : Int) := by rw [f 81 0 (by omega)]; exact h.2.2.1
    refine B_R_isCorner_45 (fun z => by exfalso; omega) (fun _ => B_R_isCorner_53 hR (S_det1 (c := s) (by omega) hR (BnH_fr h (f.mono (fun b j y => by omega))) (PkH_fr hp (f.mono (fun b j y => by omega))) (fun M1 y1 y2 => B_R_isCorner_64 y1 (by omega) (fun hR2 => ?_))))
    have ec : sgn (detp n (pF bA pk)) * detp n (colr (pF bA pk) s (pv bC pk)) = crn n bA bC pk s := by unfold crn; rw [if_pos (by omega)]
    rw [ec, bd64 (crn_b h hp s) (by decide), Int.toNat_natCast] at hR2 ⊢
    rw [w32_i (by omega)]
    refine LP_corner h hp w (s + 1) _ (by omega) hR2 ((f.trans (y2.mono (fun b j y => Or.inl y))).up (Or.inr rfl)) ?_ (fun k hk2 => ?_) q
    · rw [vm_up2, if_neg (by omega), y2 90 4 (by omega)]; exact h4
    · rw [vm_up2]
      by_cases e : k = s
      · rw [if_pos ⟨rfl, e⟩, e]
      · rw [if_neg (by omega), y2 90 k (by omega)]; exact hk k (by omega)
theorem LP_corner_sum (hR : vRefs M) (h : BnH n N bA bC M) {x : Nat → Int} (hx : ∀ k, k < n → M 90 k = x k ∧ bd 100000000 (x k)) {r : Nat} (hr : r < N) {l1 : Int} (q : vw X d 204 137 (vCo l1 (r : Int) (vL (dot (bA r) x n)) (vI (n : Int))) [] M Q) : ∀ (w s : Nat), s + w = n → vw X d 204 98 (vCo l1 (r : Int) (vL (dot (bA r) x s)) (vI (s : Int))) [] M Q
  | 0, s, hs => by
    have e0 := h.2.2.1
    have e : s = n := by omega
    subst e
    exact B_R_isCorner_98 (fun _ => q) (fun z => by exfalso; omega)
  | w + 1, s, hs => by
    have e0 := h.2.2.1
    have hn := h.1
    have hN := h.2.1
    have i1 : w32 (w32 (5 * (r : Int)) + (s : Int)) = ((5 * r + s : Nat) : Int) := by rw [w32_i (x := 5 * (r : Int)) (by omega), w32_i (by omega)]; omega
    have b0 := h.2.2.2.2.1 r s hr (by omega)
    have x0 := hx s (by omega)
    have b1 := bd_m b0.2 x0.2
    have b2 := dot_b (f := bA r) (g := x) (a := 12) (b := 100000000) s (fun i hi => (h.2.2.2.2.1 r i hr (by omega)).2) (fun i hi => (hx i (by omega)).2)
    refine B_R_isCorner_98 (fun z => by exfalso; omega) (fun _ => B_R_isCorner_107 hR (by rw [i1]; omega) (by omega) ?_)
    rw [i1, Int.toNat_natCast, Int.toNat_natCast, b0.1, x0.1, bd64 b1 (by decide), w64_i (x := dot (bA r) x s + bA r s * x s) (by unfold bd at b1 b2; omega), w32_i (by omega)]
    exact LP_corner_sum hR h hx hr q w (s + 1) (by omega)
theorem LP_corner_all (hR : vRefs M) (h : BnH n N bA bC M) {x : Nat → Int} {t : Int} (hx : ∀ k, k < n → M 90 k = x k ∧ bd 100000000 (x k)) (ht : M 90 4 = t ∧ bd 100000000 t) {l1 : Int} (q1 : (∀ r, r < N → bC r * t ≤ dot (bA r) x n) → Q (some (vI 1)) M) (q2 : (¬ ∀ r, r < N → bC r * t ≤ dot (bA r) x n) → Q (some (vI 0)) M) : ∀ (w r : Nat) (w4 w6 : vV), r + w = N → (∀ r', r' < r → bC r' * t ≤ dot (bA r') x n) → vw X d 204 84 (vCo l1 (r : Int) w4 w6) [] M Q
  | 0, r, w4, w6, hr, ok => by
    have e9 := h.2.2.2.1
    exact B_R_isCorner_84 (fun _ => B_R_isCorner_168 (q1 (fun r' h' => ok r' (by omega)))) (fun z => by exfalso; omega)
  | w + 1, r, w4, w6, hr, ok => by
    have e9 := h.2.2.2.1
    have hN := h.2.1
    have i1 : w32 (w32 (5 * (r : Int)) + 4) = ((5 * r + 4 : Nat) : Int) := by rw [w32_i (x := 5 * (r : Int)) (by omega), w32_i (by omega)]; omega
    have c0 := h.2.2.2.2.2 r (by omega)
    have b1 := bd_m c0.2 ht.2
    refine B_R_isCorner_84 (fun z => by exfalso; omega) (fun _ => B_R_isCorner_92 (LP_corner_sum hR h hx (by omega) (B_R_isCorner_137 hR (by rw [i1]; omega) ?_ ?_) n 0 (by omega))) <;> rw [i1, Int.toNat_natCast, c0.1, ht.1, bd64 b1 (by decide)] <;> intro z
    · refine B_R_isCorner_162 ?_
      rw [w32_i (by omega)]
      refine LP_corner_all hR h hx ht q1 q2 w (r + 1) _ _ (by omega) (fun r' h' => ?_)
      by_cases e : r' = r
      · rw [e]; exact z
      · exact ok r' (by omega)
    · exact B_R_isCorner_160 (q2 (fun y => by have := y r (by omega); omega))
theorem S_isCorner (hR : vRefs M) (h : BnH n N bA bC M) (hp : PkH n N pk M) (q0 : ∀ M1, vRefs M1 → Fr sCr M M1 → (detp n (pF bA pk) = 0 ∨ ¬ ∀ r, r < N → bC r * crt n bA pk ≤ dot (bA r) (crn n bA bC pk) n) → Q (some (vI 0)) M1) (q1 : ∀ M1, vRefs M1 → Fr sCr M M1 → detp n (pF bA pk) ≠ 0 → (∀ r, r < N → bC r * crt n bA pk ≤ dot (bA r) (crn n bA bC pk) n) → M1 90 4 = crt n bA pk → (∀ k, k < n → M1 90 k = crn n bA bC pk k) → Q (some (vI 1)) M1) : cq X (d + 2) 204 [vR 81] M Q := by
  refine E_R_isCorner (B_R_isCorner_0 hR (S_det0 hR h hp (fun M1 y1 y2 => B_R_isCorner_10 y1 (by omega) ?_ ?_))) <;> rw [vm_up2, if_pos ⟨rfl, rfl⟩] <;> intro z hR2
  · have f2 : Fr sCr M (vm_up M1 90 (Int.toNat 4) (detp n (pF bA pk))) := (y2.mono (fun b j y => Or.inl y)).up (Or.inr rfl)
    have e4 : vm_up M1 90 (Int.toNat 4) (detp n (pF bA pk)) 90 4 = detp n (pF bA pk) := by rw [vm_up2, if_pos ⟨rfl, rfl⟩]
    have go : vw X (d + 1) 204 45 (vCo (sgn (detp n (pF bA pk))) 0 vN vN) [] (vm_up M1 90 (Int.toNat 4) (detp n (pF bA pk))) Q := LP_corner (s := 0) h hp n _ (by omega) hR2 f2 e4 (fun k hk => by exfalso; omega) (fun M2 z1 z2 z3 z4 => LP_corner_all (r := 0) z1 (BnH_fr h (z2.mono (fun b j y => by omega))) (fun k hk => ⟨z4 k hk, crn_b h hp k⟩) ⟨z3, crt_b h hp⟩ (fun y => q1 M2 z1 z2 z y z3 z4) (fun y => q0 M2 z1 z2 (Or.inr y)) N _ _ (by omega) (fun r' h' => by exfalso; omega))
    refine B_R_isCorner_24 hR2 (fun y => B_R_isCorner_41 ?_) (fun y => B_R_isCorner_35 ?_) <;> rw [e4] at y
    · have e : sgn (detp n (pF bA pk)) = 1 := by unfold sgn; rw [if_neg (by omega)]
      rw [e] at go
      exact go
    · have e : sgn (detp n (pF bA pk)) = -1 := by unfold sgn; rw [if_pos y]
      rw [e] at go
      exact go
  · exact B_R_isCorner_22 (q0 _ hR2 ((y2.mono (fun b j y => Or.inl y)).up (Or.inr rfl)) (Or.inl z))
/-- a corner, the best so far: what comes in order -/
def co0 (up : Int) (x : Nat → Int) : Nat → Int
  | 0 => up
  | s + 1 => x s
theorem LP_isLess (hR : vRefs M) (hn : 2 ≤ n ∧ n ≤ 4) (h0 : M 81 0 = (n : Int)) {up t b4 : Int} {x y : Nat → Int} (hx : ∀ s, s < n → M 90 s = x s) (hy : ∀ s, s < n → M 91 s = y s) (ht : M 90 4 = t) (hb : M 91 4 = b4) (bx : ∀ s, s < n → bd 100000000 (x s)) (by2 : ∀ s, s < n → bd 100000000 (y s)) (bt : bd 100000000 t) (bb : bd 100000000 b4) {bu l1 : Int} : ∀ (w s : Nat), s + w = n → (lxp (fun i => co0 bu y i * t - co0 up x i * b4) (w + 1) s → Q (some (vI 1)) M) → (lxn (fun i => co0 up x i * b4 - co0 bu y i * t) (w + 1) s → Q (some (vI 0)) M) → vw X d 205 33 [vR 81, vL l1, vN, vL (co0 up x s * b4 - co0 bu y s * t), vN, vI (s : Int)] [] M Q
  | 0, s, hs, q1, q2 => by
    refine B_R_isLess_33 (fun _ => B_R_isLess_84 (fun z => B_R_isLess_94 (q2 ?_)) (fun z => B_R_isLess_90 (q1 (Or.inl ?_)))) (fun z => by exfalso; omega)
    · by_cases e : co0 up x s * b4 - co0 bu y s * t = 0
      · exact Or.inr ⟨e, trivial⟩
      · exact Or.inl (by show 0 < co0 up x s * b4 - co0 bu y s * t; omega)
    · show 0 < co0 bu y s * t - co0 up x s * b4
      omega
  | w + 1, s, hs, q1, q2 => by
    refine B_R_isLess_33 (fun z => by exfalso; omega) (fun _ => B_R_isLess_42 (fun z => B_R_isLess_84 (fun z2 => B_R_isLess_94 (q2 (Or.inl ?_))) (fun z2 => B_R_isLess_90 (q1 (Or.inl ?_)))) (fun z => B_R_isLess_48 hR (by omega) (by omega) ?_))
    · show 0 < co0 up x s * b4 - co0 bu y s * t
      omega
    · show 0 < co0 bu y s * t - co0 up x s * b4
      omega
    · have b1 := bd_m (bx s (by omega)) bb
      have b2 := bd_m (by2 s (by omega)) bt
      have b3 := bd_s b1 b2
      rw [Int.toNat_natCast, hx s (by omega), hy s (by omega), ht, hb, bd64 b1 (by decide), bd64 b2 (by decide), bd64 b3 (by decide), w32_i (by omega)]
      exact LP_isLess hR hn h0 hx hy ht hb bx by2 bt bb w (s + 1) (by omega) (fun u => q1 (Or.inr ⟨by show co0 bu y s * t - co0 up x s * b4 = 0; omega, u⟩)) (fun u => q2 (Or.inr ⟨z, u⟩))
theorem S_isLess (hR : vRefs M) (hn : 2 ≤ n ∧ n ≤ 4) (h0 : M 81 0 = (n : Int)) {up t b4 bu : Int} {x y : Nat → Int} (hx : ∀ s, s < n → M 90 s = x s) (hy : ∀ s, s < n → M 91 s = y s) (ht : M 90 4 = t) (hb : M 91 4 = b4) (hu : M 81 14 = bu) (bx : ∀ s, s < n → bd 100000000 (x s)) (by2 : ∀ s, s < n → bd 100000000 (y s)) (bt : bd 100000000 t) (bb : bd 100000000 b4) (bp : bd 5000000000 up) (bu2 : bd 5000000000 bu) (hF : M 81 15 ≠ 0) (q1 : lxp (fun i => co0 bu y i * t - co0 up x i * b4) (n + 1) 0 → Q (some (vI 1)) M) (q2 : lxn (fun i => co0 up x i * b4 - co0 bu y i * t) (n + 1) 0 → Q (some (vI 0)) M) : cq X (d + 1) 205 [vR 81, vL up] M Q := by
  have b1 := bd_m bp bb
  have b2 := bd_m bu2 bt
  have b3 := bd_s b1 b2
  refine E_R_isLess (B_R_isLess_0 (fun _ => B_R_isLess_9 hR ?_) (fun z => absurd z hF))
  rw [ht, hb, hu, bd64 b1 (by decide), bd64 b2 (by decide), bd64 b3 (by decide)]
  exact LP_isLess hR hn h0 hx hy ht hb bx by2 bt bb n 0 (by omega) q1 q2
theorem S_isLess0 {up : Int} (hF : M 81 15 = 0) (q : Q (some (vI 1)) M) : cq X (d + 1) 205 [vR 81, vL up] M Q := E_R_isLess (B_R_isLess_0 (fun z => absurd hF z) (fun _ => B_R_isLess_7 q))
end RC
