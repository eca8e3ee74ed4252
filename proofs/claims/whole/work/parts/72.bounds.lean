/-! THE REFERENCE'S BOUNDS -/
def rA (acts a P : Nat) (cw : Nat → Nat → Nat → Int) (r s : Nat) : Int := if r < P * acts then (if r % acts = a then cw (r / acts) a s else cw (r / acts) a s - cw (r / acts) (r % acts) s) else if s = r - P * acts then 1 else 0
def rC (acts a P : Nat) (co : Nat → Int) (re : Int) (r : Nat) : Int := if r < P * acts then (if r % acts = a then 12 * (co a + re) else 12 * (co a - co (r % acts))) else 0
theorem pq_e {acts p q : Nat} (h : q < acts) : (p * acts + q) / acts = p ∧ (p * acts + q) % acts = q := by
  refine ⟨?_, ?_⟩
  · rw [Nat.add_comm, Nat.add_mul_div_right _ _ (by omega), Nat.div_eq_of_lt h, Nat.zero_add]
  · rw [Nat.add_comm, Nat.add_mul_mod_self_right, Nat.mod_eq_of_lt h]
def wq (worlds p : Nat) : Nat := if worlds = 4 then 2 else wpx worlds p
section RB
variable {X : vX} {d : Nat} {M M0 : vM} {Q : Option vV → vM → Prop} {n acts a worlds w : Nat} {co : Nat → Int} {re : Int} {cw : Nat → Nat → Nat → Int} {bA : Nat → Nat → Int} {bC : Nat → Int}
abbrev sFb (b j : Nat) : Prop := b = 87 ∨ (b = 81 ∧ j = 9)
def RbH (n acts a worlds : Nat) (cw : Nat → Nat → Nat → Int) (co : Nat → Int) (re : Int) (M : vM) : Prop := (2 ≤ n ∧ n ≤ 4) ∧ acts ≤ 4 ∧ a < acts ∧ (1 ≤ worlds ∧ worlds ≤ 4) ∧ M 81 0 = (n : Int) ∧ M 81 1 = (acts : Int) ∧ (∀ b, b < acts → M 82 b = co b ∧ 0 ≤ co b ∧ co b ≤ 99) ∧ (M 81 6 = re ∧ 0 ≤ re ∧ re ≤ 99) ∧ ∀ p b s, p < wnx worlds → b < acts → s < n → M 83 (12 * b + 4 * wq worlds p + s) = cw p b s ∧ 0 ≤ cw p b s ∧ cw p b s ≤ 12
/-- the first R bounds stand -/
def FbI (n R : Nat) (bA : Nat → Nat → Int) (bC : Nat → Int) (M : vM) : Prop := M 81 9 = (R : Int) ∧ ∀ r, r < R → (∀ s, s < n → M 87 (5 * r + s) = bA r s) ∧ M 87 (5 * r + 4) = bC r
theorem wq_r {p : Nat} (hw : 1 ≤ worlds ∧ worlds ≤ 4) (hp : p < wnx worlds) : wq worlds p < 3 := by unfold wnx at hp; unfold wq wpx; split at hp <;> split <;> (try split) <;> omega
abbrev vB6 (a worlds w : Nat) (w4 w5 : vV) : List vV := [vR 81, vI (a : Int), vI (worlds : Int), vI (w : Int), w4, w5]
theorem LP_fb_row {p b R : Nat} (h : RbH n acts a worlds cw co re M0) (hp : p < wnx worlds) (hb : b < acts) (hR12 : R < 12) (hA : ∀ s, s < n → bA R s = if b = a then cw p a s else cw p a s - cw p b s) : ∀ (m s : Nat) (M : vM), s + m = n → vRefs M → Fr sFb M0 M → FbI n R bA bC M → (∀ k, k < s → M 87 (5 * R + k) = bA R k) → (∀ M1, vRefs M1 → Fr sFb M0 M1 → FbI n R bA bC M1 → (∀ k, k < n → M1 87 (5 * R + k) = bA R k) → ∀ l5, vw X (d + 1) 202 94 (vB6 a worlds (wq worlds p) (vI (b : Int)) (vI l5)) [] M1 Q) → vw X (d + 1) 202 36 (vB6 a worlds (wq worlds p) (vI (b : Int)) (vI (s : Int))) [] M Q
  | 0, s, M, hs, hR, f, hI, hk, q => by
    have e0 : M 81 0 = (n : Int) := by rw [f 81 0 (by omega)]; exact h.2.2.2.2.1
    have e : s = n := by omega
    subst e
    exact B_R_findBounds_36 (fun _ => q M hR f hI hk _) (fun z => by exfalso; omega)
  | m + 1, s, M, hs, hR, f, hI, hk, q => by
    obtain ⟨hn, h4, ha, hw, g0, g1, gc, gr, gw⟩ := h
    have e0 : M 81 0 = (n : Int) := by rw [f 81 0 (by omega)]; exact g0
    have hq := wq_r hw hp
    have c1 := gw p a s hp ha (by omega)
    have c2 := gw p b s hp hb (by omega)
    have i1 : Unit → w32 (w32 (5 * M 81 9) + (s : Int)) = ((5 * R + s : Nat) : Int) := fun _ => by rw [hI.1, w32_i (x := 5 * (R : Int)) (by omega), w32_i (by omega)]; omega
    have ch : ∀ c, c < acts → a_rc M (c : Int) ((wq worlds p : Nat) : Int) (s : Int) = cw p c s := fun c hc => by
      rw [a_rc, Int.toNat_natCast, Int.toNat_natCast, Int.toNat_natCast, f 83 _ (by omega)]
      exact (gw p c s hp hc (by omega)).1
    have nx : ∀ x, x = bA R s → vRefs (vm_up M 87 (5 * R + s) x) → vw X (d + 1) 202 36 (vB6 a worlds (wq worlds p) (vI (b : Int)) (vI (w32 ((s : Int) + 1)))) [] (vm_up M 87 (5 * R + s) x) Q := fun x hx hR2 => by
      rw [w32_i (by omega)]
      refine LP_fb_row ⟨hn, h4, ha, hw, g0, g1, gc, gr, gw⟩ hp hb hR12 hA m (s + 1) _ (by omega) hR2 (f.up (Or.inl rfl)) ⟨?_, fun r hr => ⟨fun k hk2 => ?_, ?_⟩⟩ (fun k hk2 => ?_) q
      · rw [vm_up2, if_neg (by omega)]; exact hI.1
      · rw [vm_up2, if_neg (by omega)]; exact (hI.2 r hr).1 k hk2
      · rw [vm_up2, if_neg (by omega)]; exact (hI.2 r hr).2
      · rw [vm_up2]
        by_cases e : k = s
        · rw [if_pos (by omega), hx, e]
        · rw [if_neg (by omega)]; exact hk k (by omega)
    refine B_R_findBounds_36 (fun z => by exfalso; omega) (fun _ => B_R_findBounds_45 hR (S_R_chance hR (by omega) (by omega) (by omega) ?_))
    rw [ch a ha, i1 ()]
    refine B_R_findBounds_66 (fun z => B_R_findBounds_76 (S_R_chance hR (by omega) (by omega) (by omega) ?_)) (fun z => B_R_findBounds_72 hR (by omega) (fun hR2 => ?_))
    · rw [ch b hb]
      refine B_R_findBounds_85 hR (by omega) (fun hR2 => ?_)
      rw [w32_i (x := cw p a s - cw p b s) (by omega), Int.toNat_natCast] at hR2 ⊢
      exact nx _ (by rw [hA s (by omega), if_neg (by omega)]) hR2
    · rw [w32_i (x := cw p a s - 0) (by omega), Int.toNat_natCast] at hR2 ⊢
      exact nx _ (by rw [hA s (by omega), if_pos (by omega)]; omega) hR2
theorem FbI_next {R : Nat} {M : vM} {x : Int} (hI : FbI n R bA bC M) (hn : n ≤ 4) (hk : ∀ k, k < n → M 87 (5 * R + k) = bA R k) (hx : x = bC R) : FbI n (R + 1) bA bC (vm_up (vm_up M 87 (5 * R + 4) x) 81 9 ((R + 1 : Nat) : Int)) := by
  refine ⟨by rw [vm_up2, if_pos ⟨rfl, rfl⟩], fun r hr => ⟨fun s hs => ?_, ?_⟩⟩
  · rw [vm_up2, if_neg (by omega), vm_up2, if_neg (by omega)]
    by_cases e : r = R
    · rw [e]; exact hk s hs
    · exact (hI.2 r (by omega)).1 s hs
  · rw [vm_up2, if_neg (by omega), vm_up2]
    by_cases e : r = R
    · rw [if_pos (by omega), e]; exact hx
    · rw [if_neg (by omega)]; exact (hI.2 r (by omega)).2
theorem LP_fb_world {p R0 : Nat} (h : RbH n acts a worlds cw co re M0) (hp : p < wnx worlds) (hR12 : R0 + acts ≤ 12) (hbit : j_iand (j_ishr (worlds : Int) ((wq worlds p : Nat) : Int)) 1 = 1) (hA : ∀ b s, b < acts → s < n → bA (R0 + b) s = if b = a then cw p a s else cw p a s - cw p b s) (hC : ∀ b, b < acts → bC (R0 + b) = if b = a then 12 * (co a + re) else 12 * (co a - co b)) : ∀ (m b : Nat) (M : vM) (w5 : vV), b + m = acts → vRefs M → Fr sFb M0 M → FbI n (R0 + b) bA bC M → (∀ M1, vRefs M1 → Fr sFb M0 M1 → FbI n (R0 + acts) bA bC M1 → ∀ l4 w5, vw X (d + 1) 202 161 (vB6 a worlds (wq worlds p) (vI l4) w5) [] M1 Q) → vw X (d + 1) 202 15 (vB6 a worlds (wq worlds p) (vI (b : Int)) w5) [] M Q
  | 0, b, M, w5, hb, hR, f, hI, q => by
    have e1 : M 81 1 = (acts : Int) := by rw [f 81 1 (by omega)]; exact h.2.2.2.2.2.1
    have e : b = acts := by omega
    subst e
    exact B_R_findBounds_15 (fun _ => q M hR f hI _ _) (fun z => by exfalso; omega)
  | m + 1, b, M, w5, hb, hR, f, hI, q => by
    have e1 : M 81 1 = (acts : Int) := by rw [f 81 1 (by omega)]; exact h.2.2.2.2.2.1
    refine B_R_findBounds_15 (fun z => by exfalso; omega) (fun _ => B_R_findBounds_24 (fun z => absurd hbit z) (fun _ => B_R_findBounds_33 ?_))
    refine LP_fb_row (s := 0) (p := p) (b := b) (R := R0 + b) (bC := bC) h hp (by omega) (by omega) (fun s hs => hA b s (by omega) hs) n M (by omega) hR f hI (fun k hk => by exfalso; omega) (fun M1 y1 y2 y3 y4 l5 => ?_)
    have hC0 := hC b (by omega)
    obtain ⟨hn, h4, ha, hw, g0, g1, gc, gr, gw⟩ := h
    have ca := gc a ha
    have cb' := gc b (by omega)
    have i1 : Unit → w32 (w32 (5 * M1 81 9) + 4) = ((5 * (R0 + b) + 4 : Nat) : Int) := fun _ => by rw [y3.1, w32_i (x := 5 * ((R0 + b : Nat) : Int)) (by omega), w32_i (by omega)]; omega
    have go : ∀ x, x = bC (R0 + b) → vRefs (vm_up (vm_up M1 87 (5 * (R0 + b) + 4) x) 81 9 (w32 ((vm_up M1 87 (5 * (R0 + b) + 4) x) 81 9 + 1))) → vw X (d + 1) 202 15 (vB6 a worlds (wq worlds p) (vI (w32 ((b : Int) + 1))) (vI l5)) [] (vm_up (vm_up M1 87 (5 * (R0 + b) + 4) x) 81 9 (w32 ((vm_up M1 87 (5 * (R0 + b) + 4) x) 81 9 + 1))) Q := fun x hx hR2 => by
      have e9 : w32 ((vm_up M1 87 (5 * (R0 + b) + 4) x) 81 9 + 1) = ((R0 + b + 1 : Nat) : Int) := by rw [vm_up2, if_neg (by omega), y3.1, w32_i (by omega)]; omega
      rw [e9] at hR2 ⊢
      rw [w32_i (by omega)]
      exact LP_fb_world ⟨hn, h4, ha, hw, g0, g1, gc, gr, gw⟩ hp hR12 hbit hA hC m (b + 1) _ _ (by omega) hR2 ((y2.up (Or.inl rfl)).up (Or.inr ⟨rfl, rfl⟩)) (FbI_next y3 hn.2 y4 hx) q
    refine B_R_findBounds_94 y1 (fun z => ?_) (fun z => ?_) <;> rw [i1 ()]
    · refine B_R_findBounds_128 y1 (by omega) (by omega) (by omega) (fun hR2 => ?_)
      rw [Int.toNat_natCast, Int.toNat_natCast, Int.toNat_natCast, y2 82 a (by omega), y2 82 b (by omega), ca.1, cb'.1, w32_i (x := co a - co b) (by omega), w32_i (x := 12 * (co a - co b)) (by omega)] at hR2 ⊢
      exact go _ (by rw [hC0, if_neg (by omega)]) hR2
    · refine B_R_findBounds_114 y1 (by omega) (by omega) (fun hR2 => ?_)
      rw [Int.toNat_natCast, Int.toNat_natCast, y2 82 a (by omega), y2 81 6 (by omega), ca.1, gr.1, w32_i (x := co a + re) (by omega), w32_i (x := 12 * (co a + re)) (by omega)] at hR2 ⊢
      exact go _ (by rw [hC0, if_pos (by omega)]) hR2
theorem LP_fb_one {R k : Nat} {w5 : vV} (hn : n ≤ 4) (hk4 : k < n) (hR12 : R < 12) (hA : ∀ s, s < n → bA R s = if s = k then 1 else 0) (hC : bC R = 0) : ∀ (m s : Nat) (M : vM), s + m = 5 → vRefs M → Fr sFb M0 M → FbI n R bA bC M → (∀ j, j < s → M 87 (5 * R + j) = if j = k then 1 else 0) → (∀ M1, vRefs M1 → Fr sFb M0 M1 → FbI n (R + 1) bA bC M1 → ∀ l4, vw X (d + 1) 202 169 (vB6 a worlds (k + 1) (vI l4) w5) [] M1 Q) → vw X (d + 1) 202 180 (vB6 a worlds k (vI (s : Int)) w5) [] M Q
  | 0, s, M, hs, hR, f, hI, hk, q => by
    refine B_R_findBounds_180 (fun _ => B_R_findBounds_217 hR (fun hR2 => ?_)) (fun z => by exfalso; omega)
    rw [hI.1, w32_i (x := (R : Int) + 1) (by omega)] at hR2 ⊢
    rw [w32_i (x := (k : Int) + 1) (by omega)]
    refine q _ hR2 (f.up (Or.inr ⟨rfl, rfl⟩)) ⟨by rw [vm_up2, if_pos ⟨rfl, rfl⟩]; omega, fun r hr => ⟨fun s hs => ?_, ?_⟩⟩ _
    · rw [vm_up2, if_neg (by omega)]
      by_cases e : r = R
      · rw [e, hA s hs]; exact hk s (by omega)
      · exact (hI.2 r (by omega)).1 s hs
    · rw [vm_up2, if_neg (by omega)]
      by_cases e : r = R
      · rw [e, hC, hk 4 (by omega), if_neg (by omega)]
      · exact (hI.2 r (by omega)).2
  | m + 1, s, M, hs, hR, f, hI, hk, q => by
    have i1 : Unit → w32 (w32 (5 * M 81 9) + (s : Int)) = ((5 * R + s : Nat) : Int) := fun _ => by rw [hI.1, w32_i (x := 5 * (R : Int)) (by omega), w32_i (by omega)]; omega
    have nx : ∀ x, x = (if s = k then 1 else 0) → vRefs (vm_up M 87 (5 * R + s) x) → vw X (d + 1) 202 180 (vB6 a worlds k (vI (w32 ((s : Int) + 1))) w5) [] (vm_up M 87 (5 * R + s) x) Q := fun x hx hR2 => by
      rw [w32_i (by omega)]
      refine LP_fb_one hn hk4 hR12 hA hC m (s + 1) _ (by omega) hR2 (f.up (Or.inl rfl)) ⟨?_, fun r hr => ⟨fun j hj => ?_, ?_⟩⟩ (fun j hj => ?_) q
      · rw [vm_up2, if_neg (by omega)]; exact hI.1
      · rw [vm_up2, if_neg (by omega)]; exact (hI.2 r hr).1 j hj
      · rw [vm_up2, if_neg (by omega)]; exact (hI.2 r hr).2
      · rw [vm_up2]
        by_cases e : j = s
        · rw [if_pos (by omega), hx, e]
        · rw [if_neg (by omega)]; exact hk j (by omega)
    refine B_R_findBounds_180 (fun z => by exfalso; omega) (fun _ => B_R_findBounds_186 hR (fun z => ?_) (fun z => ?_)) <;> rw [i1 ()]
    · refine B_R_findBounds_209 hR (by omega) (fun hR2 => ?_)
      rw [Int.toNat_natCast] at hR2 ⊢
      exact nx _ (by rw [if_neg (by omega)]) hR2
    · refine B_R_findBounds_205 hR (by omega) (fun hR2 => ?_)
      rw [Int.toNat_natCast] at hR2 ⊢
      exact nx _ (by rw [if_pos (by omega)]) hR2
theorem LP_fb_ones {R0 : Nat} (hn : n ≤ 4) (h0 : M0 81 0 = (n : Int)) (hR12 : R0 + n ≤ 12) (hA : ∀ k s, k < n → s < n → bA (R0 + k) s = if s = k then 1 else 0) (hC : ∀ k, k < n → bC (R0 + k) = 0) : ∀ (m k : Nat) (M : vM) (w4 w5 : vV), k + m = n → vRefs M → Fr sFb M0 M → FbI n (R0 + k) bA bC M → (∀ M1, vRefs M1 → Fr sFb M0 M1 → FbI n (R0 + n) bA bC M1 → Q none M1) → vw X (d + 1) 202 169 (vB6 a worlds k w4 w5) [] M Q
  | 0, k, M, w4, w5, hk, hR, f, hI, q => by
    have e0 : M 81 0 = (n : Int) := by rw [f 81 0 (by omega)]; exact h0
    have e : k = n := by omega
    subst e
    exact B_R_findBounds_169 (fun _ => B_R_findBounds_233 (q M hR f hI)) (fun z => by exfalso; omega)
  | m + 1, k, M, w4, w5, hk, hR, f, hI, q => by
    have e0 : M 81 0 = (n : Int) := by rw [f 81 0 (by omega)]; exact h0
    refine B_R_findBounds_169 (fun z => by exfalso; omega) (fun _ => B_R_findBounds_177 (LP_fb_one (s := 0) (R := R0 + k) hn (by omega) (by omega) (fun s hs => hA k s (by omega) hs) (hC k (by omega)) 5 M (by omega) hR f hI (fun j hj => by exfalso; omega) (fun M1 y1 y2 y3 l4 => ?_)))
    exact LP_fb_ones hn h0 hR12 hA hC m (k + 1) M1 _ _ (by omega) y1 y2 y3 q
end RB
