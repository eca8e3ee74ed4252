/-! THE REFERENCE'S SHARES: what a set gives is tried -/
section TS
variable {X : vX} {d : Nat} {M M0 : vM} {Q : Option vV → vM → Prop} {ss acts a w q : Nat} {wh wr : Nat → Nat} {ch : Nat → Nat → Int} {co : Nat → Int}
/-- what is read -/
def TrH (ss acts a w q : Nat) (wh wr : Nat → Nat) (ch : Nat → Nat → Int) (co : Nat → Int) (M : vM) : Prop := (1 ≤ q ∧ q ≤ 3) ∧ (2 ≤ ss ∧ ss ≤ 4) ∧ acts ≤ 4 ∧ a < acts ∧ w < 2 ∧ M 81 0 = (ss : Int) ∧ M 81 1 = (acts : Int) ∧ (∀ c, c < q → M 94 c = (wh c : Int) ∧ wh c < acts) ∧ (∀ c c', c < c' → c' < q → wh c ≠ wh c') ∧ (∀ r, r < q → M 95 r = (wr r : Int) ∧ wr r < ss) ∧ (∀ b k, b < acts → k < ss → M 83 (12 * b + 4 * w + k) = ch b k ∧ 0 ≤ ch b k ∧ ch b k ≤ 12) ∧ ∀ b, b < acts → M 82 b = co b ∧ 0 ≤ co b ∧ co b ≤ 99
abbrev eF (wh wr : Nat → Nat) (ch : Nat → Nat → Int) (r c : Nat) : Int := ch (wh c) (wr r)
abbrev ev (a : Nat) (wr : Nat → Nat) (ch : Nat → Nat → Int) (r : Nat) : Int := ch a (wr r)
def cr (q a : Nat) (wh wr : Nat → Nat) (ch : Nat → Nat → Int) (c : Nat) : Int := sgn (detp q (eF wh wr ch)) * detp q (colr (eF wh wr ch) c (ev a wr ch))
def ct (q : Nat) (wh wr : Nat → Nat) (ch : Nat → Nat → Int) : Int := detp q (eF wh wr ch) * sgn (detp q (eF wh wr ch))
def yb (q a : Nat) (wh wr : Nat → Nat) (ch : Nat → Nat → Int) (b : Nat) : Int := js wh (cr q a wh wr ch) q b
theorem TrH_fr (h : TrH ss acts a w q wh wr ch co M0) (f : Fr (fun b _ => b = 92) M0 M) : TrH ss acts a w q wh wr ch co M := by
  obtain ⟨h1, h2, h3, h4, h5, h6, h7, h8, h9, h10, h11, h12⟩ := h
  exact ⟨h1, h2, h3, h4, h5, by rw [f 81 0 (by omega)]; exact h6, by rw [f 81 1 (by omega)]; exact h7, fun c hc => by rw [f 94 c (by omega)]; exact h8 c hc, h9, fun r hr => by rw [f 95 r (by omega)]; exact h10 r hr, fun b k hb hk => by rw [f 83 _ (by omega)]; exact h11 b k hb hk, fun b hb => by rw [f 82 b (by omega)]; exact h12 b hb⟩
theorem TrH_md0 (h : TrH ss acts a w q wh wr ch co M) : MdH q a w (-1) (eF wh wr ch) M := by
  obtain ⟨h1, h2, h3, h4, h5, h6, h7, h8, h9, h10, h11, h12⟩ := h
  intro r c hr hc
  have e1 := h8 c hc
  have e2 := h10 r hr
  have e3 := h11 (wh c) (wr r) e1.2 e2.2
  refine ⟨by omega, by unfold bd; show -12 ≤ ch (wh c) (wr r) ∧ ch (wh c) (wr r) ≤ 12; omega, ?_⟩
  rw [if_neg (by omega), e1.1, e2.1, Int.toNat_natCast, Int.toNat_natCast]
  exact ⟨by omega, e3.1⟩
theorem TrH_md1 (h : TrH ss acts a w q wh wr ch co M) {c0 : Nat} : MdH q a w (c0 : Int) (colr (eF wh wr ch) c0 (ev a wr ch)) M := by
  obtain ⟨h1, h2, h3, h4, h5, h6, h7, h8, h9, h10, h11, h12⟩ := h
  intro r c hr hc
  have e1 := h8 c hc
  have e2 := h10 r hr
  have e3 := h11 (wh c) (wr r) e1.2 e2.2
  have e4 := h11 a (wr r) h4 e2.2
  unfold colr
  by_cases z : c = c0
  · rw [if_pos z, if_pos (by omega)]
    refine ⟨by omega, by unfold bd; show -12 ≤ ch a (wr r) ∧ ch a (wr r) ≤ 12; omega, ?_⟩
    rw [e2.1, Int.toNat_natCast]
    exact e4.1
  · rw [if_neg z, if_neg (by omega)]
    refine ⟨by omega, by unfold bd; show -12 ≤ ch (wh c) (wr r) ∧ ch (wh c) (wr r) ≤ 12; omega, ?_⟩
    rw [e1.1, e2.1, Int.toNat_natCast, Int.toNat_natCast]
    exact ⟨by omega, e3.1⟩
theorem md_b {col : Int} {G : Nat → Nat → Int} (hq : q ≤ 3) (h : MdH q a w col G M) : bd 497664 (detp q G) := det4_b (fun r s hr hs => by
  unfold pad
  by_cases e : r < q ∧ s < q
  · rw [if_pos e]; exact (h r s e.1 e.2).2.1
  · rw [if_neg e]; unfold bd; split <;> omega)
theorem cr_b (h : TrH ss acts a w q wh wr ch co M) (c : Nat) : bd 500000 (cr q a wh wr ch c) := by
  have b := md_b h.1.2 (TrH_md1 h (c0 := c))
  unfold cr
  unfold bd at b ⊢
  rcases sgn_r (detp q (eF wh wr ch)) with e | e <;> rw [e] <;> omega
theorem ct_b (h : TrH ss acts a w q wh wr ch co M) : bd 500000 (ct q wh wr ch) := by
  have b := md_b h.1.2 (TrH_md0 h)
  unfold ct
  unfold bd at b ⊢
  rcases sgn_r (detp q (eF wh wr ch)) with e | e <;> rw [e] <;> omega
theorem ct_p (hz : detp q (eF wh wr ch) ≠ 0) : 0 < ct q wh wr ch := by
  unfold ct sgn
  split <;> omega
theorem yb_b (h : TrH ss acts a w q wh wr ch co M) (b : Nat) : bd 1500000 (yb q a wh wr ch b) := by
  have := js_r (to := wh) (v := cr q a wh wr ch) (s := b) (b := 500000) (by decide) q (fun i _ => cr_b h i)
  have hq := h.1
  exact bd_l this (by omega)
abbrev vT1 (a w q : Nat) (D sg : Int) (l8 : Int) : List vV := [vR 81, vI (a : Int), vI (w : Int), vI (q : Int), vL D, vN, vL sg, vN, vI l8, vN, vN, vN, vN, vN]
theorem LP_try_zero {D sg : Int} (q1 : ∀ M1, vRefs M1 → Fr (fun b _ => b = 92) M0 M1 → (∀ j, j < 4 → M1 92 j = 0) → ∀ l8, vw X d 213 57 (vT1 a w q D sg l8) [] M1 Q) : ∀ (m k : Nat) (M : vM), k + m = 4 → vRefs M → Fr (fun b _ => b = 92) M0 M → (∀ j, j < k → M 92 j = 0) → vw X d 213 37 (vT1 a w q D sg (k : Int)) [] M Q
  | 0, k, M, hk, hR, f, hz => B_R_trySet_37 (fun _ => q1 M hR f (fun j hj => hz j (by omega)) _) (fun z => by exfalso; omega)
  | m + 1, k, M, hk, hR, f, hz => by
    refine B_R_trySet_37 (fun z => by exfalso; omega) (fun _ => B_R_trySet_43 hR (by omega) (fun hR2 => ?_))
    rw [Int.toNat_natCast] at hR2 ⊢
    rw [w32_i (by omega)]
    refine LP_try_zero q1 m (k + 1) _ (by omega) hR2 (f.up rfl) (fun j hj => ?_)
    rw [vm_up2]
    by_cases e : j = k
    · rw [if_pos ⟨rfl, e⟩]
    · rw [if_neg (by omega)]; exact hz j (by omega)
theorem LP_try_cols (h : TrH ss acts a w q wh wr ch co M0) {D : Int} (hD : D = detp q (eF wh wr ch)) (q1 : ∀ M1, vRefs M1 → Fr (fun b _ => b = 92) M0 M1 → (∀ c, c < q → 0 ≤ cr q a wh wr ch c) → (∀ b, b < 4 → M1 92 b = yb q a wh wr ch b) → M1 92 4 = ct q wh wr ch → ∀ l8, vw X (d + 3) 213 125 (vT1 a w q D (sgn D) l8) [] M1 Q) (q2 : ∀ M1, vRefs M1 → Fr (fun b _ => b = 92) M0 M1 → (¬ ∀ c, c < q → 0 ≤ cr q a wh wr ch c) → Q none M1) : ∀ (m c : Nat) (M : vM), c + m = q → vRefs M → Fr (fun b _ => b = 92) M0 M → (∀ c', c' < c → 0 ≤ cr q a wh wr ch c') → (∀ b, b < 4 → M 92 b = js wh (cr q a wh wr ch) c b) → M 92 4 = ct q wh wr ch → vw X (d + 3) 213 71 (vT1 a w q D (sgn D) (c : Int)) [] M Q
  | 0, c, M, hc, hR, f, hp, hy, h4 => by
    have e : c = q := by omega
    subst e
    exact B_R_trySet_71 (fun _ => q1 M hR f hp hy h4 _) (fun z => by exfalso; omega)
  | m + 1, c, M, hc, hR, f, hp, hy, h4 => by
    have h' := TrH_fr h f
    obtain ⟨hq, hss, hac, ha, hw, g0, g1, g94, gne, g95, g83, g82⟩ := h'
    have e94 := g94 c (by omega)
    have hcr : sgn D * detp q (colr (eF wh wr ch) c (ev a wr ch)) = cr q a wh wr ch c := by unfold cr; rw [hD]
    have hb := cr_b h c
    refine B_R_trySet_71 (fun z => by exfalso; omega) (fun _ => B_R_trySet_77 hR (by omega) (S_made hR hq (by omega) hw (TrH_md1 (TrH_fr h f) (c0 := c)) ?_))
    rw [Int.toNat_natCast, e94.1]
    refine B_R_trySet_99 hR (by omega) (by omega) ?_ ?_ ?_
    · rw [Int.toNat_natCast, Int.toNat_natCast, vm_up2, if_neg (by omega), e94.1]; omega
    · rw [hcr, bd64 hb (by decide), Int.toNat_natCast, Int.toNat_natCast, show (vm_up M 92 (wh c) (cr q a wh wr ch c)) 94 c = (wh c : Int) by rw [vm_up2, if_neg (by omega)]; exact e94.1, Int.toNat_natCast, show (vm_up M 92 (wh c) (cr q a wh wr ch c)) 92 (wh c) = cr q a wh wr ch c by rw [vm_up2, if_pos ⟨rfl, rfl⟩]]
      intro z hR2
      refine B_R_trySet_119 ?_
      rw [w32_i (by omega)]
      refine LP_try_cols h hD q1 q2 m (c + 1) _ (by omega) hR2 (f.up rfl) (fun c' hc' => ?_) (fun b hb4 => ?_) ?_
      · by_cases e : c' = c
        · rw [e]; exact z
        · exact hp c' (by omega)
      · rw [vm_up2, js]
        by_cases e : wh c = b
        · rw [if_pos ⟨rfl, e.symm⟩, if_pos e, js_z c (fun i hi => by rw [← e]; exact gne i c hi (by omega))]; omega
        · rw [if_neg (by omega), if_neg e, hy b hb4]; omega
      · rw [vm_up2, if_neg (by omega)]; exact h4
    · rw [hcr, bd64 hb (by decide), Int.toNat_natCast, Int.toNat_natCast, show (vm_up M 92 (wh c) (cr q a wh wr ch c)) 94 c = (wh c : Int) by rw [vm_up2, if_neg (by omega)]; exact e94.1, Int.toNat_natCast, show (vm_up M 92 (wh c) (cr q a wh wr ch c)) 92 (wh c) = cr q a wh wr ch c by rw [vm_up2, if_pos ⟨rfl, rfl⟩]]
      intro z hR2
      exact B_R_trySet_118 (q2 _ hR2 (f.up rfl) (fun y => by have := y c (by omega); omega))
abbrev vT2 (a w q : Nat) (D sg su : Int) (w10 w11 w12 w13 : vV) : List vV := [vR 81, vI (a : Int), vI (w : Int), vI (q : Int), vL D, vN, vL sg, vN, vL su, vN, w10, w11, w12, w13]
theorem LP_try_sum {D sg : Int} (hR : vRefs M) (hac : acts ≤ 4) (h1 : M 81 1 = (acts : Int)) {y : Nat → Int} (hy : ∀ b, b < acts → M 92 b = y b ∧ bd 1500000 (y b)) (hco : ∀ b, b < acts → M 82 b = co b ∧ 0 ≤ co b ∧ co b ≤ 99) (q1 : ∀ l10, vw X d 213 167 (vT2 a w q D sg (dot y co acts) (vI l10) vN vN vN) [] M Q) : ∀ (m b : Nat), b + m = acts → vw X d 213 131 (vT2 a w q D sg (dot y co b) (vI (b : Int)) vN vN vN) [] M Q
  | 0, b, hb => by
    have e : b = acts := by omega
    subst e
    exact B_R_trySet_131 (fun _ => q1 _) (fun z => by exfalso; omega)
  | m + 1, b, hb => by
    have y0 := hy b (by omega)
    have c0 := hco b (by omega)
    have b1 : bd (1500000 * 99) (y b * co b) := bd_m y0.2 (by unfold bd; omega)
    have b2 := dot_b (f := y) (g := co) (a := 1500000) (b := 99) b (fun i hi => (hy i (by omega)).2) (fun i hi => by have := hco i (by omega); unfold bd; omega)
    refine B_R_trySet_131 (fun z => by exfalso; omega) (fun _ => B_R_trySet_140 hR (by omega) (by omega) ?_)
    rw [Int.toNat_natCast, y0.1, c0.1, bd64 b1 (by decide), w64_i (x := dot y co b + y b * co b) (by unfold bd at b1 b2; omega), w32_i (by omega)]
    exact LP_try_sum hR hac h1 hy hco q1 m (b + 1) (by omega)
theorem LP_try_mean {D sg su : Int} {s : Nat} (hR : vRefs M) (hac : acts ≤ 4) (hw : w < 2) (hs : s < 4) (h1 : M 81 1 = (acts : Int)) {y : Nat → Int} (hy : ∀ b, b < acts → M 92 b = y b ∧ bd 1500000 (y b)) (hch : ∀ b, b < acts → M 83 (12 * b + 4 * w + s) = ch b s ∧ 0 ≤ ch b s ∧ ch b s ≤ 12) (q1 : ∀ l13, vw X (d + 1) 213 223 (vT2 a w q D sg su (vI (s : Int)) (vL (dot y (fun b => ch b s) acts)) vN (vI l13)) [] M Q) : ∀ (m b : Nat), b + m = acts → vw X (d + 1) 213 185 (vT2 a w q D sg su (vI (s : Int)) (vL (dot y (fun b => ch b s) b)) vN (vI (b : Int))) [] M Q
  | 0, b, hb => by
    have e : b = acts := by omega
    subst e
    exact B_R_trySet_185 (fun _ => q1 _) (fun z => by exfalso; omega)
  | m + 1, b, hb => by
    have y0 := hy b (by omega)
    have c0 := hch b (by omega)
    have b1 : bd (1500000 * 12) (y b * ch b s) := bd_m y0.2 (by unfold bd; omega)
    have b2 := dot_b (f := y) (g := fun b => ch b s) (a := 1500000) (b := 12) b (fun i hi => (hy i (by omega)).2) (fun i hi => by have := hch i (by omega); unfold bd; omega)
    refine B_R_trySet_185 (fun z => by exfalso; omega) (fun _ => B_R_trySet_194 hR (by omega) (S_R_chance hR (by omega) (by omega) (by omega) (B_R_trySet_212 ?_)))
    rw [a_rc, Int.toNat_natCast, Int.toNat_natCast, Int.toNat_natCast, y0.1, c0.1, bd64 b1 (by decide), w64_i (x := dot y (fun b => ch b s) b + y b * ch b s) (by unfold bd at b1 b2; omega), w32_i (by omega)]
    exact LP_try_mean hR hac hw hs h1 hy hch q1 m (b + 1) (by omega)
theorem LP_try_means {D sg su t : Int} (hR : vRefs M) (hac : acts ≤ 4) (ha : a < acts) (hss : ss ≤ 4) (hw : w < 2) (h0 : M 81 0 = (ss : Int)) (h1 : M 81 1 = (acts : Int)) {y : Nat → Int} (hy : ∀ b, b < acts → M 92 b = y b ∧ bd 1500000 (y b)) (ht : M 92 4 = t ∧ bd 500000 t) (hch : ∀ b k, b < acts → k < ss → M 83 (12 * b + 4 * w + k) = ch b k ∧ 0 ≤ ch b k ∧ ch b k ≤ 12) (q1 : (∀ s, s < ss → dot y (fun b => ch b s) acts = t * ch a s) → ∀ l10 w11 w13, vw X (d + 1) 213 252 (vT2 a w q D sg su (vI l10) w11 vN w13) [] M Q) (q2 : (¬ ∀ s, s < ss → dot y (fun b => ch b s) acts = t * ch a s) → Q none M) : ∀ (m s : Nat) (w11 w13 : vV), s + m = ss → (∀ s', s' < s → dot y (fun b => ch b s') acts = t * ch a s') → vw X (d + 1) 213 170 (vT2 a w q D sg su (vI (s : Int)) w11 vN w13) [] M Q
  | 0, s, w11, w13, hs, ok => B_R_trySet_170 (fun _ => q1 (fun s' h' => ok s' (by omega)) _ _ _) (fun z => by exfalso; omega)
  | m + 1, s, w11, w13, hs, ok => by
    have c0 := hch a s ha (by omega)
    have b1 : bd (500000 * 12) (t * ch a s) := bd_m ht.2 (by unfold bd; omega)
    refine B_R_trySet_170 (fun z => by exfalso; omega) (fun _ => B_R_trySet_179 (LP_try_mean (b := 0) hR hac hw (by omega) h1 hy (fun b hb => hch b s hb (by omega)) (fun l13 => B_R_trySet_223 hR (S_R_chance hR (by omega) (by omega) (by omega) (B_R_trySet_239 ?_ ?_))) acts (by omega))) <;> rw [a_rc, Int.toNat_natCast, Int.toNat_natCast, Int.toNat_natCast, ht.1, c0.1, bd64 b1 (by decide)] <;> intro z
    · refine B_R_trySet_246 ?_
      rw [w32_i (by omega)]
      refine LP_try_means hR hac ha hss hw h0 h1 hy ht hch q1 q2 m (s + 1) _ _ (by omega) (fun s' h' => ?_)
      by_cases e : s' = s
      · rw [e]; exact z
      · exact ok s' (by omega)
    · exact B_R_trySet_245 (q2 (fun y => z (y s (by omega))))
end TS
