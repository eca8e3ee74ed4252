/-! SHARES ARE ASKED FOR -/
/-- the s-th act beside a; the place of b -/
def ib (a s : Nat) : Nat := if s < a then s else s + 1
def pl (a b : Nat) : Nat := if b < a then b else b - 1
theorem ib_pl {a b : Nat} (h : b ≠ a) : ib a (pl a b) = b := by
  unfold ib pl
  by_cases z : b < a
  · rw [if_pos z, if_pos z]
  · rw [if_neg z, if_neg (by omega)]; omega
theorem pl_ib (a s : Nat) : pl a (ib a s) = s ∧ ib a s ≠ a := by
  unfold ib pl
  by_cases z : s < a
  · rw [if_pos z, if_pos z]; omega
  · rw [if_neg z, if_neg (by omega)]; omega
/-- +1 at an even line, -1 at an odd one -/
def sg2 (i : Nat) : Int := if i % 2 = 0 then 1 else -1
def shA (n a m : Nat) (ch : Nat → Nat → Int) (co : Nat → Int) (i s : Nat) : Int := if i = 0 then (if s < n then co (ib a s) else 0) else if i ≤ 4 then (if i = s + 1 then 1 else 0) else if i < 5 + m ∧ s < n then sg2 (i - 5) * ch (ib a s) ((i - 5) / 2) else 0
def shC (a m : Nat) (ch : Nat → Nat → Int) (i : Nat) : Int := if 5 ≤ i ∧ i < 5 + m then -(sg2 (i - 5) * ch a ((i - 5) / 2)) else 0
def shT (n a m : Nat) (ch : Nat → Nat → Int) (co : Nat → Int) (i j : Nat) : Int := if j = 0 then shC a m ch (ml n i) else shA n a m ch co (ml n i) (j - 1)
section SH
variable {X : vX} {d : Nat} {M M0 : vM} {Q : Option vV → vM → Prop} {n ss a w : Nat}
/-- n unknowns, ss sights -/
def ShH (n ss a w : Nat) (M0 : vM) : Prop := RA M0 ∧ M0 1 0 = (ss : Int) ∧ M0 1 4 = ((n + 1 : Nat) : Int) ∧ a < n + 1 ∧ w < 2
abbrev shc (M0 : vM) (w : Nat) (b k : Nat) : Int := pch M0 b w k
abbrev hA (n ss a w : Nat) (M0 : vM) : Nat → Nat → Int := shA n a (2 * ss) (shc M0 w) (M0 2)
abbrev hC (ss a w : Nat) (M0 : vM) : Nat → Int := shC a (2 * ss) (shc M0 w)
abbrev hT (n ss a w : Nat) (M0 : vM) : Nat → Nat → Int := shT n a (2 * ss) (shc M0 w) (M0 2)
theorem ShH_n (h : ShH n ss a w M0) : n ≤ 3 ∧ 2 ≤ ss ∧ ss ≤ 4 := by
  have h1 := h.1.1
  have h2 := h.1.2.2.1
  have := h.2.1
  have := h.2.2.1
  omega
theorem shc_r (h : ShH n ss a w M0) {b k : Nat} (hb : b < 4) (hk : k < 4) : 0 ≤ shc M0 w b k ∧ shc M0 w b k ≤ 12 := by
  have := h.1.2.2.2.2.2.2.2.2.2.1 b w k hb h.2.2.2.2 hk
  unfold shc pch
  rw [if_pos ⟨hb, h.2.2.2.2⟩]
  exact ⟨this.2.1, this.2.2.1⟩
theorem sg2_r (i : Nat) : sg2 i = 1 ∨ sg2 i = -1 := by unfold sg2; split <;> omega
theorem ib_r (h : ShH n ss a w M0) {s : Nat} (hs : s < n) : ib a s < n + 1 := by have := h.2.2.2.1; unfold ib; split <;> omega
theorem sh_A (h : ShH n ss a w M0) : LpA n (2 * ss) (hA n ss a w M0) (hC ss a w M0) := by
  have hn := ShH_n h
  refine ⟨by omega, by omega, fun k s hk hs => ?_, fun k hk => ?_, fun i s hi hs hs4 => ?_⟩
  · unfold hA shA
    rw [if_neg (by omega), if_pos (by omega)]
    by_cases e : k = s
    · rw [if_pos (by omega), if_pos e]
    · rw [if_neg (by omega), if_neg e]
  · unfold hC shC
    rw [if_neg (by omega)]
  · unfold hA shA
    by_cases h0 : i = 0
    · rw [if_pos h0, if_neg (by omega)]
    · rw [if_neg h0]
      by_cases h4 : i ≤ 4
      · rw [if_pos h4, if_neg (by unfold rl at hi; omega)]
      · rw [if_neg h4, if_neg (by omega)]
theorem sh_B (h : ShH n ss a w M0) : LpB (hA n ss a w M0) (hC ss a w M0) := by
  have hn := ShH_n h
  refine ⟨fun i s hi hs => ?_, fun s hs => ?_, fun i => ?_⟩
  · unfold hA shA
    rw [if_neg (by omega)]
    by_cases h4 : i ≤ 4
    · rw [if_pos h4]; unfold bd; split <;> omega
    · rw [if_neg h4]
      by_cases hm : i < 5 + 2 * ss ∧ s < n
      · rw [if_pos hm]
        have c := shc_r h (b := ib a s) (k := (i - 5) / 2) (by have := ib_r h hm.2; omega) (by omega)
        unfold bd
        rcases sg2_r (i - 5) with e | e <;> rw [e] <;> omega
      · rw [if_neg hm]; unfold bd; omega
  · unfold hA shA
    rw [if_pos rfl]
    by_cases z : s < n
    · rw [if_pos z]
      have := (h.1.2.2.2.2.2.2.1 (ib a s) (by have := ib_r h z; omega)).2
      unfold bd; omega
    · rw [if_neg z]; unfold bd; omega
  · unfold hC shC
    by_cases hm : 5 ≤ i ∧ i < 5 + 2 * ss
    · rw [if_pos hm]
      have c := shc_r h (b := a) (k := (i - 5) / 2) (by have := h.2.2.2.1; omega) (by omega)
      unfold bd
      rcases sg2_r (i - 5) with e | e <;> rw [e] <;> omega
    · rw [if_neg hm]; unfold bd; omega
theorem sh_T (h : ShH n ss a w M0) {M1 : vM} (hT1 : AskT n (1 + n + 2 * ss) 1 (hT n ss a w M0) M1) : SvT n (2 * ss) (hA n ss a w M0) (hC ss a w M0) lpB0 M1 := by
  have hA1 := sh_A h
  have hn := hA1.1
  refine ⟨⟨hT1.1, hT1.2.1, by rw [hT1.2.2.1, lp_D0 hA1]⟩, fun i hi j hj => ?_⟩
  rw [hT1.2.2.2 i hi j (by omega)]
  cases j with
  | zero => exact (lp_00 hA1).symm
  | succ j => exact (lp_T0 hA1 (by omega)).symm
theorem sh_fr (h : ShH n ss a w M0) (f : Fr sSv M0 M) : M 1 0 = (ss : Int) ∧ M 1 4 = ((n + 1 : Nat) : Int) ∧ (∀ b : Nat, M 2 b = M0 2 b) ∧ ∀ b k : Nat, b < 4 → a_ch M (b : Int) (w : Int) (k : Int) = shc M0 w b k := by
  refine ⟨by rw [f 1 0 (by omega)]; exact h.2.1, by rw [f 1 4 (by omega)]; exact h.2.2.1, fun b => f 2 b (by omega), fun b k hb => ?_⟩
  unfold a_ch shc pch
  rw [Int.toNat_natCast, Int.toNat_natCast, Int.toNat_natCast, if_pos ⟨hb, h.2.2.2.2⟩]
  exact f _ _ (by have := h.2.2.2.2; omega)
theorem S_placeBeside {b : Nat} (hba : b ≠ a) (h1 : a < 4) (h2 : b < 4) (q : Q (some (vI (pl a b : Int))) M) : cq X (d + 1) 26 [vI (a : Int), vI (b : Int)] M Q := by
  refine E_Ac_placeBeside (B_Ac_placeBeside_0 (fun z => B_Ac_placeBeside_9 ?_) (fun z => B_Ac_placeBeside_5 ?_))
  · have e : w32 ((b : Int) - 1) = (pl a b : Int) := by rw [w32_i (by omega)]; unfold pl; rw [if_neg (by omega)]; omega
    rw [e]
    exact q
  · have e : (b : Int) = (pl a b : Int) := by unfold pl; rw [if_pos (by omega)]
    rw [e]
    exact q
/-- row r as far as the acts below b -/
def rwS (r a : Nat) (c : Int) (v : Nat → Int) (b : Nat) (T : Nat → Nat → Int) (i j : Nat) : Int := if i = r then (if j = 0 then c else if ib a (j - 1) < b then v (ib a (j - 1)) else 0) else T i j
theorem rwS_up {r L b : Nat} {c : Int} {v : Nat → Int} {T : Nat → Nat → Int} (hba : b ≠ a) (h : AskT n L 1 (fun i j => if i = r ∧ j = pl a b + 1 then rwS r a c v b T i j + v b else rwS r a c v b T i j) M) : AskT n L 1 (rwS r a c v (b + 1) T) M := AskT_c h (fun i hi j hj => by
  unfold rwS
  by_cases e : i = r
  · by_cases e2 : j = 0
    · rw [if_pos e, if_pos e2, if_neg (by omega), if_pos e, if_pos e2]
    · have hib : ib a (j - 1) = b ↔ j - 1 = pl a b := ⟨fun z => by rw [← z]; exact (pl_ib a (j - 1)).1.symm, fun z => by rw [z]; exact ib_pl hba⟩
      by_cases e3 : j = pl a b + 1
      · have e4 : ib a (j - 1) = b := hib.mpr (by omega)
        rw [if_pos e, if_neg e2, if_pos (by omega), if_pos ⟨e, e3⟩, if_pos e, if_neg e2, if_neg (by omega), e4]; omega
      · have e4 : ¬ ib a (j - 1) = b := fun z => e3 (by have := hib.mp z; omega)
        rw [if_pos e, if_neg e2, if_neg (show ¬ (i = r ∧ j = pl a b + 1) by omega), if_pos e, if_neg e2]
        by_cases e5 : ib a (j - 1) < b
        · rw [if_pos (by omega), if_pos e5]
        · rw [if_neg (by omega), if_neg e5]
  · rw [if_neg e, if_neg (by omega), if_neg e])
theorem rwS_skip {r L : Nat} {c : Int} {v : Nat → Int} {T : Nat → Nat → Int} (h : AskT n L 1 (rwS r a c v a T) M) : AskT n L 1 (rwS r a c v (a + 1) T) M := AskT_c h (fun i hi j hj => by
  unfold rwS
  by_cases e : i = r
  · by_cases e2 : j = 0
    · rw [if_pos e, if_pos e, if_pos e2, if_pos e2]
    · have := (pl_ib a (j - 1)).2
      rw [if_pos e, if_pos e, if_neg e2, if_neg e2]
      by_cases e5 : ib a (j - 1) < a
      · rw [if_pos (by omega), if_pos e5]
      · rw [if_neg (by omega), if_neg e5]
  · rw [if_neg e, if_neg e])
theorem rwS_b {r b j : Nat} {c : Int} {v : Nat → Int} {T : Nat → Nat → Int} (hv : ∀ i, i < b → bd 100 (v i)) : bd 100000 (rwS r a c v b T r (j + 1)) := by
  unfold rwS
  rw [if_pos rfl, if_neg (by omega)]
  by_cases z : ib a (j + 1 - 1) < b
  · rw [if_pos z]; exact bd_l (hv _ z) (by decide)
  · rw [if_neg z]; unfold bd; omega
theorem pl_r (h : ShH n ss a w M0) {b : Nat} (hb : b < n + 1) (hba : b ≠ a) : pl a b < n := by have := h.2.2.2.1; unfold pl; split <;> omega
abbrev vS7 (a w k : Nat) (sg : Int) (w6 : vV) : List vV := [vR 1, vR 13, vI (a : Int), vI (w : Int), vI (k : Int), vI sg, w6]
theorem LP_askSharesAt {L k : Nat} {sg c : Int} {T : Nat → Nat → Int} (h : ShH n ss a w M0) (hs : sg = 1 ∨ sg = -1) (hk : k < ss) (hL : 1 ≤ L ∧ L ≤ 13) : ∀ (m b : Nat) (M : vM), b + m = n + 1 → vRefs M → AskT n L 1 (rwS (L - 1) a c (fun b => sg * shc M0 w b k) b T) M → Fr sSv M0 M → (∀ M1, vRefs M1 → AskT n L 1 (rwS (L - 1) a c (fun b => sg * shc M0 w b k) (n + 1) T) M1 → Fr sSv M0 M1 → Q none M1) → vw X (d + 2) 25 18 (vS7 a w k sg (vI (b : Int))) [] M Q
  | 0, b, M, hb, hR, hT1, f, q => by
    obtain ⟨e0, e4, e2, ec⟩ := sh_fr h f
    have eb : b = n + 1 := by omega
    rw [eb] at hT1
    exact B_Ac_askSharesAt_18 (fun _ => B_Ac_askSharesAt_61 (q M hR hT1 f)) (fun z => by exfalso; omega)
  | m + 1, b, M, hb, hR, hT1, f, q => by
    obtain ⟨e0, e4, e2, ec⟩ := sh_fr h f
    have hn := ShH_n h
    have ha := h.2.2.2.1
    have hw := h.2.2.2.2
    refine B_Ac_askSharesAt_18 (fun z => by exfalso; omega) (fun _ => B_Ac_askSharesAt_27 (fun z => B_Ac_askSharesAt_55 ?_) (fun z => B_Ac_askSharesAt_33 (S_placeBeside (by omega) (by omega) (by omega) (B_Ac_askSharesAt_40 (S_Ac_chanceAt hR (by omega) (by omega) (by omega) (B_Ac_askSharesAt_51 ?_))))))
    · rw [w32_i (by omega)]
      have eb : b = a := by omega
      rw [eb] at hT1 ⊢
      exact LP_askSharesAt h hs hk hL m (a + 1) M (by omega) hR (rwS_skip hT1) f q
    · have hv : ∀ i, i < 4 → bd 12 (sg * shc M0 w i k) := fun i hi => by
        have := shc_r h (b := i) (k := k) hi (by omega)
        unfold bd
        rcases hs with e | e <;> rw [e] <;> omega
      have hvb := hv b (by omega)
      rw [ec b k (by omega), w32_i (x := sg * shc M0 w b k) (by unfold bd at hvb; omega)]
      refine S_add hR hL (by omega) (pl_r h (by omega) (by omega)) hT1 (rwS_b (fun i hi => bd_l (hv i (by omega)) (by decide))) (bd_l hvb (by decide)) (fun M1 y1 y2 y3 => B_Ac_askSharesAt_55 ?_)
      rw [w32_i (by omega)]
      exact LP_askSharesAt h hs hk hL m (b + 1) M1 (by omega) y1 (rwS_up (by omega) y2) (f.trans y3) q
theorem sh_row (h : ShH n ss a w M0) {e : Nat} (he : e < 2 * ss) {j : Nat} (hj : j ≤ 4) : hT n ss a w M0 (1 + n + e) j = if j = 0 then -(sg2 e * shc M0 w a (e / 2)) else if ib a (j - 1) < n + 1 then sg2 e * shc M0 w (ib a (j - 1)) (e / 2) else 0 := by
  have hn := ShH_n h
  have ha := h.2.2.2.1
  have em : ml n (1 + n + e) = 5 + e := by unfold ml; rw [if_neg (by omega)]; omega
  have hib : ib a (j - 1) < n + 1 ↔ j - 1 < n := by unfold ib; split <;> omega
  unfold hT shT shC shA
  rw [em, Nat.add_sub_cancel_left, if_pos (show 5 ≤ 5 + e ∧ 5 + e < 5 + 2 * ss by omega), if_neg (show ¬ 5 + e = 0 by omega), if_neg (show ¬ 5 + e ≤ 4 by omega)]
  by_cases e0 : j = 0
  · rw [if_pos e0, if_pos e0]
  · rw [if_neg e0, if_neg e0]
    by_cases z : j - 1 < n
    · rw [if_pos ⟨by omega, z⟩, if_pos (hib.mpr z)]
    · rw [if_neg (by omega), if_neg (fun y => z (hib.mp y))]
theorem S_askSharesAt {e k : Nat} {sg : Int} (h : ShH n ss a w M0) (hk : k < ss) (he : e < 2 * ss) (hek : e / 2 = k) (hsg : sg = sg2 e) (hR : vRefs M) (hT1 : AskT n (1 + n + e) 1 (hT n ss a w M0) M) (f : Fr sSv M0 M) (q : ∀ M1, vRefs M1 → AskT n (1 + n + (e + 1)) 1 (hT n ss a w M0) M1 → Fr sSv M0 M1 → Q none M1) : cq X (d + 3) 25 [vR 1, vR 13, vI (a : Int), vI (w : Int), vI (k : Int), vI sg] M Q := by
  obtain ⟨e0, e4, e2, ec⟩ := sh_fr h f
  have hn := ShH_n h
  have ha := h.2.2.2.1
  have hw := h.2.2.2.2
  have hs : sg = 1 ∨ sg = -1 := by rw [hsg]; exact sg2_r e
  have c := shc_r h (b := a) (k := k) (by omega) (by omega)
  have hb : bd 12 (sg * shc M0 w a k) := by unfold bd; rcases hs with z | z <;> rw [z] <;> omega
  refine E_Ac_askSharesAt (B_Ac_askSharesAt_0 (S_Ac_chanceAt hR (by omega) (by omega) (by omega) (B_Ac_askSharesAt_11 ?_)))
  rw [ec a k (by omega), w32_i (x := sg * shc M0 w a k) (by unfold bd at hb; omega)]
  refine S_addRow hR (by omega) hT1 (bd_l hb (by decide)) (fun M1 y1 y2 y3 => B_Ac_askSharesAt_15 ?_)
  refine LP_askSharesAt (L := 1 + n + e + 1) (c := -(sg * shc M0 w a k)) (T := hT n ss a w M0) (b := 0) h hs hk (by omega) (n + 1) M1 (by omega) y1 (AskT_c y2 (fun i hi j hj => ?_)) (f.trans y3) (fun M2 z1 z2 z3 => q M2 z1 (AskT_c z2 (fun i hi j hj => ?_)) z3)
  · unfold rwS
    rw [Nat.add_sub_cancel]
    by_cases y : i = 1 + n + e
    · rw [if_pos y, if_pos y]
      by_cases y2 : j = 0
      · rw [if_pos y2, if_pos y2]
      · rw [if_neg y2, if_neg y2, if_neg (by omega)]
    · rw [if_neg y, if_neg y]
  · unfold rwS
    rw [Nat.add_sub_cancel]
    by_cases y : i = 1 + n + e
    · rw [if_pos y, y, sh_row h he hj, hek, hsg]
    · rw [if_neg y]
theorem LP_askShares_rows (h : ShH n ss a w M0) : ∀ (m k : Nat) (M : vM), k + m = ss → vRefs M → AskT n (1 + n + 2 * k) 1 (hT n ss a w M0) M → Fr sSv M0 M → (∀ M1, vRefs M1 → AskT n (1 + n + 2 * ss) 1 (hT n ss a w M0) M1 → Fr sSv M0 M1 → Q none M1) → vw X (d + 3) 24 54 [vR 1, vR 13, vI (a : Int), vI (w : Int), vI (k : Int)] [] M Q
  | 0, k, M, hk, hR, hT1, f, q => by
    obtain ⟨e0, e4, e2, ec⟩ := sh_fr h f
    have ek : k = ss := by omega
    subst ek
    exact B_Ac_askShares_54 (fun _ => B_Ac_askShares_89 (q M hR hT1 f)) (fun z => by exfalso; omega)
  | m + 1, k, M, hk, hR, hT1, f, q => by
    obtain ⟨e0, e4, e2, ec⟩ := sh_fr h f
    have hn := ShH_n h
    refine B_Ac_askShares_54 (fun z => by exfalso; omega) (fun _ => B_Ac_askShares_63 (S_askSharesAt (e := 2 * k) h (by omega) (by omega) (by omega) (by unfold sg2; rw [if_pos (by omega)]) hR hT1 f (fun M1 y1 y2 y3 => B_Ac_askShares_73 (S_askSharesAt (e := 2 * k + 1) h (by omega) (by omega) (by omega) (by unfold sg2; rw [if_neg (by omega)]) y1 y2 y3 (fun M2 z1 z2 z3 => B_Ac_askShares_83 ?_)))))
    rw [w32_i (by omega)]
    exact LP_askShares_rows h m (k + 1) M2 (by omega) z1 z2 z3 q
theorem LP_askShares_goal {T : Nat → Nat → Int} (h : ShH n ss a w M0) : ∀ (m b : Nat) (M : vM), b + m = n + 1 → vRefs M → AskT n (n + 1) 1 (rwS 0 a 0 (M0 2) b T) M → Fr sSv M0 M → (∀ M1, vRefs M1 → AskT n (n + 1) 1 (rwS 0 a 0 (M0 2) (n + 1) T) M1 → Fr sSv M0 M1 → vw X (d + 3) 24 54 [vR 1, vR 13, vI (a : Int), vI (w : Int), vI 0] [] M1 Q) → vw X (d + 3) 24 13 [vR 1, vR 13, vI (a : Int), vI (w : Int), vI (b : Int)] [] M Q
  | 0, b, M, hb, hR, hT1, f, q => by
    obtain ⟨e0, e4, e2, ec⟩ := sh_fr h f
    have eb : b = n + 1 := by omega
    rw [eb] at hT1
    exact B_Ac_askShares_13 (fun _ => B_Ac_askShares_51 (q M hR hT1 f)) (fun z => by exfalso; omega)
  | m + 1, b, M, hb, hR, hT1, f, q => by
    obtain ⟨e0, e4, e2, ec⟩ := sh_fr h f
    have hn := ShH_n h
    have ha := h.2.2.2.1
    refine B_Ac_askShares_13 (fun z => by exfalso; omega) (fun _ => B_Ac_askShares_22 (fun z => B_Ac_askShares_45 ?_) (fun z => B_Ac_askShares_28 (S_placeBeside (by omega) (by omega) (by omega) (B_Ac_askShares_35 hR (by omega) ?_))))
    · rw [w32_i (by omega)]
      have eb : b = a := by omega
      rw [eb] at hT1 ⊢
      exact LP_askShares_goal h m (a + 1) M (by omega) hR (rwS_skip hT1) f q
    · have hv : ∀ i, i < 4 → bd 99 (M0 2 i) := fun i hi => by have := (h.1.2.2.2.2.2.2.1 i hi).2; unfold bd; omega
      rw [Int.toNat_natCast, e2 b]
      refine S_addGoal hR (by omega) (by omega) (pl_r h (by omega) (by omega)) hT1 (rwS_b (fun i hi => bd_l (hv i (by omega)) (by decide))) (bd_l (hv b (by omega)) (by decide)) (fun M1 y1 y2 y3 => B_Ac_askShares_45 ?_)
      rw [w32_i (by omega)]
      exact LP_askShares_goal h m (b + 1) M1 (by omega) y1 (rwS_up (by omega) y2) (f.trans y3) q
theorem S_askShares (h : ShH n ss a w M) (hR : vRefs M) (q : ∀ M1, vRefs M1 → SvT n (2 * ss) (hA n ss a w M) (hC ss a w M) lpB0 M1 → Fr sSv M M1 → Q none M1) : cq X (d + 4) 24 [vR 1, vR 13, vI (a : Int), vI (w : Int)] M Q := by
  have hn := ShH_n h
  have ha := h.2.2.2.1
  have g : ∀ i, i ≤ n → ∀ j, j ≤ 4 → hT n ss a w M i j = if j = 0 then 0 else if i = 0 then (if ib a (j - 1) < n + 1 then M 2 (ib a (j - 1)) else 0) else if i = j then 1 else 0 := fun i hi j hj => by
    have em : ml n i = i := by unfold ml; rw [if_pos hi]
    have hib : ib a (j - 1) < n + 1 ↔ j - 1 < n := by unfold ib; split <;> omega
    unfold hT shT shC shA
    rw [em, if_neg (show ¬ (5 ≤ i ∧ i < 5 + 2 * ss) by omega)]
    by_cases e0 : j = 0
    · rw [if_pos e0, if_pos e0]
    · rw [if_neg e0, if_neg e0]
      by_cases h0 : i = 0
      · rw [if_pos h0, if_pos h0]
        by_cases z : j - 1 < n
        · rw [if_pos z, if_pos (hib.mpr z)]
        · rw [if_neg z, if_neg (fun y => z (hib.mp y))]
      · rw [if_neg h0, if_neg h0, if_pos (show i ≤ 4 by omega)]
        by_cases z : i = j
        · rw [if_pos z, if_pos (by omega)]
        · rw [if_neg z, if_neg (by omega)]
  refine E_Ac_askShares (B_Ac_askShares_0 ?_)
  rw [h.2.2.1, w32_i (x := ((n + 1 : Nat) : Int) - 1) (by omega), show ((n + 1 : Nat) : Int) - 1 = (n : Int) by omega]
  refine S_begin (d := d + 1) (by omega) hR (fun M1 y1 y2 y3 => B_Ac_askShares_10 ?_)
  refine LP_askShares_goal (M0 := M) (T := hT n ss a w M) (b := 0) h (n + 1) M1 (by omega) y1 (AskT_c y2 (fun i hi j hj => ?_)) y3 (fun M2 z1 z2 z3 => ?_)
  · unfold rwS
    by_cases e : i = 0
    · rw [if_pos e, if_neg (show ¬ (i = j ∧ 1 ≤ i) by omega)]
      by_cases y : j = 0
      · rw [if_pos y]
      · rw [if_neg y, if_neg (by omega)]
    · rw [if_neg e, g i (by omega) j hj, if_neg e]
      by_cases e2 : j = 0
      · rw [if_pos e2, if_neg (by omega)]
      · rw [if_neg e2]
        by_cases e3 : i = j
        · rw [if_pos e3, if_pos (by omega)]
        · rw [if_neg e3, if_neg (by omega)]
  · refine LP_askShares_rows (k := 0) h ss M2 (by omega) z1 (AskT_c (L := 1 + n + 2 * 0) (by rw [show 1 + n + 2 * 0 = n + 1 by omega]; exact z2) (fun i hi j hj => ?_)) z3 (fun M3 v1 v2 v3 => q M3 v1 (sh_T h v2) v3)
    unfold rwS
    by_cases e : i = 0
    · rw [if_pos e, g i (by omega) j hj, if_pos e]
    · rw [if_neg e]
end SH
