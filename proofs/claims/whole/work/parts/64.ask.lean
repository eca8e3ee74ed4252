/-! THE LEAST PAY IS ASKED FOR -/
def js (to : Nat → Nat) (v : Nat → Int) : Nat → Nat → Int
  | 0, _ => 0
  | k + 1, j => js to v k j + (if to k = j then v k else 0)
theorem js_z {to : Nat → Nat} {v : Nat → Int} {s : Nat} : ∀ k, (∀ i, i < k → to i ≠ s) → js to v k s = 0
  | 0, _ => rfl
  | k + 1, h => by unfold js; rw [js_z k (fun i hi => h i (by omega)), if_neg (h k (by omega))]; rfl
theorem js_r {to : Nat → Nat} {v : Nat → Int} {s : Nat} {b : Int} (hb : 0 ≤ b) : ∀ k : Nat, (∀ i, i < k → bd b (v i)) → bd (b * k) (js to v k s)
  | 0, _ => by unfold js bd; omega
  | k + 1, h => by
    have h1 := js_r (s := s) (to := to) hb k (fun i hi => h i (by omega))
    have h2 := h k (by omega)
    unfold js
    rw [show (b * ((k + 1 : Nat) : Int)) = b * (k : Int) + b by rw [Int.natCast_add, Int.mul_add]; omega]
    unfold bd at *
    split <;> omega
theorem js_p {to : Nat → Nat} {v : Nat → Int} {s : Nat} : ∀ k : Nat, (∀ i, i < k → 0 ≤ v i) → 0 ≤ js to v k s ∧ js to v k s ≤ js (fun _ => 0) v k 0
  | 0, _ => by unfold js; omega
  | k + 1, h => by
    have h1 := js_p (s := s) (to := to) k (fun i hi => h i (by omega))
    have h2 := h k (by omega)
    unfold js
    rw [if_pos rfl]
    split <;> omega
theorem js_s {to : Nat → Nat} {v v' : Nat → Int} {s : Nat} : ∀ k : Nat, js to (fun i => v i - v' i) k s = js to v k s - js to v' k s
  | 0 => rfl
  | k + 1 => by unfold js; rw [js_s k]; split <;> omega
theorem js_c {to : Nat → Nat} {v v' : Nat → Int} {s : Nat} : ∀ k : Nat, (∀ i, i < k → v i = v' i) → js to v k s = js to v' k s
  | 0, _ => rfl
  | k + 1, h => by unfold js; rw [js_c k (fun i hi => h i (by omega)), h k (by omega)]
theorem js_id {v : Nat → Int} {s : Nat} : ∀ k : Nat, js (fun i => i) v k s = if s < k then v s else 0
  | 0 => by unfold js; rw [if_neg (by omega)]
  | k + 1 => by
    unfold js
    rw [js_id k]
    by_cases h : k = s
    · rw [if_neg (by omega), if_pos h, if_pos (by omega), h]; omega
    · rw [if_neg h]
      by_cases h2 : s < k
      · rw [if_pos h2, if_pos (by omega)]; omega
      · rw [if_neg h2, if_neg (by omega)]; rfl
/-- the act of a row -/
def prow (a q : Nat) : Nat := if q - 1 < a then q - 1 else q
def pyA (acts a m : Nat) (cw : Nat → Nat → Nat → Int) (i s : Nat) : Int := if i = 0 then cw 0 a s else if i ≤ 4 then (if i = s + 1 then 1 else 0) else if i < 5 + m then (if (i - 5) % acts = 0 then cw ((i - 5) / acts) a s else cw ((i - 5) / acts) a s - cw ((i - 5) / acts) (prow a ((i - 5) % acts)) s) else 0
def pyC (acts a m : Nat) (co : Nat → Int) (re : Int) (i : Nat) : Int := if 5 ≤ i ∧ i < 5 + m then (if (i - 5) % acts = 0 then -(12 * (co a + re)) else -(12 * (co a - co (prow a ((i - 5) % acts))))) else 0
/-- the machine's table -/
def pyT (n acts a m : Nat) (cw : Nat → Nat → Nat → Int) (co : Nat → Int) (re : Int) (i j : Nat) : Int := if j = 0 then pyC acts a m co re (ml n i) else pyA acts a m cw (ml n i) (j - 1)
theorem pq_d {acts p q : Nat} (h : q < acts) : (5 + (p * acts + q) - 5) / acts = p ∧ (5 + (p * acts + q) - 5) % acts = q := by
  rw [Nat.add_sub_cancel_left]
  refine ⟨?_, ?_⟩
  · rw [Nat.add_comm, Nat.add_mul_div_right _ _ (by omega), Nat.div_eq_of_lt h, Nat.zero_add]
  · rw [Nat.add_comm, Nat.add_mul_mod_self_right, Nat.mod_eq_of_lt h]
/-- the place of act b's row -/
def qrow (a b : Nat) : Nat := if b = a then 0 else if b < a then b + 1 else b
theorem prow_q {a b : Nat} (h : b ≠ a) : prow a (qrow a b) = b ∧ qrow a b ≠ 0 := by unfold prow qrow; rw [if_neg h]; split <;> split <;> omega
theorem qrow_p {a q : Nat} (h : q ≠ 0) : qrow a (prow a q) = q ∧ prow a q ≠ a := by
  unfold prow qrow
  by_cases z : q - 1 < a
  · rw [if_pos z, if_neg (by omega), if_pos z]; omega
  · rw [if_neg z, if_neg (by omega), if_neg (by omega)]; omega
theorem pyT_r {n acts a m : Nat} {cw : Nat → Nat → Nat → Int} {co : Nat → Int} {re : Int} {p q : Nat} (hn : n ≤ 4) (hq : q < acts) (hm : p * acts + q < m) (j : Nat) : pyT n acts a m cw co re (1 + n + p * acts + q) j = if j = 0 then (if q = 0 then -(12 * (co a + re)) else -(12 * (co a - co (prow a q)))) else (if q = 0 then cw p a (j - 1) else cw p a (j - 1) - cw p (prow a q) (j - 1)) := by
  have e : ml n (1 + n + p * acts + q) = 5 + (p * acts + q) := by unfold ml; rw [if_neg (by omega)]; omega
  obtain ⟨e1, e2⟩ := pq_d (p := p) hq
  unfold pyT pyC pyA
  rw [e, e1, e2, if_pos (show 5 ≤ 5 + (p * acts + q) ∧ 5 + (p * acts + q) < 5 + m by omega), if_neg (show ¬ 5 + (p * acts + q) = 0 by omega), if_neg (show ¬ 5 + (p * acts + q) ≤ 4 by omega), if_pos (show 5 + (p * acts + q) < 5 + m by omega)]
theorem pyT_g {n acts a m : Nat} {cw : Nat → Nat → Nat → Int} {co : Nat → Int} {re : Int} {i : Nat} (hn : n ≤ 4) (hi : i ≤ n) (j : Nat) : pyT n acts a m cw co re i j = if j = 0 then 0 else if i = 0 then cw 0 a (j - 1) else if i = j then 1 else 0 := by
  have e : ml n i = i := by unfold ml; rw [if_pos hi]
  unfold pyT pyC pyA
  rw [e, if_neg (show ¬ (5 ≤ i ∧ i < 5 + m) by omega)]
  by_cases hj : j = 0
  · rw [if_pos hj, if_pos hj]
  · rw [if_neg hj, if_neg hj]
    by_cases h0 : i = 0
    · rw [if_pos h0, if_pos h0]
    · rw [if_neg h0, if_neg h0, if_pos (show i ≤ 4 by omega)]
      by_cases h : i = j
      · rw [if_pos h, if_pos (by omega)]
      · rw [if_neg h, if_neg (by omega)]
section PY
variable {X : vX} {d : Nat} {M M0 : vM} {Q : Option vV → vM → Prop} {n L acts a w : Nat} {T : Nat → Nat → Int} {to : Nat → Nat}
/-- row r stands as far as the first k sights -/
def rwT (r : Nat) (c : Int) (to : Nat → Nat) (v : Nat → Int) (k : Nat) (T : Nat → Nat → Int) (i j : Nat) : Int := if i = r then (if j = 0 then c else js to v k (j - 1)) else T i j
theorem rwT_up {r : Nat} {c : Int} {v : Nat → Int} {k L : Nat} (h : AskT n L 1 (fun i j => if i = r ∧ j = to k + 1 then rwT r c to v k T i j + v k else rwT r c to v k T i j) M) : AskT n L 1 (rwT r c to v (k + 1) T) M := AskT_c h (fun i hi j hj => by
  unfold rwT
  by_cases e : i = r
  · by_cases e2 : j = 0
    · rw [if_pos e, if_pos e2, if_neg (by omega), if_pos e, if_pos e2]
    · simp only [js]
      by_cases e3 : to k = j - 1
      · rw [if_pos e, if_neg e2, if_pos e3, if_pos (by omega), if_pos e, if_neg e2]
      · rw [if_pos e, if_neg e2, if_neg e3, if_neg (by omega), if_pos e, if_neg e2]; omega
  · rw [if_neg e, if_neg (by omega), if_neg e])
theorem rwT_b {r : Nat} {c : Int} {v : Nat → Int} {k : Nat} {j : Nat} {b : Int} (hk : k ≤ 4) (hb0 : 0 ≤ b ∧ b ≤ 12) (hb : ∀ i, i < k → bd b (v i)) : bd 100000 (rwT r c to v k T r (j + 1)) := by
  unfold rwT
  rw [if_pos rfl, if_neg (by omega)]
  refine bd_l (js_r hb0.1 k hb) ?_
  have := mul_b (a := b) (b := (k : Int)) (A := 12) (B := 4) hb0 (by omega)
  omega
/-- what the ask reads -/
def PyH (n acts : Nat) (to : Nat → Nat) (M0 : vM) : Prop := RA M0 ∧ M0 1 0 = (n : Int) ∧ M0 1 4 = (acts : Int) ∧ ∀ k, k < n → M0 80 k = (to k : Int) ∧ to k < n
def pch (M0 : vM) (b w k : Nat) : Int := if b < 4 ∧ w < 2 then M0 (4 + (2 * b + w)) k else 0
theorem pch_r (h : PyH n acts to M0) {b w k : Nat} (hb : b < 4) (hw : w < 2) (hk : k < 4) : 0 ≤ pch M0 b w k ∧ pch M0 b w k ≤ 12 := by
  have := h.1.2.2.2.2.2.2.2.2.2.1 b w k hb hw hk
  unfold pch
  rw [if_pos ⟨hb, hw⟩]
  exact ⟨this.2.1, this.2.2.1⟩
theorem PyH_fr (h : PyH n acts to M0) (f : Fr sSv M0 M) : M 1 0 = (n : Int) ∧ M 1 4 = (acts : Int) ∧ (∀ k, k < n → M 80 k = (to k : Int)) ∧ ∀ b w k : Nat, b < 4 → w < 2 → a_ch M (b : Int) (w : Int) (k : Int) = pch M0 b w k := by
  refine ⟨by rw [f 1 0 (by omega)]; exact h.2.1, by rw [f 1 4 (by omega)]; exact h.2.2.1, fun k hk => by rw [f 80 k (by omega)]; exact (h.2.2.2 k hk).1, fun b w k hb hw => ?_⟩
  unfold a_ch pch
  rw [Int.toNat_natCast, Int.toNat_natCast, Int.toNat_natCast, if_pos ⟨hb, hw⟩]
  exact f _ _ (by omega)
theorem PyH_n (h : PyH n acts to M0) : (2 ≤ n ∧ n ≤ 4) ∧ acts ≤ 4 := by
  have h1 := h.1.1
  have h2 := h.1.2.2.1
  have := h.2.1
  have := h.2.2.1
  omega
abbrev vT4 (a w : Nat) (l5 : Int) (w6 : vV) : List vV := [vR 1, vR 13, vI (a : Int), vI (w : Int), vR ((80 : Nat) : Int), vI l5, w6]
/-- the row of a's own -/
theorem LP_in_own {c : Int} (h : PyH n acts to M0) (ha : a < acts) (hw : w < 2) (hL : 1 ≤ L ∧ L ≤ 13) : ∀ (m k : Nat) (M : vM), k + m = n → vRefs M → AskT n L 1 (rwT (L - 1) c to (pch M0 a w) k T) M → Fr sSv M0 M → (∀ M1, vRefs M1 → AskT n L 1 (rwT (L - 1) c to (pch M0 a w) n T) M1 → Fr sSv M0 M1 → vw X (d + 2) 23 56 (vT4 a w 0 vN) [] M1 Q) → vw X (d + 2) 23 21 (vT4 a w (k : Int) vN) [] M Q
  | 0, k, M, hk, hR, hT, f, q => by
    have e := (PyH_fr h f).1
    have ek : k = n := by omega
    subst ek
    exact B_Ac_askPayIn_21 (fun _ => B_Ac_askPayIn_53 (q M hR hT f)) (fun z => by exfalso; omega)
  | m + 1, k, M, hk, hR, hT, f, q => by
    obtain ⟨e, e4, e80, ec⟩ := PyH_fr h f
    have hn := PyH_n h
    have t := h.2.2.2 k (by omega)
    refine B_Ac_askPayIn_21 (fun z => by exfalso; omega) (fun _ => B_Ac_askPayIn_30 rfl (by omega) (S_Ac_chanceAt hR (by omega) (by omega) (by omega) (B_Ac_askPayIn_44 ?_)))
    rw [Int.toNat_natCast, e80 k (by omega), ec a w k (by omega) hw]
    refine S_add hR hL hn.1.2 t.2 hT (rwT_b (b := 12) (by omega) (by omega) (fun i hi => by have := pch_r h (b := a) (w := w) (k := i) (by omega) hw (by omega); unfold bd; omega)) (by have := pch_r h (b := a) (w := w) (k := k) (by omega) hw (by omega); unfold bd; omega) (fun M1 y1 y2 y3 => B_Ac_askPayIn_47 ?_)
    rw [w32_i (by omega)]
    exact LP_in_own h ha hw hL m (k + 1) M1 (by omega) y1 (rwT_up y2) (f.trans y3) q
/-- the row against b -/
theorem LP_in_dif {c : Int} {b : Nat} (h : PyH n acts to M0) (ha : a < acts) (hb : b < acts) (hw : w < 2) (hL : 1 ≤ L ∧ L ≤ 13) : ∀ (m k : Nat) (M : vM), k + m = n → vRefs M → AskT n L 1 (rwT (L - 1) c to (fun i => pch M0 a w i - pch M0 b w i) k T) M → Fr sSv M0 M → (∀ M1, vRefs M1 → AskT n L 1 (rwT (L - 1) c to (fun i => pch M0 a w i - pch M0 b w i) n T) M1 → Fr sSv M0 M1 → ∀ w6, vw X (d + 2) 23 137 (vT4 a w (b : Int) w6) [] M1 Q) → vw X (d + 2) 23 95 (vT4 a w (b : Int) (vI (k : Int))) [] M Q
  | 0, k, M, hk, hR, hT, f, q => by
    have e := (PyH_fr h f).1
    have ek : k = n := by omega
    subst ek
    exact B_Ac_askPayIn_95 (fun _ => q M hR hT f _) (fun z => by exfalso; omega)
  | m + 1, k, M, hk, hR, hT, f, q => by
    obtain ⟨e, e4, e80, ec⟩ := PyH_fr h f
    have hn := PyH_n h
    have t := h.2.2.2 k (by omega)
    have hv : ∀ i, i < 4 → bd 12 (pch M0 a w i - pch M0 b w i) := fun i hi => by
      have h1 := pch_r h (b := a) (w := w) (k := i) (by omega) hw hi
      have h2 := pch_r h (b := b) (w := w) (k := i) (by omega) hw hi
      unfold bd
      omega
    have hvk := hv k (by omega)
    refine B_Ac_askPayIn_95 (fun z => by exfalso; omega) (fun _ => B_Ac_askPayIn_104 rfl (by omega) (S_Ac_chanceAt hR (by omega) (by omega) (by omega) (B_Ac_askPayIn_118 (S_Ac_chanceAt hR (by omega) (by omega) (by omega) (B_Ac_askPayIn_127 ?_)))))
    rw [Int.toNat_natCast, e80 k (by omega), ec a w k (by omega) hw, ec b w k (by omega) hw, w32_i (x := pch M0 a w k - pch M0 b w k) (by unfold bd at hvk; omega)]
    refine S_add hR hL hn.1.2 t.2 hT (rwT_b (b := 12) (by omega) (by omega) (fun i hi => hv i (by omega))) (bd_l hvk (by decide)) (fun M1 y1 y2 y3 => B_Ac_askPayIn_131 ?_)
    rw [w32_i (by omega)]
    exact LP_in_dif h ha hb hw hL m (k + 1) M1 (by omega) y1 (rwT_up y2) (f.trans y3) q
/-- rows of the acts from b on: the table's rows are T's -/
theorem LP_in_all {co : Nat → Int} (h : PyH n acts to M0) (ha : a < acts) (hw : w < 2) (hco : ∀ b, b < acts → M0 2 b = co b) {L0 : Nat} (hL0 : 1 ≤ L0 ∧ L0 + acts ≤ 13)
    (hT1 : ∀ b, b < acts → b ≠ a → ∀ j, j ≤ 4 → T (L0 + qrow a b) j = if j = 0 then -(12 * (co a - co b)) else js to (fun i => pch M0 a w i - pch M0 b w i) n (j - 1)) : ∀ (m b : Nat) (M : vM) (w6 : vV), b + m = acts → vRefs M → AskT n (L0 + (if b ≤ a then b + 1 else b)) 1 T M → Fr sSv M0 M → (∀ M1, vRefs M1 → AskT n (L0 + acts) 1 T M1 → Fr sSv M0 M1 → Q none M1) → vw X (d + 2) 23 56 (vT4 a w (b : Int) w6) [] M Q
  | 0, b, M, w6, hb, hR, hT, f, q => by
    have e := (PyH_fr h f).2.1
    refine B_Ac_askPayIn_56 (fun _ => B_Ac_askPayIn_143 (q M hR ?_ f)) (fun z => by exfalso; omega)
    rw [if_neg (by omega), show b = acts by omega] at hT
    exact hT
  | m + 1, b, M, w6, hb, hR, hT, f, q => by
    obtain ⟨e, e4, e80, ec⟩ := PyH_fr h f
    have hn := PyH_n h
    refine B_Ac_askPayIn_56 (fun z => by exfalso; omega) (fun _ => B_Ac_askPayIn_65 (fun z => B_Ac_askPayIn_137 ?_) (fun z => ?_))
    · rw [w32_i (by omega)]
      refine LP_in_all h ha hw hco hL0 hT1 m (b + 1) M _ (by omega) hR ?_ f q
      rw [if_pos (by omega)] at hT
      rw [if_neg (by omega)]
      exact hT
    · have eL : (if b ≤ a then b + 1 else b) = qrow a b := by
        unfold qrow
        rw [if_neg (show ¬ b = a by omega)]
        by_cases y : b < a
        · rw [if_pos (by omega), if_pos y]
        · rw [if_neg (by omega), if_neg y]
      have eL2 : (if b + 1 ≤ a then b + 1 + 1 else b + 1) = qrow a b + 1 := by
        unfold qrow
        rw [if_neg (show ¬ b = a by omega)]
        by_cases y : b < a
        · rw [if_pos (by omega), if_pos y]
        · rw [if_neg (by omega), if_neg y]
      have hql : qrow a b < acts := by unfold qrow; rw [if_neg (by omega)]; split <;> omega
      rw [eL] at hT
      have c1 : M 2 a = co a := by rw [f 2 a (by omega)]; exact hco a ha
      have c2 : M 2 b = co b := by rw [f 2 b (by omega)]; exact hco b (by omega)
      have g1 := a_cost_r h.1 (l1 := (a : Int)) (by omega)
      have g2 := a_cost_r h.1 (l1 := (b : Int)) (by omega)
      rw [Int.toNat_natCast, hco a ha] at g1
      rw [Int.toNat_natCast, hco b (by omega)] at g2
      refine B_Ac_askPayIn_71 hR (by omega) (by omega) ?_
      rw [Int.toNat_natCast, Int.toNat_natCast, c1, c2, w32_i (x := co a - co b) (by omega), w32_i (by omega)]
      refine S_addRow hR (by omega) hT (by unfold bd; omega) (fun M1 y1 y2 y3 => B_Ac_askPayIn_92 ?_)
      have t1 := hT1 b (by omega) (by omega)
      refine LP_in_dif (L := L0 + qrow a b + 1) (c := -(12 * (co a - co b))) (T := T) (k := 0) h ha (by omega) hw (by omega) n M1 (by omega) y1 (AskT_c y2 (fun i hi j hj => ?_)) (f.trans y3) (fun M2 z1 z2 z3 w6 => B_Ac_askPayIn_137 ?_)
      · unfold rwT
        rw [Nat.add_sub_cancel]
        by_cases y : i = L0 + qrow a b
        · rw [if_pos y, if_pos y]; rfl
        · rw [if_neg y, if_neg y]
      · rw [w32_i (by omega)]
        refine LP_in_all h ha hw hco hL0 hT1 m (b + 1) M2 _ (by omega) z1 ?_ z3 q
        rw [eL2]
        refine AskT_c z2 (fun i hi j hj => ?_)
        unfold rwT
        rw [Nat.add_sub_cancel]
        by_cases y : i = L0 + qrow a b
        · rw [if_pos y, y]; exact t1 j hj
        · rw [if_neg y]
theorem S_askPayIn {co : Nat → Int} {re : Int} (h : PyH n acts to M0) (ha : a < acts) (hw : w < 2) (hco : ∀ b, b < acts → M0 2 b = co b) (hre : M0 1 5 = re) {L0 : Nat} (hL0 : 1 ≤ L0 ∧ L0 + acts ≤ 13) (hT0 : ∀ j, j ≤ 4 → T L0 j = if j = 0 then -(12 * (co a + re)) else js to (pch M0 a w) n (j - 1))
    (hT1 : ∀ b, b < acts → b ≠ a → ∀ j, j ≤ 4 → T (L0 + qrow a b) j = if j = 0 then -(12 * (co a - co b)) else js to (fun i => pch M0 a w i - pch M0 b w i) n (j - 1)) (hR : vRefs M) (hT : AskT n L0 1 T M) (f : Fr sSv M0 M) (q : ∀ M1, vRefs M1 → AskT n (L0 + acts) 1 T M1 → Fr sSv M0 M1 → Q none M1) : cq X (d + 3) 23 [vR 1, vR 13, vI (a : Int), vI (w : Int), vR ((80 : Nat) : Int)] M Q := by
  obtain ⟨e, e4, e80, ec⟩ := PyH_fr h f
  have hn := PyH_n h
  have c1 : M 2 a = co a := by rw [f 2 a (by omega)]; exact hco a ha
  have c2 : M 1 5 = re := by rw [f 1 5 (by omega)]; exact hre
  have g1 := a_cost_r h.1 (l1 := (a : Int)) (by omega)
  have g2 := h.1.2.2.2.2.1
  rw [Int.toNat_natCast, hco a ha] at g1
  rw [hre] at g2
  refine E_Ac_askPayIn (B_Ac_askPayIn_0 hR (by omega) ?_)
  rw [Int.toNat_natCast, c1, c2, w32_i (x := co a + re) (by omega), w32_i (by omega)]
  refine S_addRow hR (by omega) hT (by unfold bd; omega) (fun M1 y1 y2 y3 => B_Ac_askPayIn_18 ?_)
  refine LP_in_own (L := L0 + 1) (c := -(12 * (co a + re))) (T := T) (k := 0) h ha hw (by omega) n M1 (by omega) y1 (AskT_c y2 (fun i hi j hj => ?_)) (f.trans y3) (fun M2 z1 z2 z3 => ?_)
  · unfold rwT
    rw [Nat.add_sub_cancel]
    by_cases y : i = L0
    · rw [if_pos y, if_pos y]; rfl
    · rw [if_neg y, if_neg y]
  · refine LP_in_all (b := 0) h ha hw hco hL0 hT1 acts M2 _ (by omega) z1 ?_ z3 q
    rw [if_pos (by omega)]
    refine AskT_c z2 (fun i hi j hj => ?_)
    unfold rwT
    rw [Nat.add_sub_cancel]
    by_cases y : i = L0
    · rw [if_pos y, y]; exact hT0 j hj
    · rw [if_neg y]
end PY
