/-! A TEAM that is told -/
def tm_le (f : Nat → Int) (m : Int) : Nat → Nat → Bool
  | 0, _ => true
  | n + 1, i => if f i ≤ m then tm_le f m n (i + 1) else false
theorem d_sum_ge {f : Nat → Int} (hf : ∀ i, 0 ≤ f i) : ∀ (n i : Nat) (acc : Int), acc ≤ d_sum f n i acc
  | 0, _, _ => Int.le_refl _
  | n + 1, i, acc => by
    have := d_sum_ge hf n (i + 1) (acc + f i)
    have := hf i
    rw [d_sum]
    omega
theorem tm_le_sum {f : Nat → Int} (hf : ∀ i, 0 ≤ f i) : ∀ (n i : Nat) (acc : Int), 0 ≤ acc → d_sum f n i acc ≤ 24 → tm_le f 24 n i = true
  | 0, _, _, _, _ => rfl
  | n + 1, i, acc, h0, h => by
    rw [d_sum] at h
    have h1 := d_sum_ge hf n (i + 1) (acc + f i)
    have h2 := hf i
    rw [tm_le, if_pos (by omega)]
    exact tm_le_sum hf n (i + 1) _ (by omega) h
theorem tm_le_all {f : Nat → Int} {m : Int} : ∀ (n i : Nat), tm_le f m n i = true → ∀ j, i ≤ j → j < i + n → f j ≤ m
  | 0, _, _, j, h1, h2 => by omega
  | n + 1, i, h, j, h1, h2 => by
    rw [tm_le] at h
    by_cases q : f i ≤ m
    · rw [if_pos q] at h
      by_cases e : j = i
      · subst e; exact q
      · exact tm_le_all n (i + 1) h j (by omega) (by omega)
    · rw [if_neg q] at h
      exact absurd h (by decide)
theorem ch_up_s0 {M : vM} {c n : Nat} {f : Nat → Int} {x : Int} (hx : x = f n) : vm_up (ch_up M c 0 n f) c n x = ch_up M c 0 (n + 1) f := by
  have := ch_up_s (M := M) (c := c) (o := 0) (n := n) (f := f) hx
  rwa [Nat.zero_add] at this
theorem ch_up_c {M : vM} {c n i : Nat} {f : Nat → Int} : ch_up M c 0 n f c i = if i < n then f i else M c i := by
  unfold ch_up
  by_cases e : i < n
  · rw [if_pos (by omega), if_pos e]; rfl
  · rw [if_neg (by omega), if_neg e]
def tm_ok (f : Int → Nat → Int) (m x n : Int) : Prop := 0 ≤ x ∧ tm_le (f x) m n.toNat 0 = true ∧ j_ishr x (w32 (7 * n)) = 0
section T2
variable {X : vX} {d : Nat} {M : vM} {Q : Option vV → vM → Prop} {l0 l1 l2 l3 l4 l5 a0 a1 a2 : Int}
theorem S_Te_digitAt (hx : 0 ≤ l0 ∧ l0 < 2147483648) (hi : 0 ≤ l1 ∧ l1 ≤ 4) (k : Q (some (vI (dt l0 l1.toNat))) M) : cq X (d + 1) 99 [vI l0, vI l1] M Q :=
  E_Te_digitAt (B_Te_digitAt_0 (q_i k (by rw [dt_u hx hi, dt_i hi.1])))
theorem LP_Te_areCosts (hx : 0 ≤ l1 ∧ l1 < 2147483648) (hn : 2 ≤ l0 ∧ l0 ≤ 4) : ∀ (n i : Nat), (i : Int) + n = l0 → Q (some (vI (if tm_le (dt l1) 99 n i = true ∧ j_ishr l1 (w32 (7 * l0)) = 0 then 1 else 0))) M → vw X (d + 1) 101 2 [vI l0, vI l1, vI (i : Int)] [] M Q
  | 0, i, hi, k => by
    have eu := dt_u hx (i := l0) (by omega)
    refine B_Te_areCosts_2 (fun _ => B_Te_areCosts_25 (E_Te_hasMoreDigits (B_Te_hasMoreDigits_0 (fun h => B_Te_hasMoreDigits_13 (B_Te_areCosts_30 (fun h => absurd rfl h) (fun _ => B_Te_areCosts_33 ?_))) (fun h => B_Te_hasMoreDigits_9 (B_Te_areCosts_30 (fun _ => B_Te_areCosts_37 ?_) (fun h => absurd h (by decide))))))) (fun h => by exfalso; omega)
    · rw [if_pos ⟨rfl, eu.symm.trans h⟩] at k
      exact k
    · rw [if_neg (fun q => h (eu.trans q.2))] at k
      exact k
  | n + 1, i, hi, k => by
    refine B_Te_areCosts_2 (fun h => by exfalso; omega) (fun _ => B_Te_areCosts_7 (S_Te_digitAt hx (by omega) (B_Te_areCosts_12 (fun h => B_Te_areCosts_19 ?_) (fun h => B_Te_areCosts_17 ?_))))
    · rw [Int.toNat_natCast] at h
      rw [tm_le, if_pos h] at k
      rw [w32_i (x := (i : Int) + 1) (by omega)]
      exact LP_Te_areCosts hx hn n (i + 1) (by omega) k
    · rw [Int.toNat_natCast] at h
      rw [tm_le, if_neg (show ¬ dt l1 i ≤ 99 by omega), if_neg (fun q => absurd q.1 (by decide))] at k
      exact k
theorem LP_Te_areCosts_n (hx : -2147483648 ≤ l1 ∧ l1 < 0) (hn : 2 ≤ l0 ∧ l0 ≤ 4) : ∀ (n i : Nat), (i : Int) + n = l0 → Q (some (vI 0)) M → vw X (d + 1) 101 2 [vI l0, vI l1, vI (i : Int)] [] M Q
  | 0, i, hi, k => B_Te_areCosts_2 (fun _ => B_Te_areCosts_25 (E_Te_hasMoreDigits (B_Te_hasMoreDigits_0 (fun h => absurd h (j_shr_neg hx (by rw [w32_i (x := 7 * l0) (by omega)]; omega))) (fun h => B_Te_hasMoreDigits_9 (B_Te_areCosts_30 (fun _ => B_Te_areCosts_37 k) (fun h => absurd h (by decide))))))) (fun h => by exfalso; omega)
  | n + 1, i, hi, k => B_Te_areCosts_2 (fun h => by exfalso; omega) (fun _ => B_Te_areCosts_7 (E_Te_digitAt (B_Te_digitAt_0 (B_Te_areCosts_12 (fun h => B_Te_areCosts_19 (by
      rw [w32_i (x := (i : Int) + 1) (by omega)]
      exact LP_Te_areCosts_n hx hn n (i + 1) (by omega) k)) (fun h => B_Te_areCosts_17 k)))))
theorem S_Te_areCosts {p : Prop} [Decidable p] (hp : p ↔ tm_ok dt 99 l1 l0) (hx : -2147483648 ≤ l1 ∧ l1 < 2147483648) (hn : 2 ≤ l0 ∧ l0 ≤ 4) (k : Q (some (vI (if p then 1 else 0))) M) : cq X (d + 2) 101 [vI l0, vI l1] M Q := by
  by_cases h : l1 < 0
  · rw [if_neg (fun q => by have := (hp.mp q).1; omega)] at k
    exact E_Te_areCosts (B_Te_areCosts_0 (LP_Te_areCosts_n ⟨hx.1, h⟩ hn l0.toNat 0 (by omega) k))
  · refine E_Te_areCosts (B_Te_areCosts_0 (LP_Te_areCosts ⟨by omega, hx.2⟩ hn l0.toNat 0 (by omega) (q_i k (ifc ⟨fun q => (hp.mp q).2, fun q => hp.mpr ⟨by omega, q⟩⟩))))
theorem LP_Te_areShares (hx : 0 ≤ l1 ∧ l1 < 2147483648) (hn : 2 ≤ l0 ∧ l0 ≤ 4) : ∀ (n i : Nat) (acc : Int), (i : Int) + n = l0 → 0 ≤ acc → acc ≤ 127 * i → Q (some (vI (if d_sum (dt l1) n i acc ≤ 24 ∧ j_ishr l1 (w32 (7 * l0)) = 0 then 1 else 0))) M → vw X (d + 1) 102 4 [vI l0, vI l1, vI acc, vI (i : Int)] [] M Q
  | 0, i, acc, hi, h1, h2, k => by
    have eu := dt_u hx (i := l0) (by omega)
    refine B_Te_areShares_4 (fun _ => B_Te_areShares_23 (fun h => B_Te_areShares_41 ?_) (fun hs => B_Te_areShares_29 (E_Te_hasMoreDigits (B_Te_hasMoreDigits_0 (fun h => B_Te_hasMoreDigits_13 (B_Te_areShares_34 (fun h => absurd rfl h) (fun _ => B_Te_areShares_37 ?_))) (fun h => B_Te_hasMoreDigits_9 (B_Te_areShares_34 (fun _ => B_Te_areShares_41 ?_) (fun h => absurd h (by decide)))))))) (fun h => by exfalso; omega)
    · rw [d_sum, if_neg (fun q => by omega)] at k
      exact k
    · rw [d_sum, if_pos ⟨hs, eu.symm.trans h⟩] at k
      exact k
    · rw [if_neg (fun q => h (eu.trans q.2))] at k
      exact k
  | n + 1, i, acc, hi, h1, h2, k => by
    have r := dt_r l1 i
    refine B_Te_areShares_4 (fun h => by exfalso; omega) (fun _ => B_Te_areShares_9 (S_Te_digitAt hx (by omega) (B_Te_areShares_15 ?_)))
    rw [Int.toNat_natCast, w32_i (x := acc + dt l1 i) (by omega), w32_i (x := (i : Int) + 1) (by omega)]
    exact LP_Te_areShares hx hn n (i + 1) _ (by omega) (by omega) (by omega) k
theorem LP_Te_areShares_n (hx : -2147483648 ≤ l1 ∧ l1 < 0) (hn : 2 ≤ l0 ∧ l0 ≤ 4) : ∀ (n i : Nat) (acc : Int), (i : Int) + n = l0 → Q (some (vI 0)) M → vw X (d + 1) 102 4 [vI l0, vI l1, vI acc, vI (i : Int)] [] M Q
  | 0, i, acc, hi, k => B_Te_areShares_4 (fun _ => B_Te_areShares_23 (fun h => B_Te_areShares_41 k) (fun hs => B_Te_areShares_29 (E_Te_hasMoreDigits (B_Te_hasMoreDigits_0 (fun h => absurd h (j_shr_neg hx (by rw [w32_i (x := 7 * l0) (by omega)]; omega))) (fun h => B_Te_hasMoreDigits_9 (B_Te_areShares_34 (fun _ => B_Te_areShares_41 k) (fun h => absurd h (by decide)))))))) (fun h => by exfalso; omega)
  | n + 1, i, acc, hi, k => B_Te_areShares_4 (fun h => by exfalso; omega) (fun _ => B_Te_areShares_9 (E_Te_digitAt (B_Te_digitAt_0 (B_Te_areShares_15 (by
      rw [w32_i (x := (i : Int) + 1) (by omega)]
      exact LP_Te_areShares_n hx hn n (i + 1) _ (by omega) k)))))
def ts_ok (x n : Int) : Prop := 0 ≤ x ∧ d_sum (dt x) n.toNat 0 0 ≤ 24 ∧ j_ishr x (w32 (7 * n)) = 0
theorem S_Te_areShares {p : Prop} [Decidable p] (hp : p ↔ ts_ok l1 l0) (hx : -2147483648 ≤ l1 ∧ l1 < 2147483648) (hn : 2 ≤ l0 ∧ l0 ≤ 4) (k : Q (some (vI (if p then 1 else 0))) M) : cq X (d + 2) 102 [vI l0, vI l1] M Q := by
  by_cases h : l1 < 0
  · rw [if_neg (fun q => by have := (hp.mp q).1; omega)] at k
    exact E_Te_areShares (B_Te_areShares_0 (LP_Te_areShares_n ⟨hx.1, h⟩ hn l0.toNat 0 0 (by omega) k))
  · refine E_Te_areShares (B_Te_areShares_0 (LP_Te_areShares ⟨by omega, hx.2⟩ hn l0.toNat 0 0 (by omega) (by omega) (by omega) (q_i k (ifc ⟨fun q => (hp.mp q).2, fun q => hp.mpr ⟨by omega, q⟩⟩))))
theorem LP_R_areDigits (hn : 2 ≤ l1 ∧ l1 ≤ 4) : ∀ (n i : Nat), (i : Int) + n = l1 → Q (some (vI (if tm_le (dt l0) l2 n i = true then 1 else 0))) M → vw X d 232 17 [vI l0, vI l1, vI l2, vI (i : Int)] [] M Q
  | 0, i, hi, k => B_R_areDigits_17 (fun _ => B_R_areDigits_43 k) (fun h => by exfalso; omega)
  | n + 1, i, hi, k => by
    rw [tm_le] at k
    refine B_R_areDigits_17 (fun h => by exfalso; omega) (fun _ => B_R_areDigits_22 (fun h => B_R_areDigits_37 ?_) (fun h => B_R_areDigits_35 ?_))
    · rw [dt_i (by omega), Int.toNat_natCast] at h
      rw [if_pos h] at k
      rw [w32_i (x := (i : Int) + 1) (by omega)]
      exact LP_R_areDigits hn n (i + 1) (by omega) k
    · rw [dt_i (by omega), Int.toNat_natCast] at h
      rw [if_neg (show ¬ dt l0 i ≤ l2 by omega)] at k
      exact k
theorem S_R_areDigits {p : Prop} [Decidable p] (hp : p ↔ tm_ok dt l2 l0 l1) (hn : 2 ≤ l1 ∧ l1 ≤ 4) (k : Q (some (vI (if p then 1 else 0))) M) : cq X (d + 1) 232 [vI l0, vI l1, vI l2] M Q := by
  refine E_R_areDigits (B_R_areDigits_0 (fun h => B_R_areDigits_13 ?_) (fun h => B_R_areDigits_4 (fun h2 => B_R_areDigits_15 (LP_R_areDigits hn l1.toNat 0 (by omega) (q_i k (ifc ⟨fun q => (hp.mp q).2.1, fun q => hp.mpr ⟨h, q, h2⟩⟩)))) (fun h2 => B_R_areDigits_13 ?_)))
  · rw [if_neg (fun q => by have := (hp.mp q).1; omega)] at k
    exact k
  · rw [if_neg (fun q => h2 (hp.mp q).2.2)] at k
    exact k
def tm_up (M : vM) (a b n : Nat) (f g : Nat → Int) : vM := ch_up (ch_up M a 0 n f) b 0 n g
theorem tm_up_0 {M : vM} {a b : Nat} {f g : Nat → Int} : tm_up M a b 0 f g = M := by
  unfold tm_up
  rw [ch_up_0, ch_up_0]
theorem LP_Te_set {M0 : vM} {x y : Int} (hx : 0 ≤ x ∧ x < 2147483648) (hy : 0 ≤ y ∧ y < 2147483648) {n0 : Int} (h4 : n0 ≤ 4) : ∀ (n i : Nat) (M1 : vM), (i : Int) + n = n0 → M1 = tm_up M0 50 51 i (dt x) (dt y) → vRefs M1 → (vRefs (tm_up M0 50 51 (i + n) (dt x) (dt y)) → Q none (tm_up M0 50 51 (i + n) (dt x) (dt y))) → vw X (d + 1) 103 8 [vR 49, vI n0, vI x, vI y, vI (i : Int)] [] M1 Q
  | 0, i, M1, hn, hM, hR, k => by
    subst hM
    exact B_Te_set_8 (fun _ => B_Te_set_46 (k hR)) (fun h => by exfalso; omega)
  | n + 1, i, M1, hn, hM, hR, k => by
    subst hM
    refine B_Te_set_8 (fun h => by exfalso; omega) (fun _ => B_Te_set_14 hR (S_Te_digitAt hx (by omega) (B_Te_set_26 hR (by omega) (fun hR2 => S_Te_digitAt hy (by omega) (B_Te_set_39 hR2 (by omega) (fun hR3 => ?_))))))
    have e : vm_up (vm_up (tm_up M0 50 51 i (dt x) (dt y)) 50 i (dt x i)) 51 i (dt y i) = tm_up M0 50 51 (i + 1) (dt x) (dt y) := by
      unfold tm_up
      rw [ch_up_comm (by decide), ch_up_s0 rfl, ch_up_s0 rfl]
    rw [Int.toNat_natCast, e] at hR3 ⊢
    rw [w32_i (x := (i : Int) + 1) (by omega)]
    exact LP_Te_set hx hy h4 n (i + 1) _ (by omega) rfl hR3 (by rw [show i + 1 + n = i + (n + 1) by omega]; exact k)
theorem LP_R_team {M0 : vM} {x y : Int} {n0 : Int} (h4 : n0 ≤ 4) : ∀ (n i : Nat) (M1 : vM), (i : Int) + n = n0 → M1 = tm_up M0 102 103 i (dt x) (dt y) → vRefs M1 → Q (some (vI 0)) (tm_up M0 102 103 (i + n) (dt x) (dt y)) → vw X d 233 88 [vR 81, vI n0, vI x, vI y, vI l4, vI (i : Int)] [] M1 Q
  | 0, i, M1, hn, hM, hR, k => by
    subst hM
    exact B_R_team_88 (fun _ => B_R_team_134 k) (fun h => by exfalso; omega)
  | n + 1, i, M1, hn, hM, hR, k => by
    subst hM
    refine B_R_team_88 (fun h => by exfalso; omega) (fun _ => B_R_team_94 hR (by omega) (by omega) (fun hR3 => ?_))
    have e : vm_up (vm_up (tm_up M0 102 103 i (dt x) (dt y)) 102 i (dt x i)) 103 i (dt y i) = tm_up M0 102 103 (i + 1) (dt x) (dt y) := by
      unfold tm_up
      rw [ch_up_comm (by decide), ch_up_s0 rfl, ch_up_s0 rfl]
    rw [dt_i (x := x) (by omega), dt_i (x := y) (by omega), Int.toNat_natCast, e] at hR3 ⊢
    rw [w32_i (x := (i : Int) + 1) (by omega)]
    exact LP_R_team h4 n (i + 1) _ (by omega) rfl hR3 (by rw [show i + 1 + n = i + (n + 1) by omega]; exact k)
theorem LP_R_team_s (h4 : l1 ≤ 4) : ∀ (n i : Nat) (acc : Int), (i : Int) + n = l1 → 0 ≤ acc → acc ≤ 127 * i → (∀ l5, vw X d 233 70 [vR 81, vI l1, vI l2, vI l3, vI (d_sum (dt l3) n i acc), vI l5] [] M Q) → vw X d 233 43 [vR 81, vI l1, vI l2, vI l3, vI acc, vI (i : Int)] [] M Q
  | 0, i, acc, hn, h1, h2, k => B_R_team_43 (fun _ => k _) (fun h => by exfalso; omega)
  | n + 1, i, acc, hn, h1, h2, k => by
    have r := dt_r l3 i
    refine B_R_team_43 (fun h => by exfalso; omega) (fun _ => B_R_team_49 ?_)
    rw [dt_i (by omega), Int.toNat_natCast, w32_i (x := acc + dt l3 i) (by omega), w32_i (x := (i : Int) + 1) (by omega)]
    exact LP_R_team_s h4 n (i + 1) _ (by omega) (by omega) (by omega) k
theorem lf_team {f g : Nat → Int} {n : Nat} (hr : Rel M) (hn : 2 ≤ n ∧ n ≤ 4) (hf : ∀ i, i < n → 0 ≤ f i ∧ f i ≤ 99) (hg : ∀ i, i < n → 0 ≤ g i ∧ g i ≤ 24) : Rel (tm_up (vm_up (tm_up (vm_up M 49 3 (n : Int)) 50 51 n f g) 81 31 (n : Int)) 102 103 n f g) := by
  have hT := hr.2.2.2.2.1
  have t : ∀ b, b = 50 ∨ b = 51 ∨ b = 102 ∨ b = 103 → ∀ j, sT b j := fun b hb j => by unfold sT; omega
  refine Rel_T ((((((Fr.refl.up (by unfold sT; omega)).ch (t 50 (by omega))).ch (t 51 (by omega))).up (by unfold sT; omega)).ch (t 102 (by omega))).ch (t 103 (by omega))) hr ?_
  unfold tm_up
  generalize hM2 : ch_up (ch_up (vm_up (ch_up (ch_up (vm_up M 49 3 (n : Int)) 50 0 n f) 51 0 n g) 81 31 (n : Int)) 102 0 n f) 103 0 n g = M2
  have c1 : M2 49 3 = n := by
    rw [← hM2, ch_up_o (by decide), ch_up_o (by decide), vm_up_o (by decide), ch_up_o (by decide), ch_up_o (by decide), vm_up_s]
  have c2 : M2 81 31 = n := by
    rw [← hM2, ch_up_o (by decide), ch_up_o (by decide), vm_up_s]
  have c50 : ∀ i, M2 50 i = if i < n then f i else M 50 i := fun i => by
    rw [← hM2, ch_up_o (by decide), ch_up_o (by decide), vm_up_o (by decide), ch_up_o (by decide), ch_up_c, vm_up_o (by decide)]
  have c51 : ∀ i, M2 51 i = if i < n then g i else M 51 i := fun i => by
    rw [← hM2, ch_up_o (by decide), ch_up_o (by decide), vm_up_o (by decide), ch_up_c, ch_up_o (by decide), vm_up_o (by decide)]
  have c102 : ∀ i, M2 102 i = if i < n then f i else M 102 i := fun i => by
    rw [← hM2, ch_up_o (by decide), ch_up_c, vm_up_o (by decide), ch_up_o (by decide), ch_up_o (by decide), vm_up_o (by decide)]
  have c103 : ∀ i, M2 103 i = if i < n then g i else M 103 i := fun i => by
    rw [← hM2, ch_up_c, ch_up_o (by decide), vm_up_o (by decide), ch_up_o (by decide), ch_up_o (by decide), vm_up_o (by decide)]
  have c52 : ∀ i, M2 52 i = M 52 i := fun i => by
    rw [← hM2, ch_up_o (by decide), ch_up_o (by decide), vm_up_o (by decide), ch_up_o (by decide), ch_up_o (by decide), vm_up_o (by decide)]
  have c104 : ∀ i, M2 104 i = M 104 i := fun i => by
    rw [← hM2, ch_up_o (by decide), ch_up_o (by decide), vm_up_o (by decide), ch_up_o (by decide), ch_up_o (by decide), vm_up_o (by decide)]
  obtain ⟨t1, t2, t3, t4, t5⟩ := hT
  refine ⟨by rw [c1, c2], by rw [c1]; omega, fun i hi => ?_, fun i hi => ?_, fun i hi => by rw [c104, c52]; exact t5 i hi⟩
  · rw [c102, c50]
    by_cases e : i < n
    · rw [if_pos e, if_pos e]; exact ⟨rfl, hf i e⟩
    · rw [if_neg e, if_neg e]; exact t3 i hi
  · rw [c103, c51]
    by_cases e : i < n
    · rw [if_pos e, if_pos e]; exact ⟨rfl, hg i e⟩
    · rw [if_neg e, if_neg e]; exact t4 i hi
theorem op_team (hr : Rel M) (hx : -2147483648 ≤ a1 ∧ a1 < 2147483648) (hy : -2147483648 ≤ a2 ∧ a2 < 2147483648) : cq X (d + 40) 149 [vR 0, vI a0, vI a1, vI a2] M (fun v M1 => cq X (d + 40) 233 [vR 81, vI a0, vI a1, vI a2] M1 (fun v2 M2 => v2 = v ∧ Rel M2)) := by
  haveI dc : Decidable (tm_ok dt 99 a1 a0) := Classical.propDecidable _
  haveI ds : Decidable (ts_ok a2 a0) := Classical.propDecidable _
  haveI dd : Decidable (tm_ok dt 24 a2 a0) := Classical.propDecidable _
  have hi : ∀ i, 0 ≤ dt a2 i := fun i => (dt_r a2 i).1
  by_cases hn : 2 ≤ a0 ∧ a0 ≤ 4
  · by_cases hc : tm_ok dt 99 a1 a0
    · by_cases hs : ts_ok a2 a0
      · have hd : tm_ok dt 24 a2 a0 := ⟨hs.1, tm_le_sum hi _ _ _ (Int.le_refl 0) hs.2.1, hs.2.2⟩
        obtain ⟨n, rfl⟩ : ∃ n : Nat, a0 = (n : Int) := ⟨a0.toNat, by omega⟩
        refine E_X_team (B_X_team_0 (S_within (B_X_team_6 (fun h => by rw [if_pos hn] at h; omega) (fun _ => B_X_team_9 (S_Te_areCosts (Iff.rfl) hx hn (B_X_team_14 (fun h => by rw [if_pos hc] at h; omega) (fun _ => B_X_team_17 (S_Te_areShares Iff.rfl hy hn (B_X_team_22 (fun _ => B_X_team_28 hr.1 (E_Te_set (B_Te_set_0 hr.1 (fun hR1 => LP_Te_set (M0 := vm_up M 49 3 (n : Int)) ⟨hc.1, hx.2⟩ ⟨hs.1, hy.2⟩ hn.2 n 0 _ (by omega) ?_ hR1 (fun hR2 => B_X_team_38 ?_))))) (fun h => by rw [if_pos hs] at h; omega))))))))))
        · exact tm_up_0.symm
        · rw [Nat.zero_add] at hR2 ⊢
          have L := lf_team hr (n := n) (f := dt a1) (g := dt a2) (by omega) (fun i h => ⟨(dt_r a1 i).1, tm_le_all _ _ hc.2.1 i (by omega) (by omega)⟩) (fun i h => ⟨hi i, tm_le_all _ _ hd.2.1 i (by omega) (by omega)⟩)
          refine E_R_team (B_R_team_0 (S_R_in (B_R_team_11 (fun h => by rw [if_pos hn] at h; omega) (fun _ => B_R_team_14 (S_R_areDigits Iff.rfl hn (B_R_team_21 (fun h => by rw [if_pos hc] at h; omega) (fun _ => B_R_team_24 (S_R_areDigits Iff.rfl hn (B_R_team_31 (fun _ => B_R_team_37 (LP_R_team_s hn.2 n 0 0 (by omega) (by omega) (by omega) (fun l5 => B_R_team_70 (fun _ => B_R_team_80 hR2 (fun hR3 => LP_R_team (M0 := vm_up (tm_up (vm_up M 49 3 (n : Int)) 50 51 n (dt a1) (dt a2)) 81 31 (n : Int)) hn.2 n 0 _ (by omega) ?_ hR3 ?_)) (fun h => ?_)))) (fun h => by rw [if_pos hd] at h; omega))))))))))
          · exact tm_up_0.symm
          · rw [Nat.zero_add]
            exact ⟨rfl, L⟩
          · have := hs.2.1
            rw [Int.toNat_natCast] at this
            exfalso; omega
      · refine E_X_team (B_X_team_0 (S_within (B_X_team_6 (fun h => by rw [if_pos hn] at h; omega) (fun _ => B_X_team_9 (S_Te_areCosts (Iff.rfl) hx hn (B_X_team_14 (fun h => by rw [if_pos hc] at h; omega) (fun _ => B_X_team_17 (S_Te_areShares Iff.rfl hy hn (B_X_team_22 (fun h => absurd (if_neg hs) h) (fun _ => B_X_team_25 ?_))))))))))
        refine E_R_team (B_R_team_0 (S_R_in (B_R_team_11 (fun h => by rw [if_pos hn] at h; omega) (fun _ => B_R_team_14 (S_R_areDigits Iff.rfl hn (B_R_team_21 (fun h => by rw [if_pos hc] at h; omega) (fun _ => B_R_team_24 (S_R_areDigits Iff.rfl hn ?_)))))))) 
        by_cases hd : tm_ok dt 24 a2 a0
        · obtain ⟨n, rfl⟩ : ∃ n : Nat, a0 = (n : Int) := ⟨a0.toNat, by omega⟩
          refine B_R_team_31 (fun _ => B_R_team_37 (LP_R_team_s hn.2 n 0 0 (by omega) (by omega) (by omega) (fun l5 => B_R_team_70 (fun h => ?_) (fun _ => B_R_team_77 ⟨rfl, hr⟩)))) (fun h => by rw [if_pos hd] at h; omega)
          exact absurd ⟨hd.1, h, hd.2.2⟩ hs
        · exact B_R_team_31 (fun h => absurd (if_neg hd) h) (fun _ => B_R_team_34 ⟨rfl, hr⟩)
    · refine E_X_team (B_X_team_0 (S_within (B_X_team_6 (fun h => by rw [if_pos hn] at h; omega) (fun _ => B_X_team_9 (S_Te_areCosts (Iff.rfl) hx hn (B_X_team_14 (fun _ => B_X_team_25 ?_) (fun h => absurd (if_neg hc) h)))))))
      exact E_R_team (B_R_team_0 (S_R_in (B_R_team_11 (fun h => by rw [if_pos hn] at h; omega) (fun _ => B_R_team_14 (S_R_areDigits Iff.rfl hn (B_R_team_21 (fun _ => B_R_team_34 ⟨rfl, hr⟩) (fun h => absurd (if_neg hc) h)))))))
  · refine E_X_team (B_X_team_0 (S_within (B_X_team_6 (fun _ => B_X_team_25 ?_) (fun h => absurd (if_neg hn) h))))
    exact E_R_team (B_R_team_0 (S_R_in (B_R_team_11 (fun _ => B_R_team_34 ⟨rfl, hr⟩) (fun h => absurd (if_neg hn) h))))
end T2
