/-! ACTS: what is left, what is kept, what the hired answers -/
def a_ch (M : vM) (a w s : Int) : Int := M (4 + (2 * a.toNat + w.toNat)) s.toNat
def a_rc (M : vM) (a w s : Int) : Int := M 83 (12 * a.toNat + 4 * w.toNat + s.toNat)
def a_sum (f : Int → Int) : Nat → Int → Int → Int
  | 0, _, acc => acc
  | n + 1, i, acc => a_sum f n (i + 1) (acc + f i)
theorem a_sum_congr {f g : Int → Int} : ∀ (n : Nat) (i acc : Int), (∀ j, i ≤ j → j < i + n → f j = g j) → a_sum f n i acc = a_sum g n i acc
  | 0, _, _, _ => rfl
  | n + 1, i, acc, h => by
    rw [a_sum, a_sum, h i (by omega) (by omega)]
    exact a_sum_congr n (i + 1) _ (fun j h1 h2 => h j (by omega) (by omega))
theorem a_sum_acc {f : Int → Int} {c : Int} : ∀ (n : Nat) (i acc : Int), a_sum f n i (acc + c) = a_sum f n i acc + c
  | 0, _, _ => rfl
  | n + 1, i, acc => by
    rw [a_sum, a_sum, ← a_sum_acc n (i + 1) (acc + f i)]
    congr 1
    omega
theorem a_sum_sub {f g : Int → Int} : ∀ (n : Nat) (i a b : Int), a_sum (fun s => f s - g s) n i (a - b) = a_sum f n i a - a_sum g n i b
  | 0, _, _, _ => rfl
  | n + 1, i, a, b => by
    rw [a_sum, a_sum, a_sum, ← a_sum_sub n (i + 1)]
    congr 1
    omega
def a_paid (M : vM) (a w : Int) (p : Nat → Int) : Int := a_sum (fun s => a_ch M a w s * p s.toNat) (M 1 0).toNat 0 0
def a_left (M : vM) (a w : Int) (p : Nat → Int) : Int := a_paid M a w p - 12 * M 2 a.toNat
def a_kept (M : vM) (a w : Int) (p : Nat → Int) : Int := a_paid M a w (M 12) - a_paid M a w p
def a_rather (M : vM) (w : Int) (p : Nat → Int) (a b : Int) : Bool := decide (a_left M b w p < a_left M a w p ∨ a_left M a w p = a_left M b w p ∧ a_kept M b w p < a_kept M a w p)
def a_from (M : vM) (w : Int) (p : Nat → Int) : Nat → Int → Int → Int
  | 0, _, b => b
  | n + 1, a, b => a_from M w p n (a + 1) (if a_rather M w p a b = true then a else b)
def a_ans (M : vM) (w : Int) (p : Nat → Int) : Int := if M 1 4 = 0 then -1 else a_from M w p (M 1 4 - 1).toNat 1 0
theorem a_from_r {M : vM} {w : Int} {p : Nat → Int} : ∀ (n : Nat) (a b : Int), 0 ≤ a → 0 ≤ b → b < a → 0 ≤ a_from M w p n a b ∧ a_from M w p n a b < a + n
  | 0, a, b, h0, h1, h2 => by rw [a_from]; omega
  | n + 1, a, b, h0, h1, h2 => by
    rw [a_from]
    split
    · have := a_from_r (M := M) (w := w) (p := p) n (a + 1) a (by omega) (by omega) (by omega); omega
    · have := a_from_r (M := M) (w := w) (p := p) n (a + 1) b (by omega) (by omega) (by omega); omega
theorem a_ans_r {M : vM} {w : Int} {p : Nat → Int} (h : 0 ≤ M 1 4) : -1 ≤ a_ans M w p ∧ (a_ans M w p = -1 ↔ M 1 4 = 0) ∧ (M 1 4 ≠ 0 → 0 ≤ a_ans M w p ∧ a_ans M w p < M 1 4) := by
  unfold a_ans
  split
  · next h2 => exact ⟨by omega, by simp [h2], fun q => absurd h2 q⟩
  · next h2 =>
    have := a_from_r (M := M) (w := w) (p := p) (M 1 4 - 1).toNat 1 0 (by omega) (by omega) (by omega)
    refine ⟨by omega, ⟨fun q => by omega, fun q => absurd q h2⟩, fun _ => by omega⟩
theorem a_ch_fr {M M1 : vM} (f : Fr sTmp M M1) {a w s : Int} (ha : 0 ≤ a ∧ a < 4) (hw : 0 ≤ w ∧ w < 2) : a_ch M1 a w s = a_ch M a w s := f _ _ (by unfold sTmp; omega)
theorem a_paid_fr {M M1 : vM} (f : Fr sTmp M M1) (hA : RA M) {p q : Nat → Int} (hp : ∀ s, s < 4 → q s = p s) {a w : Int} (ha : 0 ≤ a ∧ a < 4) (hw : 0 ≤ w ∧ w < 2) : a_paid M1 a w q = a_paid M a w p := by
  obtain ⟨h1, -⟩ := hA
  unfold a_paid
  rw [f 1 0 (by unfold sTmp; omega)]
  refine a_sum_congr _ _ _ (fun j h1 h2 => ?_)
  show a_ch M1 a w j * q j.toNat = a_ch M a w j * p j.toNat
  rw [a_ch_fr f ha hw, hp _ (by omega)]
theorem a_left_fr {M M1 : vM} (f : Fr sTmp M M1) (hA : RA M) {p q : Nat → Int} (hp : ∀ s, s < 4 → q s = p s) {a w : Int} (ha : 0 ≤ a ∧ a < 4) (hw : 0 ≤ w ∧ w < 2) : a_left M1 a w q = a_left M a w p := by
  unfold a_left
  rw [a_paid_fr f hA hp ha hw, f 2 _ (by unfold sTmp; omega)]
theorem a_kept_fr {M M1 : vM} (f : Fr sTmp M M1) (hA : RA M) {p q : Nat → Int} (hp : ∀ s, s < 4 → q s = p s) {a w : Int} (ha : 0 ≤ a ∧ a < 4) (hw : 0 ≤ w ∧ w < 2) : a_kept M1 a w q = a_kept M a w p := by
  unfold a_kept
  rw [a_paid_fr f hA hp ha hw, a_paid_fr (p := M 12) (q := M1 12) f hA (fun s _ => f 12 s (by unfold sTmp; omega)) ha hw]
theorem a_from_fr {M M1 : vM} (f : Fr sTmp M M1) (hA : RA M) {p q : Nat → Int} (hp : ∀ s, s < 4 → q s = p s) {w : Int} (hw : 0 ≤ w ∧ w < 2) : ∀ (n : Nat) (a b : Int), 0 ≤ a → a + n ≤ 4 → 0 ≤ b → b < 4 → a_from M1 w q n a b = a_from M w p n a b
  | 0, _, _, _, _, _, _ => rfl
  | n + 1, a, b, h0, h1, h2, h3 => by
    have e : a_rather M1 w q a b = a_rather M w p a b := by
      unfold a_rather
      rw [a_left_fr f hA hp (a := a) (by omega) hw, a_left_fr f hA hp (a := b) ⟨h2, h3⟩ hw, a_kept_fr f hA hp (a := a) (by omega) hw, a_kept_fr f hA hp (a := b) ⟨h2, h3⟩ hw]
    rw [a_from, a_from, e]
    refine a_from_fr f hA hp hw n (a + 1) _ (by omega) (by omega) ?_ ?_
    · split <;> omega
    · split <;> omega
theorem a_ans_fr {M M1 : vM} (f : Fr sTmp M M1) (hA : RA M) {p q : Nat → Int} (hp : ∀ s, s < 4 → q s = p s) {w : Int} (hw : 0 ≤ w ∧ w < 2) : a_ans M1 w q = a_ans M w p := by
  have h4 := hA.2.2.1
  unfold a_ans
  rw [f 1 4 (by unfold sTmp; omega)]
  split
  · rfl
  · exact a_from_fr f hA hp hw _ _ _ (by omega) (by omega) (by omega) (by omega)
theorem q_l {Q : Option vV → vM → Prop} {M : vM} {a b : Int} (k : Q (some (vL a)) M) (h : a = b) : Q (some (vL b)) M := h ▸ k
theorem w64_i {x : Int} (h : -9223372036854775808 ≤ x ∧ x < 9223372036854775808) : w64 x = x := w64_id h.1 h.2
theorem a_ch_r {M : vM} (hA : RA M) {a w s : Int} (ha : 0 ≤ a ∧ a < 4) (hw : 0 ≤ w ∧ w < 2) (hs : 0 ≤ s ∧ s < 4) : a_rc M a w s = a_ch M a w s ∧ 0 ≤ a_ch M a w s ∧ a_ch M a w s ≤ 12 := by
  have := hA.2.2.2.2.2.2.2.2.2.1 a.toNat w.toNat s.toNat (by omega) (by omega) (by omega)
  exact ⟨this.1, this.2.1, this.2.2.1⟩
section AC
variable {X : vX} {d : Nat} {M : vM} {Q : Option vV → vM → Prop} {l0 l1 l2 l3 : Int} {q3 : Nat}
theorem S_isWorld (k : Q (some (vI (if 0 ≤ l0 ∧ l0 ≤ 1 then 1 else 0))) M) : cq X (d + 2) 180 [vI l0] M Q := E_X_isWorld (B_X_isWorld_0 (S_within (B_X_isWorld_6 if01 k)))
theorem S_R_isWorld (k : Q (some (vI (if 0 ≤ l0 ∧ l0 ≤ 1 then 1 else 0))) M) : cq X (d + 2) 188 [vI l0] M Q := E_R_isWorld (B_R_isWorld_0 (S_R_in (B_R_isWorld_7 if01 k)))
theorem S_isAct (k : Q (some (vI (if 0 ≤ l1 ∧ l1 < M 1 4 then 1 else 0))) M) : cq X (d + 1) 5 [vR 1, vI l1] M Q :=
  E_Ac_isAct (B_Ac_isAct_0 (fun h => B_Ac_isAct_16 (by rw [if_neg (by omega)] at k; exact k)) (fun h => B_Ac_isAct_4 (fun h2 => B_Ac_isAct_16 (by rw [if_neg (by omega)] at k; exact k)) (fun h2 => B_Ac_isAct_12 (by rw [if_pos (by omega)] at k; exact k))))
theorem S_isSight (k : Q (some (vI (if 0 ≤ l1 ∧ l1 < M 1 0 then 1 else 0))) M) : cq X (d + 1) 6 [vR 1, vI l1] M Q :=
  E_Ac_isSight (B_Ac_isSight_0 (fun h => B_Ac_isSight_16 (by rw [if_neg (by omega)] at k; exact k)) (fun h => B_Ac_isSight_4 (fun h2 => B_Ac_isSight_16 (by rw [if_neg (by omega)] at k; exact k)) (fun h2 => B_Ac_isSight_12 (by rw [if_pos (by omega)] at k; exact k))))
theorem ifc {p q : Prop} [Decidable p] [Decidable q] (h : p ↔ q) : (if p then (1 : Int) else 0) = if q then 1 else 0 := by
  by_cases hp : p
  · rw [if_pos hp, if_pos (h.mp hp)]
  · rw [if_neg hp, if_neg (fun q => hp (h.mpr q))]
theorem S_R_isAct (hr : Rel M) (k : Q (some (vI (if 0 ≤ l1 ∧ l1 < M 1 4 then 1 else 0))) M) : cq X (d + 2) 186 [vR 81, vI l1] M Q := by
  have h4 := hr.2.1.2.2.1
  have e := hr.2.1.2.2.2.1
  have ew := w32_i (x := M 81 1 - 1) (by omega)
  exact E_R_isAct (B_R_isAct_0 (S_R_in (B_R_isAct_13 if01 (q_i k (ifc (by rw [ew]; omega))))))
theorem S_R_isSight (hr : Rel M) (k : Q (some (vI (if 0 ≤ l1 ∧ l1 < M 1 0 then 1 else 0))) M) : cq X (d + 2) 187 [vR 81, vI l1] M Q := by
  have h4 := hr.2.1.1
  have e := hr.2.1.2.1
  have ew := w32_i (x := M 81 0 - 1) (by omega)
  exact E_R_isSight (B_R_isSight_0 (S_R_in (B_R_isSight_13 if01 (q_i k (ifc (by rw [ew]; omega))))))
theorem S_Ac_chanceAt (hR : vRefs M) (ha : 0 ≤ l1 ∧ l1 < 4) (hw : 0 ≤ l2 ∧ l2 < 2) (hs : 0 ≤ l3 ∧ l3 < 4) (k : Q (some (vI (a_ch M l1 l2 l3))) M) : cq X (d + 1) 13 [vR 1, vI l1, vI l2, vI l3] M Q := by
  have e1 := w32_i (x := l1 * 2) (by omega)
  have e2 := w32_i (x := l1 * 2 + l2) (by omega)
  refine E_Ac_chanceAt (B_Ac_chanceAt_0 hR (by rw [e1, e2]; omega) (by omega) (q_i k ?_))
  rw [e1, e2, a_ch, show (l1 * 2 + l2).toNat = 2 * l1.toNat + l2.toNat by omega]
theorem S_R_chance (hR : vRefs M) (ha : 0 ≤ l1 ∧ l1 < 4) (hw : 0 ≤ l2 ∧ l2 < 3) (hs : 0 ≤ l3 ∧ l3 < 4) (k : Q (some (vI (a_rc M l1 l2 l3))) M) : cq X (d + 1) 189 [vR 81, vI l1, vI l2, vI l3] M Q := by
  have e1 := w32_i (x := 12 * l1) (by omega)
  have e2 := w32_i (x := 4 * l2) (by omega)
  have e3 := w32_i (x := 12 * l1 + 4 * l2) (by omega)
  have e4 := w32_i (x := 12 * l1 + 4 * l2 + l3) (by omega)
  refine E_R_chance (B_R_chance_0 hR (by rw [e1, e2, e3, e4]; omega) (q_i k ?_))
  rw [e1, e2, e3, e4, a_rc, show (12 * l1 + 4 * l2 + l3).toNat = 12 * l1.toNat + 4 * l2.toNat + l3.toNat by omega]
theorem LP_Ac_paid (hR : vRefs M) (hA : RA M) (hq : vS0[q3]? = some (.inr (0, 4))) (hp : ∀ s : Nat, s < 4 → -999 ≤ M q3 s ∧ M q3 s ≤ 999) (ha : 0 ≤ l1 ∧ l1 < 4) (hw : 0 ≤ l2 ∧ l2 < 2) : ∀ (n : Nat) (i acc : Int), 0 ≤ i → i + n = M 1 0 → -(12000 * i) ≤ acc → acc ≤ 12000 * i → Q (some (vL (a_sum (fun s => a_ch M l1 l2 s * M q3 s.toNat) n i acc))) M → vw X (d + 1) 14 6 [vR 1, vI l1, vI l2, vR (q3 : Int), vL acc, vN, vI i] [] M Q
  | 0, i, acc, h0, hn, h1, h2, k => B_Ac_paid_6 (fun h => B_Ac_paid_41 k) (fun h => by exfalso; omega)
  | n + 1, i, acc, h0, hn, h1, h2, k => by
    have hs := hA.1
    have c := a_ch_r hA ha hw (s := i) (by omega)
    have pr := mul_s' (b := a_ch M l1 l2 i) (B := 12) (a := M q3 i.toNat) (A := 999) c.2 (hp _ (by omega))
    refine B_Ac_paid_6 (fun h => by exfalso; omega) (fun h => B_Ac_paid_15 (S_Ac_chanceAt hR ha hw (by omega) (B_Ac_paid_25 hq (by omega) ?_)))
    rw [w64_i (x := a_ch M l1 l2 i * M q3 i.toNat) (by omega), w64_i (by omega), w32_i (x := i + 1) (by omega)]
    exact LP_Ac_paid hR hA hq hp ha hw n (i + 1) _ (by omega) (by omega) (by omega) (by omega) k
theorem S_Ac_paid (hR : vRefs M) (hA : RA M) (hq : vS0[q3]? = some (.inr (0, 4))) (hp : ∀ s : Nat, s < 4 → -999 ≤ M q3 s ∧ M q3 s ≤ 999) (ha : 0 ≤ l1 ∧ l1 < 4) (hw : 0 ≤ l2 ∧ l2 < 2) (k : Q (some (vL (a_paid M l1 l2 (M q3)))) M) : cq X (d + 2) 14 [vR 1, vI l1, vI l2, vR (q3 : Int)] M Q := by
  have hs := hA.1
  exact E_Ac_paid (B_Ac_paid_0 (LP_Ac_paid hR hA hq hp ha hw (M 1 0).toNat 0 0 (by omega) (by omega) (by omega) (by omega) k))
theorem a_sum_r {f : Int → Int} {B : Int} : ∀ (n : Nat) (i acc c : Int), (∀ j, i ≤ j → j < i + n → -B ≤ f j ∧ f j ≤ B) → -c ≤ acc → acc ≤ c → -(c + B * n) ≤ a_sum f n i acc ∧ a_sum f n i acc ≤ c + B * n
  | 0, _, _, _, _, h1, h2 => by rw [a_sum]; simp; omega
  | n + 1, i, acc, c, h, h1, h2 => by
    have hi := h i (by omega) (by omega)
    have := a_sum_r n (i + 1) (acc + f i) (c + B) (fun j q1 q2 => h j (by omega) (by omega)) (by omega) (by omega)
    rw [a_sum]
    have e : B * ((n + 1 : Nat) : Int) = B * n + B := by rw [Int.natCast_add, Int.mul_add]; simp
    omega
theorem a_paid_r (hA : RA M) {p : Nat → Int} (hp : ∀ s : Nat, s < 4 → -999 ≤ p s ∧ p s ≤ 999) (ha : 0 ≤ l1 ∧ l1 < 4) (hw : 0 ≤ l2 ∧ l2 < 2) : -48000 ≤ a_paid M l1 l2 p ∧ a_paid M l1 l2 p ≤ 48000 := by
  have hs := hA.1
  have := a_sum_r (f := fun s => a_ch M l1 l2 s * p s.toNat) (B := 12000) (M 1 0).toNat 0 0 0 (fun j h1 h2 => by
    have c := a_ch_r hA ha hw (s := j) (by omega)
    have pr := mul_s' (b := a_ch M l1 l2 j) (B := 12) (a := p j.toNat) (A := 999) c.2 (hp _ (by omega))
    show -12000 ≤ a_ch M l1 l2 j * p j.toNat ∧ a_ch M l1 l2 j * p j.toNat ≤ 12000
    omega) (by omega) (by omega)
  unfold a_paid
  omega
theorem a_cost_r (hA : RA M) (ha : 0 ≤ l1 ∧ l1 < 4) : 0 ≤ M 2 l1.toNat ∧ M 2 l1.toNat ≤ 99 := (hA.2.2.2.2.2.2.1 l1.toNat (by omega)).2
theorem a_val_r (hA : RA M) : ∀ s : Nat, s < 4 → -999 ≤ M 12 s ∧ M 12 s ≤ 999 := fun s hs => by
  have := (hA.2.2.2.2.2.2.2.1 s hs).2
  omega
theorem S_Ac_left (hR : vRefs M) (hA : RA M) (hq : vS0[q3]? = some (.inr (0, 4))) (hp : ∀ s : Nat, s < 4 → -999 ≤ M q3 s ∧ M q3 s ≤ 999) (ha : 0 ≤ l1 ∧ l1 < 4) (hw : 0 ≤ l2 ∧ l2 < 2) (k : Q (some (vL (a_left M l1 l2 (M q3)))) M) : cq X (d + 3) 16 [vR 1, vI l1, vI l2, vR (q3 : Int)] M Q := by
  have c := a_cost_r hA ha
  have r := a_paid_r hA hp ha hw
  refine E_Ac_left (B_Ac_left_0 (S_Ac_paid hR hA hq hp ha hw (B_Ac_left_7 hR (by omega) (q_l k ?_))))
  rw [w32_i (x := 12 * M 2 l1.toNat) (by omega), w64_i (by omega), a_left]
theorem S_Ac_valued (hR : vRefs M) (hA : RA M) (ha : 0 ≤ l1 ∧ l1 < 4) (hw : 0 ≤ l2 ∧ l2 < 2) (k : Q (some (vL (a_paid M l1 l2 (M 12)))) M) : cq X (d + 3) 15 [vR 1, vI l1, vI l2] M Q :=
  E_Ac_valued (B_Ac_valued_0 hR (S_Ac_paid hR hA (q3 := 12) rfl (a_val_r hA) ha hw (B_Ac_valued_10 k)))
theorem S_Ac_kept (hR : vRefs M) (hA : RA M) (hq : vS0[q3]? = some (.inr (0, 4))) (hp : ∀ s : Nat, s < 4 → -999 ≤ M q3 s ∧ M q3 s ≤ 999) (ha : 0 ≤ l1 ∧ l1 < 4) (hw : 0 ≤ l2 ∧ l2 < 2) (k : Q (some (vL (a_kept M l1 l2 (M q3)))) M) : cq X (d + 4) 17 [vR 1, vI l1, vI l2, vR (q3 : Int)] M Q := by
  have r := a_paid_r hA hp ha hw
  have r2 := a_paid_r hA (a_val_r hA) ha hw
  refine E_Ac_kept (B_Ac_kept_0 (S_Ac_valued hR hA ha hw (B_Ac_kept_6 (S_Ac_paid hR hA hq hp ha hw (B_Ac_kept_13 (q_l k ?_))))))
  rw [w64_i (by omega), a_kept]
theorem S_Ac_stays (hR : vRefs M) (hA : RA M) (hq : vS0[q3]? = some (.inr (0, 4))) (hp : ∀ s : Nat, s < 4 → -999 ≤ M q3 s ∧ M q3 s ≤ 999) (ha : 0 ≤ l1 ∧ l1 < 4) (hw : 0 ≤ l2 ∧ l2 < 2) (k : Q (some (vI (if 12 * M 1 5 ≤ a_left M l1 l2 (M q3) then 1 else 0))) M) : cq X (d + 4) 18 [vR 1, vI l1, vI l2, vR (q3 : Int)] M Q := by
  have c := hA.2.2.2.2.1
  have e := w32_i (x := 12 * M 1 5) (by omega)
  refine E_Ac_stays (B_Ac_stays_0 (S_Ac_left hR hA hq hp ha hw (B_Ac_stays_7 (fun h => B_Ac_stays_23 ?_) (fun h => B_Ac_stays_19 ?_))))
  · rw [e] at h
    rw [if_neg (by omega)] at k
    exact k
  · rw [e] at h
    rw [if_pos h] at k
    exact k
theorem S_Ac_isRather (hR : vRefs M) (hA : RA M) (hq : vS0[q3]? = some (.inr (0, 4))) (hp : ∀ s : Nat, s < 4 → -999 ≤ M q3 s ∧ M q3 s ≤ 999) (ha : 0 ≤ l1 ∧ l1 < 4) (hb : 0 ≤ l2 ∧ l2 < 4) (hw : 0 ≤ l3 ∧ l3 < 2) (k : Q (some (vI (if a_rather M l3 (M q3) l1 l2 = true then 1 else 0))) M) : cq X (d + 5) 20 [vR 1, vI l1, vI l2, vI l3, vR (q3 : Int)] M Q := by
  refine E_Ac_isRather (B_Ac_isRather_0 (S_Ac_left hR hA hq hp ha hw (B_Ac_isRather_8 (S_Ac_left hR hA hq hp hb hw (B_Ac_isRather_18 (fun h => B_Ac_isRather_56 ?_) (fun h => B_Ac_isRather_28 (fun h2 => B_Ac_isRather_60 ?_) (fun h2 => B_Ac_isRather_36 (S_Ac_kept hR hA hq hp ha hw (B_Ac_isRather_44 (S_Ac_kept hR hA hq hp hb hw (B_Ac_isRather_52 (fun h3 => B_Ac_isRather_60 ?_) (fun h3 => B_Ac_isRather_56 ?_))))))))))))
  · rw [a_rather, if_pos (by simp only [decide_eq_true_eq]; omega)] at k
    exact k
  · rw [a_rather, if_neg (by simp only [decide_eq_true_eq]; omega)] at k
    exact k
  · rw [a_rather, if_neg (by simp only [decide_eq_true_eq]; omega)] at k
    exact k
  · rw [a_rather, if_pos (by simp only [decide_eq_true_eq]; omega)] at k
    exact k
theorem LP_Ac_answered (hR : vRefs M) (hA : RA M) (hq : vS0[q3]? = some (.inr (0, 4))) (hp : ∀ s : Nat, s < 4 → -999 ≤ M q3 s ∧ M q3 s ≤ 999) (hw : 0 ≤ l1 ∧ l1 < 2) : ∀ (n : Nat) (a b : Int), 0 ≤ b → b < a → a + n = M 1 4 → Q (some (vI (a_from M l1 (M q3) n a b))) M → vw X (d + 5) 19 5 [vR 1, vI l1, vR (q3 : Int), vI b, vI a] [] M Q
  | 0, a, b, h0, h1, hn, k => B_Ac_answered_5 (fun h => B_Ac_answered_40 k) (fun h => by exfalso; omega)
  | n + 1, a, b, h0, h1, hn, k => by
    have h4 := hA.2.2.1
    have e1 := w32_i (x := a + 1) (by omega)
    rw [a_from] at k
    refine B_Ac_answered_5 (fun h => by exfalso; omega) (fun h => B_Ac_answered_14 (fun h => by exfalso; omega) (fun _ => B_Ac_answered_19 (S_Ac_isRather hR hA hq hp (by omega) (by omega) hw (B_Ac_answered_28 (fun hb => B_Ac_answered_34 ?_) (fun hb => B_Ac_answered_31 ?_)))))
    · rw [e1]
      rw [if_neg (fun q => by rw [if_pos q] at hb; omega)] at k
      exact LP_Ac_answered hR hA hq hp hw n (a + 1) b h0 (by omega) (by omega) k
    · rw [e1]
      rw [if_pos (Decidable.byContradiction (fun q => hb (if_neg q)))] at k
      exact LP_Ac_answered hR hA hq hp hw n (a + 1) a (by omega) (by omega) (by omega) k
theorem S_Ac_answered (hR : vRefs M) (hA : RA M) (hq : vS0[q3]? = some (.inr (0, 4))) (hp : ∀ s : Nat, s < 4 → -999 ≤ M q3 s ∧ M q3 s ≤ 999) (hw : 0 ≤ l1 ∧ l1 < 2) (k : Q (some (vI (a_ans M l1 (M q3)))) M) : cq X (d + 6) 19 [vR 1, vI l1, vR (q3 : Int)] M Q := by
  have h4 := hA.2.2.1
  rw [a_ans] at k
  refine E_Ac_answered (B_Ac_answered_0 (B_Ac_answered_5 (fun h => B_Ac_answered_40 ?_) (fun h => B_Ac_answered_14 (fun _ => B_Ac_answered_31 ?_) (fun h => absurd rfl h))))
  · rw [if_pos (by omega)] at k
    exact k
  · rw [if_neg (by omega)] at k
    exact LP_Ac_answered hR hA hq hp hw _ 1 0 (by omega) (by omega) (by omega) k
/-- the reference, whose pay lies in 86 -/
theorem LP_R_gainOf (hR : vRefs M) (hA : RA M) (hp : ∀ s : Nat, s < 4 → -999 ≤ M 86 s ∧ M 86 s ≤ 999) (ha : 0 ≤ l1 ∧ l1 < 4) (hw : 0 ≤ l2 ∧ l2 < 2) : ∀ (n : Nat) (i acc : Int), 0 ≤ i → i + n = M 1 0 → -(12000 * i + 12000) ≤ acc → acc ≤ 12000 * i + 12000 → Q (some (vI (a_sum (fun s => a_ch M l1 l2 s * M 86 s.toNat) n i acc))) M → vw X (d + 1) 197 13 [vR 81, vI l1, vI l2, vI acc, vI i] [] M Q
  | 0, i, acc, h0, hn, h1, h2, k => B_R_gainOf_13 (fun h => B_R_gainOf_47 k) (fun h => by have := hA.2.1; exfalso; omega)
  | n + 1, i, acc, h0, hn, h1, h2, k => by
    have hs := hA.1
    have hs2 := hA.2.1
    have c := a_ch_r hA ha hw (s := i) (by omega)
    have pr := mul_s' (b := a_ch M l1 l2 i) (B := 12) (a := M 86 i.toNat) (A := 999) c.2 (hp _ (by omega))
    refine B_R_gainOf_13 (fun h => by exfalso; omega) (fun h => B_R_gainOf_22 (S_R_chance hR ha (by omega) (by omega) (B_R_gainOf_31 hR (by omega) ?_)))
    rw [c.1, w32_i (x := a_ch M l1 l2 i * M 86 i.toNat) (by omega), w32_i (x := acc + _) (by omega), w32_i (x := i + 1) (by omega)]
    exact LP_R_gainOf hR hA hp ha hw n (i + 1) _ (by omega) (by omega) (by omega) (by omega) k
theorem S_R_gainOf (hR : vRefs M) (hA : RA M) (hp : ∀ s : Nat, s < 4 → -999 ≤ M 86 s ∧ M 86 s ≤ 999) (ha : 0 ≤ l1 ∧ l1 < 4) (hw : 0 ≤ l2 ∧ l2 < 2) (k : Q (some (vI (a_left M l1 l2 (M 86)))) M) : cq X (d + 2) 197 [vR 81, vI l1, vI l2] M Q := by
  have hs := hA.1
  have c := a_cost_r hA ha
  have e := (hA.2.2.2.2.2.2.1 l1.toNat (by omega)).1
  refine E_R_gainOf (B_R_gainOf_0 hR (by omega) ?_)
  rw [e, w32_i (x := -12 * M 2 l1.toNat) (by omega)]
  refine LP_R_gainOf hR hA hp ha hw (M 1 0).toNat 0 _ (by omega) (by omega) (by omega) (by omega) (q_i k ?_)
  rw [a_left, a_paid, show (-12 * M 2 l1.toNat : Int) = 0 + -12 * M 2 l1.toNat by omega, a_sum_acc]
  omega
theorem LP_R_other (hR : vRefs M) (hA : RA M) (hp : ∀ s : Nat, s < 4 → -999 ≤ M 86 s ∧ M 86 s ≤ 999) (ha : 0 ≤ l1 ∧ l1 < 4) (hw : 0 ≤ l2 ∧ l2 < 2) : ∀ (n : Nat) (i acc : Int), 0 ≤ i → i + n = M 1 0 → -(24000 * i) ≤ acc → acc ≤ 24000 * i → Q (some (vI (a_sum (fun s => a_ch M l1 l2 s * M 12 s.toNat - a_ch M l1 l2 s * M 86 s.toNat) n i acc))) M → vw X (d + 1) 198 5 [vR 81, vI l1, vI l2, vI acc, vI i] [] M Q
  | 0, i, acc, h0, hn, h1, h2, k => B_R_other_5 (fun h => B_R_other_47 k) (fun h => by have := hA.2.1; exfalso; omega)
  | n + 1, i, acc, h0, hn, h1, h2, k => by
    have hs := hA.1
    have hs2 := hA.2.1
    have c := a_ch_r hA ha hw (s := i) (by omega)
    have hv := a_val_r hA i.toNat (by omega)
    have hq := hp i.toNat (by omega)
    have ev := (hA.2.2.2.2.2.2.2.1 i.toNat (by omega)).1
    have pr := mul_s' (b := a_ch M l1 l2 i) (B := 12) (a := M 12 i.toNat - M 86 i.toNat) (A := 1998) c.2 (by omega)
    refine B_R_other_5 (fun h => by exfalso; omega) (fun h => B_R_other_14 (S_R_chance hR ha (by omega) (by omega) (B_R_other_23 hR (by omega) (by omega) ?_)))
    rw [c.1, ev, w32_i (x := M 12 i.toNat - M 86 i.toNat) (by omega), w32_i (x := a_ch M l1 l2 i * (M 12 i.toNat - M 86 i.toNat)) (by omega), w32_i (x := acc + _) (by omega), w32_i (x := i + 1) (by omega), Int.mul_sub]
    rw [Int.mul_sub] at pr
    exact LP_R_other hR hA hp ha hw n (i + 1) _ (by omega) (by omega) (by omega) (by omega) k
theorem S_R_other (hR : vRefs M) (hA : RA M) (hp : ∀ s : Nat, s < 4 → -999 ≤ M 86 s ∧ M 86 s ≤ 999) (ha : 0 ≤ l1 ∧ l1 < 4) (hw : 0 ≤ l2 ∧ l2 < 2) (k : Q (some (vI (a_kept M l1 l2 (M 86)))) M) : cq X (d + 2) 198 [vR 81, vI l1, vI l2] M Q := by
  have hs := hA.1
  refine E_R_other (B_R_other_0 (LP_R_other hR hA hp ha hw (M 1 0).toNat 0 0 (by omega) (by omega) (by omega) (by omega) (q_i k ?_)))
  rw [a_kept, a_paid, a_paid, ← a_sum_sub]
  rfl
theorem LP_R_answerOf (hR : vRefs M) (hA : RA M) (hp : ∀ s : Nat, s < 4 → -999 ≤ M 86 s ∧ M 86 s ≤ 999) (hw : 0 ≤ l1 ∧ l1 < 2) : ∀ (n : Nat) (a b : Int) (w4 : vV), 0 ≤ b → b < a → a + n = M 1 4 → Q (some (vI (a_from M l1 (M 86) n a b))) M → vw X (d + 2) 199 4 [vR 81, vI l1, vI b, vI a, w4] [] M Q
  | 0, a, b, w4, h0, h1, hn, k => B_R_answerOf_4 (fun h => B_R_answerOf_64 k) (fun h => by have := hA.2.2.2.1; exfalso; omega)
  | n + 1, a, b, w4, h0, h1, hn, k => by
    have h4 := hA.2.2.1
    have h5 := hA.2.2.2.1
    have e1 := w32_i (x := a + 1) (by omega)
    have ca := a_cost_r hA (l1 := a) (by omega)
    have cb := a_cost_r hA (l1 := b) (by omega)
    have ra := a_paid_r hA hp (l1 := a) (by omega) hw
    have rb := a_paid_r hA hp (l1 := b) (by omega) hw
    have ea : a_left M a l1 (M 86) = a_paid M a l1 (M 86) - 12 * M 2 a.toNat := rfl
    have eb : a_left M b l1 (M 86) = a_paid M b l1 (M 86) - 12 * M 2 b.toNat := rfl
    have e2 := w32_i (x := a_left M a l1 (M 86) - a_left M b l1 (M 86)) (by omega)
    rw [a_from] at k
    refine B_R_answerOf_4 (fun h => by exfalso; omega) (fun h => B_R_answerOf_12 (S_R_gainOf hR hA hp (by omega) hw (B_R_answerOf_18 (S_R_gainOf hR hA hp (by omega) hw (B_R_answerOf_24 (fun hb => B_R_answerOf_52 ?_) (fun hb => B_R_answerOf_32 (fun hc => B_R_answerOf_56 ?_) (fun hc => B_R_answerOf_37 (S_R_other hR hA hp (by omega) hw (B_R_answerOf_43 (S_R_other hR hA hp (by omega) hw (B_R_answerOf_49 (fun he => B_R_answerOf_56 ?_) (fun he => B_R_answerOf_52 ?_))))))))))))
    · rw [e2] at hb
      rw [a_rather, if_pos (by simp only [decide_eq_true_eq]; omega)] at k
      rw [e1]
      exact LP_R_answerOf hR hA hp hw n (a + 1) a _ (by omega) (by omega) (by omega) k
    · rw [e2] at hb hc
      rw [a_rather, if_neg (by simp only [decide_eq_true_eq]; omega)] at k
      rw [e1]
      exact LP_R_answerOf hR hA hp hw n (a + 1) b _ (by omega) (by omega) (by omega) k
    · rw [e2] at hb hc
      rw [a_rather, if_neg (by simp only [decide_eq_true_eq]; omega)] at k
      rw [e1]
      exact LP_R_answerOf hR hA hp hw n (a + 1) b _ (by omega) (by omega) (by omega) k
    · rw [e2] at hb hc
      rw [a_rather, if_pos (by simp only [decide_eq_true_eq]; omega)] at k
      rw [e1]
      exact LP_R_answerOf hR hA hp hw n (a + 1) a _ (by omega) (by omega) (by omega) k
theorem S_R_answerOf (hR : vRefs M) (hA : RA M) (hp : ∀ s : Nat, s < 4 → -999 ≤ M 86 s ∧ M 86 s ≤ 999) (hw : 0 ≤ l1 ∧ l1 < 2) (h1 : M 1 4 ≠ 0) (k : Q (some (vI (a_ans M l1 (M 86)))) M) : cq X (d + 3) 199 [vR 81, vI l1] M Q := by
  have h4 := hA.2.2.1
  rw [a_ans, if_neg h1] at k
  exact E_R_answerOf (B_R_answerOf_0 (LP_R_answerOf hR hA hp hw _ 1 0 _ (by omega) (by omega) (by omega) k))
theorem LP_R_looksAtTold (hr : Rel M) : ∀ (n : Nat) (i : Int) (M1 : vM), 0 ≤ i → i + n = 4 → Fr sTmp M M1 → (∀ s : Nat, (s : Int) < i → M1 86 s = M 78 s) → (∀ M1, Fr sTmp M M1 → (∀ s : Nat, s < 4 → M1 86 s = M 78 s) → Q none M1) → vw X d 196 2 [vR 81, vI i] [] M1 Q
  | 0, i, M1, h0, hn, f, h, k => B_R_looksAtTold_2 (fun _ => B_R_looksAtTold_25 (k M1 f (fun s hs => h s (by omega)))) (fun h => by exfalso; omega)
  | n + 1, i, M1, h0, hn, f, h, k => by
    refine B_R_looksAtTold_2 (fun h => by exfalso; omega) (fun _ => B_R_looksAtTold_7 (vRefs_fr f hr.1) (by omega) (by omega) (fun _ => ?_))
    rw [w32_i (x := i + 1) (by omega), f 85 i.toNat (by unfold sTmp; omega), (hr.2.1.2.2.2.2.2.2.2.2.1 i.toNat (by omega)).1]
    refine LP_R_looksAtTold hr n (i + 1) _ (by omega) (by omega) (f.up (by unfold sTmp; omega)) (fun s hs => ?_) k
    unfold vm_up
    by_cases e : s = i.toNat
    · subst e
      rw [if_pos ⟨rfl, rfl⟩]
    · rw [if_neg (by rintro ⟨-, q⟩; exact e q)]
      exact h s (by omega)
theorem S_R_looksAtTold (hr : Rel M) (k : ∀ M1, Fr sTmp M M1 → (∀ s : Nat, s < 4 → M1 86 s = M 78 s) → Q none M1) : cq X (d + 1) 196 [vR 81] M Q :=
  E_R_looksAtTold (B_R_looksAtTold_0 (LP_R_looksAtTold hr 4 0 M (by omega) (by omega) Fr.refl (fun s hs => by exfalso; omega) k))
theorem a_told_r (hA : RA M) : ∀ s : Nat, s < 4 → -999 ≤ M 78 s ∧ M 78 s ≤ 999 := fun s hs => by
  have := (hA.2.2.2.2.2.2.2.2.1 s hs).2
  omega
theorem op_gain {a0 a1 : Int} (hr : Rel M) : cq X (d + 40) 134 [vR 0, vI a0, vI a1] M (fun v M1 => cq X (d + 40) 200 [vR 81, vI a0, vI a1] M1 (fun v2 M2 => v2 = v ∧ Rel M2)) := by
  have h4 := hr.2.1.2.2.1
  by_cases h0 : 0 ≤ a0 ∧ a0 < M 1 4
  · by_cases h1 : 0 ≤ a1 ∧ a1 ≤ 1
    · refine E_X_gain (B_X_gain_0 hr.1 (S_isAct (B_X_gain_8 (fun h => by rw [if_pos h0] at h; omega) (fun _ => B_X_gain_11 (S_isWorld (B_X_gain_15 (fun h => by rw [if_pos h1] at h; omega) (fun _ => B_X_gain_18 hr.1 (S_Ac_left (q3 := 78) hr.1 hr.2.1 rfl (a_told_r hr.2.1) (by omega) (by omega) (B_X_gain_31 ?_)))))))))
      refine E_R_gain (B_R_gain_0 (S_R_isAct hr (B_R_gain_5 (fun h => by rw [if_pos h0] at h; omega) (fun _ => B_R_gain_8 (S_R_isWorld (B_R_gain_12 (fun _ => B_R_gain_19 (S_R_looksAtTold hr (fun M1 f hp => ?_))) (fun h => by rw [if_pos h1] at h; omega)))))))
      have hA1 := (Rel_fr f hr).2.1
      refine B_R_gain_23 (S_R_gainOf (vRefs_fr f hr.1) hA1 (fun s hs => by rw [hp s hs]; exact a_told_r hr.2.1 s hs) (by omega) (by omega) (B_R_gain_29 ⟨?_, Rel_fr f hr⟩))
      rw [a_left_fr f hr.2.1 hp (by omega) (by omega)]
    · refine E_X_gain (B_X_gain_0 hr.1 (S_isAct (B_X_gain_8 (fun h => by rw [if_pos h0] at h; omega) (fun _ => B_X_gain_11 (S_isWorld (B_X_gain_15 (fun _ => B_X_gain_34 ?_) (fun h => absurd (if_neg h1) h)))))))
      exact E_R_gain (B_R_gain_0 (S_R_isAct hr (B_R_gain_5 (fun h => by rw [if_pos h0] at h; omega) (fun _ => B_R_gain_8 (S_R_isWorld (B_R_gain_12 (fun h => absurd (if_neg h1) h) (fun _ => B_R_gain_15 ⟨rfl, hr⟩)))))))
  · refine E_X_gain (B_X_gain_0 hr.1 (S_isAct (B_X_gain_8 (fun _ => B_X_gain_34 ?_) (fun h => absurd (if_neg h0) h))))
    exact E_R_gain (B_R_gain_0 (S_R_isAct hr (B_R_gain_5 (fun _ => B_R_gain_15 ⟨rfl, hr⟩) (fun h => absurd (if_neg h0) h))))
theorem S_X_answer (hr : Rel M) (k : Q (some (vI (if 0 ≤ l1 ∧ l1 ≤ 1 then a_ans M l1 (M 78) else -1))) M) : cq X (d + 8) 135 [vR 0, vI l1] M Q := by
  by_cases h1 : 0 ≤ l1 ∧ l1 ≤ 1
  · rw [if_pos h1] at k
    exact E_X_answer (B_X_answer_0 (S_isWorld (B_X_answer_4 (fun h => by rw [if_pos h1] at h; omega) (fun _ => B_X_answer_7 hr.1 (S_Ac_answered (q3 := 78) hr.1 hr.2.1 rfl (a_told_r hr.2.1) (by omega) (B_X_answer_19 k))))))
  · rw [if_neg h1] at k
    exact E_X_answer (B_X_answer_0 (S_isWorld (B_X_answer_4 (fun _ => B_X_answer_22 k) (fun h => absurd (if_neg h1) h))))
theorem op_answer {a0 : Int} (hr : Rel M) : cq X (d + 40) 135 [vR 0, vI a0] M (fun v M1 => cq X (d + 40) 201 [vR 81, vI a0] M1 (fun v2 M2 => v2 = v ∧ Rel M2)) := by
  have e4 := hr.2.1.2.2.2.1
  refine S_X_answer hr ?_
  by_cases h1 : 0 ≤ a0 ∧ a0 ≤ 1
  · rw [if_pos h1]
    by_cases h2 : M 1 4 = 0
    · rw [a_ans, if_pos h2]
      exact E_R_answer (B_R_answer_0 (S_R_isWorld (B_R_answer_4 (fun h => by rw [if_pos h1] at h; omega) (fun _ => B_R_answer_7 (fun h => by exfalso; omega) (fun _ => B_R_answer_14 ⟨rfl, hr⟩)))))
    · refine E_R_answer (B_R_answer_0 (S_R_isWorld (B_R_answer_4 (fun h => by rw [if_pos h1] at h; omega) (fun _ => B_R_answer_7 (fun _ => B_R_answer_16 (S_R_looksAtTold hr (fun M1 f hp => ?_))) (fun h => by exfalso; omega)))))
      refine B_R_answer_20 (S_R_answerOf (vRefs_fr f hr.1) (Rel_fr f hr).2.1 (fun s hs => by rw [hp s hs]; exact a_told_r hr.2.1 s hs) (by omega) (by rw [f 1 4 (by unfold sTmp; omega)]; exact h2) (B_R_answer_25 ⟨?_, Rel_fr f hr⟩))
      rw [a_ans_fr f hr.2.1 hp (by omega)]
  · rw [if_neg h1]
    exact E_R_answer (B_R_answer_0 (S_R_isWorld (B_R_answer_4 (fun _ => B_R_answer_14 ⟨rfl, hr⟩) (fun h => absurd (if_neg h1) h))))
end AC
