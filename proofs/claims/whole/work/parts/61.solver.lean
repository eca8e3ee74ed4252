/-! THE CLASS'S SOLVER: its table is that of a basis -/
def ml (n i : Nat) : Nat := if i ≤ n then i else i + (4 - n)
theorem ml_r {n m i : Nat} (hn : n ≤ 4) (h : i < 1 + n + m) : rl n m (ml n i) := by
  unfold ml rl
  split <;> omega
theorem ml_1 {n i : Nat} (h : 1 ≤ i) : 1 ≤ ml n i := by unfold ml; split <;> omega
theorem ml_i {n i i' : Nat} (hn : n ≤ 4) (h : ml n i = ml n i') : i = i' := by unfold ml at h; split at h <;> split at h <;> omega
def LpB (A : Nat → Nat → Int) (C : Nat → Int) : Prop := (∀ i s : Nat, 1 ≤ i → s < 4 → bd 12 (A i s)) ∧ (∀ s : Nat, s < 4 → bd 99 (A 0 s)) ∧ ∀ i : Nat, bd 2376 (C i)
/-- the entries of a row, column 0 first -/
def lpE (A : Nat → Nat → Int) (C : Nat → Int) (B : Nat → Nat) (i : Nat) : Nat → Int
  | 0 => lp0 A C B i
  | j + 1 => lpT A B i j
def SvH (n m : Nat) (B : Nat → Nat) (A : Nat → Nat → Int) (M : vM) : Prop := M 13 1 = (n : Int) ∧ M 13 2 = ((1 + n + m : Nat) : Int) ∧ M 13 3 = lpD A B
def SvT (n m : Nat) (A : Nat → Nat → Int) (C : Nat → Int) (B : Nat → Nat) (M : vM) : Prop := SvH n m B A M ∧ ∀ i, i < 1 + n + m → ∀ j, j ≤ n → M (15 + i) j = lpE A C B (ml n i) j
theorem SvS_B {n m : Nat} {A : Nat → Nat → Int} {C : Nat → Int} {B : Nat → Nat} (hb : LpB A C) (hS : LpS n m A B) : ∀ j s, j < 4 → s < 4 → bd 12 (A (B j) s) := fun j s hj hs => hb.1 _ _ (by
  by_cases z : j < n
  · exact (hS.2.1 j z).1
  · rw [hS.2.2.1 j (by omega) hj]; omega) hs
theorem lp_bTw {n m : Nat} {A : Nat → Nat → Int} {C : Nat → Int} {B : Nat → Nat} (hb : LpB A C) (hS : LpS n m A B) (i : Nat) {j : Nat} (hj : j < 4) : bd 4105728 (lpT A B i j) := by
  refine bd_l (lp_bT (a := 99) (SvS_B hb hS) hj (fun s hs => ?_)) (by decide)
  by_cases z : i = 0
  · rw [z]; exact hb.2.1 s hs
  · exact bd_l (hb.1 i s (by omega) hs) (by decide)
theorem lp_b0w {n m : Nat} {A : Nat → Nat → Int} {C : Nat → Int} {B : Nat → Nat} (hb : LpB A C) (hS : LpS n m A B) (i : Nat) : bd 40203288576 (lp0 A C B i) := by
  refine bd_l (lp_b0 (a := 99) (SvS_B hb hS) (fun s hs => ?_) (fun j _ => hb.2.2 _) (hb.2.2 _)) (by decide)
  by_cases z : i = 0
  · rw [z]; exact hb.2.1 s hs
  · exact bd_l (hb.1 i s (by omega) hs) (by decide)
theorem lp_bE {n m : Nat} {A : Nat → Nat → Int} {C : Nat → Int} {B : Nat → Nat} (hb : LpB A C) (hS : LpS n m A B) (hn : n ≤ 4) (i : Nat) {j : Nat} (hj : j ≤ n) : bd 40203288576 (lpE A C B i j) := by
  cases j with
  | zero => exact lp_b0w hb hS i
  | succ j => exact bd_l (lp_bTw hb hS i (by omega)) (by decide)
theorem bd64 {x : Int} {b : Int} (h : bd b x) (hb : b < 9000000000000000000) : w64 x = x := w64_i (by unfold bd at h; omega)
section SV
variable {X : vX} {d : Nat} {M : vM} {Q : Option vV → vM → Prop} {n m r j k : Nat} {A : Nat → Nat → Int} {C : Nat → Int} {B : Nat → Nat}
theorem LP_firstBroken (hR : vRefs M) (hn : n ≤ 4) (hm : m ≤ 8) (hT : SvT n m A C B M) (q1 : ∀ r, 1 ≤ r → r < 1 + n + m → lp0 A C B (ml n r) < 0 → Q (some (vI (r : Int))) M) (q2 : (∀ r, 1 ≤ r → r < 1 + n + m → 0 ≤ lp0 A C B (ml n r)) → Q (some (vI (-1))) M) : ∀ (w i : Nat), i + w = 1 + n + m → 1 ≤ i → (∀ r, 1 ≤ r → r < i → 0 ≤ lp0 A C B (ml n r)) → vw X d 91 2 [vR 13, vI (i : Int)] [] M Q
  | 0, i, hw, hi, h => B_So_firstBroken_2 (fun _ => B_So_firstBroken_31 (q2 (fun r h1 h2 => h r h1 (by omega)))) (fun z => by rw [hT.1.2.1] at z; exfalso; omega)
  | w + 1, i, hw, hi, h => by
    have e := hT.2 i (by omega) 0 (by omega)
    refine B_So_firstBroken_2 (fun z => by rw [hT.1.2.1] at z; exfalso; omega) (fun _ => B_So_firstBroken_10 hR (by omega) (fun z => ?_) (fun z => ?_))
    · rw [Int.toNat_natCast, e] at z
      refine B_So_firstBroken_25 ?_
      rw [w32_i (by omega)]
      refine LP_firstBroken hR hn hm hT q1 q2 w (i + 1) (by omega) (by omega) (fun r h1 h2 => ?_)
      by_cases y : r = i
      · rw [y]; exact z
      · exact h r h1 (by omega)
    · rw [Int.toNat_natCast, e] at z
      exact B_So_firstBroken_23 (q1 i hi (by omega) z)
theorem S_firstBroken (hR : vRefs M) (hn : n ≤ 4) (hm : m ≤ 8) (hT : SvT n m A C B M) (q1 : ∀ r, 1 ≤ r → r < 1 + n + m → lp0 A C B (ml n r) < 0 → Q (some (vI (r : Int))) M) (q2 : (∀ r, 1 ≤ r → r < 1 + n + m → 0 ≤ lp0 A C B (ml n r)) → Q (some (vI (-1))) M) : cq X (d + 1) 91 [vR 13] M Q :=
  E_So_firstBroken (B_So_firstBroken_0 (LP_firstBroken hR hn hm hT q1 q2 (n + m) 1 (by omega) (by omega) (fun r h1 h2 => by omega)))
theorem LP_growsLess (hR : vRefs M) (hA : LpA n m A C) (hb : LpB A C) (hS : LpS n m A B) (hT : SvT n m A C B M) (hr : r < 1 + n + m) (hj : j < n) (hk : k < n) : ∀ (w i : Nat) (w5 w7 : vV), i + w = n + 1 → (lxp (fun i => lpT A B i k * lpT A B (ml n r) j - lpT A B i j * lpT A B (ml n r) k) w i → Q (some (vI 1)) M) → (lxn (fun i => lpT A B i j * lpT A B (ml n r) k - lpT A B i k * lpT A B (ml n r) j) w i → Q (some (vI 0)) M) → vw X d 93 3 [vR 13, vI ((j + 1 : Nat) : Int), vI ((k + 1 : Nat) : Int), vI (r : Int), vI (i : Int), w5, vN, w7, vN] [] M Q
  | 0, i, w5, w7, hw, _, q2 => B_So_growsLess_3 (fun _ => B_So_growsLess_80 (q2 trivial)) (fun z => by rw [hT.1.1] at z; exfalso; omega)
  | w + 1, i, w5, w7, hw, q1, q2 => by
    have hn := hA.1
    have hm := hA.2.1
    have e1 : M (15 + i) (j + 1) = lpT A B (ml n i) j := hT.2 i (by omega) (j + 1) (by omega)
    have e2 : M (15 + i) (k + 1) = lpT A B (ml n i) k := hT.2 i (by omega) (k + 1) (by omega)
    have e3 : M (15 + r) (j + 1) = lpT A B (ml n r) j := hT.2 r (by omega) (j + 1) (by omega)
    have e4 : M (15 + r) (k + 1) = lpT A B (ml n r) k := hT.2 r (by omega) (k + 1) (by omega)
    have em : ml n i = i := by unfold ml; rw [if_pos (by omega)]
    rw [em] at e1 e2
    have b1 := bd_m (lp_bTw hb hS i (show j < 4 by omega)) (lp_bTw hb hS (ml n r) (show k < 4 by omega))
    have b2 := bd_m (lp_bTw hb hS i (show k < 4 by omega)) (lp_bTw hb hS (ml n r) (show j < 4 by omega))
    refine B_So_growsLess_3 (fun z => by rw [hT.1.1] at z; exfalso; omega) (fun _ => B_So_growsLess_12 hR (by omega) (by omega) (by omega) (by omega) (by omega) (by omega) (by omega) (by omega) ?_ ?_) <;> simp only [Int.toNat_natCast, e1, e2, e3, e4] <;> rw [bd64 b1 (by decide), bd64 b2 (by decide)]
    · intro z
      refine B_So_growsLess_74 ?_
      rw [w32_i (by omega)]
      exact LP_growsLess hR hA hb hS hT hr hj hk w (i + 1) _ _ (by omega) (fun y => q1 (Or.inr ⟨by show lpT A B i k * _ - _ = 0; omega, y⟩)) (fun y => q2 (Or.inr ⟨by show lpT A B i j * _ - _ = 0; omega, y⟩))
    · intro z
      refine B_So_growsLess_60 (fun y => B_So_growsLess_72 (q2 (Or.inl ?_))) (fun y => B_So_growsLess_68 (q1 (Or.inl ?_)))
      · show 0 < lpT A B i j * _ - _
        omega
      · show 0 < lpT A B i k * _ - _
        omega
theorem S_growsLess (hR : vRefs M) (hA : LpA n m A C) (hb : LpB A C) (hS : LpS n m A B) (hT : SvT n m A C B M) (hr : r < 1 + n + m) (hj : j < n) (hk : k < n) (q1 : lxp (fun i => lpT A B i k * lpT A B (ml n r) j - lpT A B i j * lpT A B (ml n r) k) (n + 1) 0 → Q (some (vI 1)) M) (q2 : lxn (fun i => lpT A B i j * lpT A B (ml n r) k - lpT A B i k * lpT A B (ml n r) j) (n + 1) 0 → Q (some (vI 0)) M) : cq X (d + 1) 93 [vR 13, vI ((j + 1 : Nat) : Int), vI ((k + 1 : Nat) : Int), vI (r : Int)] M Q :=
  E_So_growsLess (B_So_growsLess_0 (LP_growsLess hR hA hb hS hT hr hj hk (n + 1) 0 _ _ (by omega) q1 q2))
/-- column c mends line r best among the first ones -/
def Mnd (A : Nat → Nat → Int) (B : Nat → Nat) (n r c q : Nat) : Prop := c < n ∧ 0 < lpT A B r c ∧ ∀ j, j < q → j ≠ c → 0 < lpT A B r j → lxn (fun i => lpT A B i j * lpT A B r c - lpT A B i c * lpT A B r j) (n + 1) 0
theorem Mnd_up {c q r : Nat} (h : Mnd A B n r c q) (hp : 0 < lpT A B r q → lxn (fun i => lpT A B i q * lpT A B r c - lpT A B i c * lpT A B r q) (n + 1) 0) : Mnd A B n r c (q + 1) := ⟨h.1, h.2.1, fun j hj hjc hp2 => by
  by_cases e : j = q
  · rw [e] at hp2 ⊢; exact hp hp2
  · exact h.2.2 j (by omega) hjc hp2⟩
theorem Mnd_new {c q r : Nat} (h : Mnd A B n r c q) (hq : q < n) (hp : 0 < lpT A B r q) (hl : lxp (fun i => lpT A B i c * lpT A B r q - lpT A B i q * lpT A B r c) (n + 1) 0) : Mnd A B n r q (q + 1) := ⟨hq, hp, fun j hj hjc hp2 => by
  by_cases e : j = c
  · rw [e]; exact lxp_n hl
  · refine lxn_d h.2.1 (lxn_c (fun k _ _ => ?_) (lxn_a (lxn_m (Int.le_of_lt hp) (h.2.2 j (by omega) e hp2)) (lxn_m (Int.le_of_lt hp2) (lxp_n hl))))
    show lpT A B r c * (lpT A B k j * lpT A B r q - lpT A B k q * lpT A B r j) = lpT A B r q * (lpT A B k j * lpT A B r c - lpT A B k c * lpT A B r j) + lpT A B r j * (lpT A B k c * lpT A B r q - lpT A B k q * lpT A B r c)
    grind⟩
theorem LP_mending (hR : vRefs M) (hA : LpA n m A C) (hb : LpB A C) (hS : LpS n m A B) (hT : SvT n m A C B M) (hr : r < 1 + n + m) (q1 : ∀ c, Mnd A B n (ml n r) c n → Q (some (vI ((c + 1 : Nat) : Int))) M) (q2 : (∀ j, j < n → lpT A B (ml n r) j ≤ 0) → Q (some (vI (-1))) M) : ∀ (w i : Nat) (f : Int), i + w = n → ((f = -1 ∧ ∀ j, j < i → lpT A B (ml n r) j ≤ 0) ∨ ∃ c : Nat, f = ((c + 1 : Nat) : Int) ∧ Mnd A B n (ml n r) c i) → vw X (d + 1) 92 4 [vR 13, vI (r : Int), vI f, vI ((i + 1 : Nat) : Int)] [] M Q
  | 0, i, f, hw, hf => by
    refine B_So_mending_4 (fun _ => B_So_mending_47 ?_) (fun z => by rw [hT.1.1] at z; exfalso; omega)
    have e : i = n := by omega
    subst e
    rcases hf with ⟨rfl, h⟩ | ⟨c, rfl, h⟩
    · exact q2 h
    · exact q1 c h
  | w + 1, i, f, hw, hf => by
    have hn := hA.1
    have hm := hA.2.1
    have e3 : M (15 + r) (i + 1) = lpT A B (ml n r) i := hT.2 r (by omega) (i + 1) (by omega)
    have nx : w32 (((i + 1 : Nat) : Int) + 1) = ((i + 1 + 1 : Nat) : Int) := by rw [w32_i (by omega)]; omega
    refine B_So_mending_4 (fun z => by rw [hT.1.1] at z; exfalso; omega) (fun _ => B_So_mending_12 hR (by omega) (by omega) ?_ ?_) <;> rw [Int.toNat_natCast, Int.toNat_natCast, e3] <;> intro z
    · refine B_So_mending_41 ?_
      rw [nx]
      refine LP_mending hR hA hb hS hT hr q1 q2 w (i + 1) f (by omega) ?_
      rcases hf with ⟨h1, h2⟩ | ⟨c, h1, h2⟩
      · refine Or.inl ⟨h1, fun j hj => ?_⟩
        by_cases e : j = i
        · rw [e]; exact z
        · exact h2 j (by omega)
      · exact Or.inr ⟨c, h1, Mnd_up h2 (fun y => by omega)⟩
    · rcases hf with ⟨rfl, h⟩ | ⟨c, rfl, h⟩
      · refine B_So_mending_25 (fun _ => B_So_mending_39 ?_) (fun y => by exfalso; omega)
        rw [nx]
        refine LP_mending hR hA hb hS hT hr q1 q2 w (i + 1) _ (by omega) (Or.inr ⟨i, rfl, by omega, z, fun j hj hjc hp => ?_⟩)
        have := h j (by omega)
        omega
      · refine B_So_mending_25 (fun y => by exfalso; omega) (fun _ => B_So_mending_29 (S_growsLess hR hA hb hS hT hr (j := i) (k := c) (by omega) h.1 (fun y => B_So_mending_36 (fun y2 => by exfalso; omega) (fun _ => B_So_mending_39 ?_)) (fun y => B_So_mending_36 (fun _ => B_So_mending_41 ?_) (fun y2 => absurd rfl y2))))
        · rw [nx]
          exact LP_mending hR hA hb hS hT hr q1 q2 w (i + 1) _ (by omega) (Or.inr ⟨i, rfl, Mnd_new h (by omega) z y⟩)
        · rw [nx]
          exact LP_mending hR hA hb hS hT hr q1 q2 w (i + 1) _ (by omega) (Or.inr ⟨c, rfl, Mnd_up h (fun _ => y)⟩)
theorem S_mending (hR : vRefs M) (hA : LpA n m A C) (hb : LpB A C) (hS : LpS n m A B) (hT : SvT n m A C B M) (hr : r < 1 + n + m) (q1 : ∀ c, Mnd A B n (ml n r) c n → Q (some (vI ((c + 1 : Nat) : Int))) M) (q2 : (∀ j, j < n → lpT A B (ml n r) j ≤ 0) → Q (some (vI (-1))) M) : cq X (d + 2) 92 [vR 13, vI (r : Int)] M Q :=
  E_So_mending (B_So_mending_0 (LP_mending hR hA hb hS hT hr q1 q2 n 0 (-1) (by omega) (Or.inl ⟨rfl, fun j hj => by omega⟩)))
end SV
