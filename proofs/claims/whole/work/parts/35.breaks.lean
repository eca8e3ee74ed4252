/-! A TEAM: what breaks a row of works -/
def t_from (M : vM) (s b : Int) : Nat → Int → Bool
  | 0, _ => true
  | n + 1, i => if t_bit b i = 1 ∧ t_keep M (j_ixor s b) i ≤ t_keep M s i then false else t_from M s b n (i + 1)
def t_all (M : vM) (s b : Int) : Bool := t_from M s b (M 49 3).toNat 0
def t_first (M : vM) (s al : Int) : Nat → Int → Int
  | 0, _ => -1
  | n + 1, b => if (al = 0 ∨ t_pop b = 1) ∧ t_all M s b = true then b else t_first M s al n (b + 1)
def t_fb (M : vM) (s al : Int) : Int := t_first M s al (j_ishl 1 (M 49 3) - 1).toNat 1
theorem j_xor16 {s b : Int} (hs : 0 ≤ s ∧ s < 16) (hb : 0 ≤ b ∧ b < 16) : 0 ≤ j_ixor s b ∧ j_ixor s b < 16 :=
  c16 (P := fun s => 0 ≤ j_ixor s b ∧ j_ixor s b < 16) (fun n => c16 (P := fun b => 0 ≤ j_ixor (n.val : Int) b ∧ j_ixor (n.val : Int) b < 16) (fun m => by revert n m; decide +kernel) hb.1 hb.2) hs.1 hs.2
theorem t_bit01 {b i : Int} : t_bit b i = 0 ∨ t_bit b i = 1 := by unfold t_bit; omega
section TN
variable {X : vX} {d : Nat} {M : vM} {Q : Option vV → vM → Prop} {l0 l1 l2 l3 : Int}
theorem LP_Te_allGain (hr : Rel M) (hs : 0 ≤ l1 ∧ l1 < 16) (hb2 : 0 ≤ l2 ∧ l2 < 16) : ∀ (n : Nat) (i : Int), 0 ≤ i → i + n = M 49 3 → Q (some (vI (if t_from M l1 l2 n i = true then 1 else 0))) M → vw X (d + 2) 109 2 [vR 49, vI l1, vI l2, vI i] [] M Q
  | 0, i, h0, hn, k => by
    have te1 := hr.2.2.2.2.1.1
    refine B_Te_allGain_2 (fun h => B_Te_allGain_43 k) (fun h => by exfalso; omega)
  | n + 1, i, h0, hn, k => by
    have te1 := hr.2.2.2.2.1.1
    have te2 := hr.2.2.2.2.1.2.1
    have hi : 0 ≤ i ∧ i < 4 := by omega
    have eb := t_bit_j hb2 hi
    have e1 := w32_id (x := i + 1) (by omega) (by omega)
    refine B_Te_allGain_2 (fun h => by exfalso; omega) (fun h => ?_)
    have go : ∀ (_ : ¬ (t_bit l2 i = 1 ∧ t_keep M (j_ixor l1 l2) i ≤ t_keep M l1 i)), vw X (d + 2) 109 37 [vR 49, vI l1, vI l2, vI i] [] M Q := fun hc => by
      refine B_Te_allGain_37 ?_
      rw [e1]
      refine LP_Te_allGain hr hs hb2 n (i + 1) (by omega) (by omega) ?_
      rw [t_from, if_neg hc] at k
      exact k
    refine B_Te_allGain_10 (fun hb => ?_) (fun hb => ?_)
    · rw [eb] at hb
      exact go (by omega)
    · rw [eb] at hb
      have hb1 : t_bit l2 i = 1 := by have := t_bit01 (b := l2) (i := i); omega
      refine B_Te_allGain_18 (S_Te_keeps hr (j_xor16 hs hb2) hi (B_Te_allGain_26 (S_Te_keeps hr hs hi (B_Te_allGain_32 (fun h => go (by omega)) (fun h => B_Te_allGain_35 ?_)))))
      rw [t_from, if_pos (show t_bit l2 i = 1 ∧ t_keep M (j_ixor l1 l2) i ≤ t_keep M l1 i from ⟨hb1, h⟩)] at k
      exact k
theorem S_Te_allGain (hr : Rel M) (hs : 0 ≤ l1 ∧ l1 < 16) (hb2 : 0 ≤ l2 ∧ l2 < 16) (k : Q (some (vI (if t_all M l1 l2 = true then 1 else 0))) M) : cq X (d + 3) 109 [vR 49, vI l1, vI l2] M Q := by
  have te2 := hr.2.2.2.2.1.2.1
  exact E_Te_allGain (B_Te_allGain_0 (LP_Te_allGain hr hs hb2 (M 49 3).toNat 0 (by omega) (by omega) k))
theorem LP_Te_firstBreak (hr : Rel M) (hs : 0 ≤ l1 ∧ l1 < 16) : ∀ (n : Nat) (i : Int), 1 ≤ i → i + n = j_ishl 1 (M 49 3) → Q (some (vI (t_first M l1 l2 n i))) M → vw X (d + 3) 108 2 [vR 49, vI l1, vI l2, vI i] [] M Q
  | 0, i, h0, hn, k => by
    have te1 := hr.2.2.2.2.1.1
    refine B_Te_firstBreak_2 (fun h => B_Te_firstBreak_41 k) (fun h => by exfalso; omega)
  | n + 1, i, h0, hn, k => by
    have te1 := hr.2.2.2.2.1.1
    have te2 := hr.2.2.2.2.1.2.1
    have hsh := j_shl1 te2
    have hi : 0 ≤ i ∧ i < 16 := by omega
    have e1 := w32_id (x := i + 1) (by omega) (by omega)
    refine B_Te_firstBreak_2 (fun h => by exfalso; omega) (fun h => ?_)
    have go : ∀ (_ : ¬ ((l2 = 0 ∨ t_pop i = 1) ∧ t_all M l1 i = true)), vw X (d + 3) 108 35 [vR 49, vI l1, vI l2, vI i] [] M Q := fun hc => by
      refine B_Te_firstBreak_35 ?_
      rw [e1]
      refine LP_Te_firstBreak hr hs n (i + 1) (by omega) (by omega) ?_
      rw [t_first, if_neg hc] at k
      exact k
    have al : ∀ (_ : l2 = 0 ∨ t_pop i = 1), vw X (d + 3) 108 24 [vR 49, vI l1, vI l2, vI i] [] M Q := fun hc => by
      refine B_Te_firstBreak_24 (S_Te_allGain hr hs hi ?_)
      by_cases ha : t_all M l1 i = true
      · rw [if_pos ha]
        refine B_Te_firstBreak_30 (fun h => absurd h (by decide)) (fun h => B_Te_firstBreak_33 ?_)
        rw [t_first, if_pos ⟨hc, ha⟩] at k
        exact k
      · rw [if_neg ha]
        exact B_Te_firstBreak_30 (fun h => go (fun q => ha q.2)) (fun h => absurd rfl h)
    refine B_Te_firstBreak_12 (fun hz => al (Or.inl hz)) (fun hz => ?_)
    refine B_Te_firstBreak_16 (S_J_bitCount hi ?_)
    exact B_Te_firstBreak_20 (fun h => go (fun q => by rcases q.1 with q1 | q1 <;> contradiction)) (fun h => al (Or.inr h))
theorem S_Te_firstBreak (hr : Rel M) (hs : 0 ≤ l1 ∧ l1 < 16) (k : Q (some (vI (t_fb M l1 l2))) M) : cq X (d + 4) 108 [vR 49, vI l1, vI l2] M Q := by
  have te2 := hr.2.2.2.2.1.2.1
  have hsh := j_shl1 te2
  exact E_Te_firstBreak (B_Te_firstBreak_0 (LP_Te_firstBreak hr hs (j_ishl 1 (M 49 3) - 1).toNat 1 (by omega) (by omega) k))
theorem LP_R_isBroken (hr : Rel M) (hs : 0 ≤ l1 ∧ l1 < 16) (hb2 : 0 ≤ l2 ∧ l2 < 16) : ∀ (n : Nat) (i : Int), 0 ≤ i → i + n = M 49 3 → Q (some (vI (if t_from M l1 l2 n i = true then 1 else 0))) M → vw X (d + 2) 238 2 [vR 81, vI l1, vI l2, vI i] [] M Q
  | 0, i, h0, hn, k => by
    have te1 := hr.2.2.2.2.1.1
    refine B_R_isBroken_2 (fun h => B_R_isBroken_44 k) (fun h => by exfalso; omega)
  | n + 1, i, h0, hn, k => by
    have te1 := hr.2.2.2.2.1.1
    have te2 := hr.2.2.2.2.1.2.1
    have hi : 0 ≤ i ∧ i < 4 := by omega
    have eb := t_bit_j hb2 hi
    have e1 := w32_id (x := i + 1) (by omega) (by omega)
    refine B_R_isBroken_2 (fun h => by exfalso; omega) (fun h => ?_)
    have go : ∀ (_ : ¬ (t_bit l2 i = 1 ∧ t_keep M (j_ixor l1 l2) i ≤ t_keep M l1 i)), vw X (d + 2) 238 38 [vR 81, vI l1, vI l2, vI i] [] M Q := fun hc => by
      refine B_R_isBroken_38 ?_
      rw [e1]
      refine LP_R_isBroken hr hs hb2 n (i + 1) (by omega) (by omega) ?_
      rw [t_from, if_neg hc] at k
      exact k
    refine B_R_isBroken_10 (fun hb => ?_) (fun hb => ?_)
    · rw [eb] at hb
      exact go (by omega)
    · rw [eb] at hb
      have hb1 : t_bit l2 i = 1 := by have := t_bit01 (b := l2) (i := i); omega
      refine B_R_isBroken_19 (S_R_memberHas hr (j_xor16 hs hb2) hi (B_R_isBroken_27 (S_R_memberHas hr hs hi (B_R_isBroken_33 (fun h => go (by omega)) (fun h => B_R_isBroken_36 ?_)))))
      rw [t_from, if_pos (show t_bit l2 i = 1 ∧ t_keep M (j_ixor l1 l2) i ≤ t_keep M l1 i from ⟨hb1, h⟩)] at k
      exact k
theorem S_R_isBroken (hr : Rel M) (hs : 0 ≤ l1 ∧ l1 < 16) (hb2 : 0 ≤ l2 ∧ l2 < 16) (k : Q (some (vI (if t_all M l1 l2 = true then 1 else 0))) M) : cq X (d + 3) 238 [vR 81, vI l1, vI l2] M Q := by
  have te2 := hr.2.2.2.2.1.2.1
  exact E_R_isBroken (B_R_isBroken_0 (LP_R_isBroken hr hs hb2 (M 49 3).toNat 0 (by omega) (by omega) k))
theorem LP_R_firstBreak (hr : Rel M) (hs : 0 ≤ l1 ∧ l1 < 16) : ∀ (n : Nat) (i : Int), 1 ≤ i → i + n = j_ishl 1 (M 49 3) → Q (some (vI (t_first M l1 l2 n i))) M → vw X (d + 3) 239 2 [vR 81, vI l1, vI l2, vI i] [] M Q
  | 0, i, h0, hn, k => by
    have te1 := hr.2.2.2.2.1.1
    refine B_R_firstBreak_2 (fun h => B_R_firstBreak_41 k) (fun h => by exfalso; rw [te1] at h; omega)
  | n + 1, i, h0, hn, k => by
    have te1 := hr.2.2.2.2.1.1
    have te2 := hr.2.2.2.2.1.2.1
    have hsh := j_shl1 te2
    have hi : 0 ≤ i ∧ i < 16 := by omega
    have e1 := w32_id (x := i + 1) (by omega) (by omega)
    refine B_R_firstBreak_2 (fun h => by exfalso; rw [te1] at h; omega) (fun h => ?_)
    have go : ∀ (_ : ¬ ((l2 = 0 ∨ t_pop i = 1) ∧ t_all M l1 i = true)), vw X (d + 3) 239 35 [vR 81, vI l1, vI l2, vI i] [] M Q := fun hc => by
      refine B_R_firstBreak_35 ?_
      rw [e1]
      refine LP_R_firstBreak hr hs n (i + 1) (by omega) (by omega) ?_
      rw [t_first, if_neg hc] at k
      exact k
    have al : ∀ (_ : l2 = 0 ∨ t_pop i = 1), vw X (d + 3) 239 24 [vR 81, vI l1, vI l2, vI i] [] M Q := fun hc => by
      refine B_R_firstBreak_24 (S_R_isBroken hr hs hi ?_)
      by_cases ha : t_all M l1 i = true
      · rw [if_pos ha]
        refine B_R_firstBreak_30 (fun h => absurd h (by decide)) (fun h => B_R_firstBreak_33 ?_)
        rw [t_first, if_pos ⟨hc, ha⟩] at k
        exact k
      · rw [if_neg ha]
        exact B_R_firstBreak_30 (fun h => go (fun q => ha q.2)) (fun h => absurd rfl h)
    refine B_R_firstBreak_12 (fun hz => al (Or.inl hz)) (fun hz => ?_)
    refine B_R_firstBreak_16 (S_R_bits hi ?_)
    exact B_R_firstBreak_20 (fun h => go (fun q => by rcases q.1 with q1 | q1 <;> contradiction)) (fun h => al (Or.inr h))
theorem S_R_firstBreak (hr : Rel M) (hs : 0 ≤ l1 ∧ l1 < 16) (k : Q (some (vI (t_fb M l1 l2))) M) : cq X (d + 4) 239 [vR 81, vI l1, vI l2] M Q := by
  have te2 := hr.2.2.2.2.1.2.1
  have hsh := j_shl1 te2
  exact E_R_firstBreak (B_R_firstBreak_0 (LP_R_firstBreak hr hs (j_ishl 1 (M 49 3) - 1).toNat 1 (by omega) (by omega) k))
theorem t_first_r (M : vM) (s al : Int) : ∀ (n : Nat) (b : Int), 1 ≤ b → t_first M s al n b = -1 ∨ 1 ≤ t_first M s al n b
  | 0, _, _ => Or.inl rfl
  | n + 1, b, h => by
    rw [t_first]
    split
    · exact Or.inr h
    · exact t_first_r M s al n (b + 1) (by omega)
end TN
