/-! THE CLASS'S SOLVER solves -/
section SS
variable {X : vX} {d : Nat} {M M0 : vM} {Q : Option vV → vM → Prop} {n m r c : Nat} {A : Nat → Nat → Int} {C : Nat → Int} {B : Nat → Nat}
def SvYes (n m : Nat) (A : Nat → Nat → Int) (C : Nat → Int) (B : Nat → Nat) : Prop := LpS n m A B ∧ ∀ i, 1 ≤ i → rl n m i → 0 ≤ lp0 A C B i
def SvNo (n m : Nat) (A : Nat → Nat → Int) (C : Nat → Int) (B : Nat → Nat) : Prop := LpS n m A B ∧ ∃ r, rl n m r ∧ 1 ≤ r ∧ lp0 A C B r < 0 ∧ ∀ j, j < n → lpT A B r j ≤ 0
theorem LP_solves {N : Nat} (hN : N = 28561) (hA : LpA n m A C) (hb : LpB A C) (q1 : ∀ M1 B, vRefs M1 → SvT n m A C B M1 → SvYes n m A C B → Fr sSv M0 M1 → Q (some (vI 1)) M1) (q2 : ∀ M1 B, vRefs M1 → SvNo n m A C B → Fr sSv M0 M1 → Q (some (vI 0)) M1) : ∀ (u t : Nat) (M : vM) (B : Nat → Nat) (v : Nat → Bool) (w2 w3 : vV), vRefs M → LpS n m A B → SvT n m A C B M → LpM n m A C B v → lpU v N ≤ u → t + u ≤ N → Fr sSv M0 M → vw X (d + 3) 90 2 [vR 13, vI (t : Int), w2, w3] [] M Q
  | 0, t, M, B, v, w2, w3, hR, hS, hT, hM, hu, ht, f => by
    have e1 := lpM_new hA hS hM
    have e2 := (lpU_up (v := v) (b := lpN B) N).2 (by rw [hN]; exact lpN_lt hA hS) e1
    omega
  | u + 1, t, M, B, v, w2, w3, hR, hS, hT, hM, hu, ht, f => by
    have hn := hA.1
    have hm := hA.2.1
    refine B_So_solves_2 (fun z => by exfalso; omega) (fun _ => B_So_solves_8 (S_firstBroken hR hn hm hT (fun r h1 h2 h3 => B_So_solves_12 (fun _ => B_So_solves_19 (S_mending hR hA hb hS hT h2 (fun c hc => B_So_solves_24 (fun _ => B_So_solves_31 ?_) (fun z => by exfalso; omega)) (fun hz => B_So_solves_24 (fun z => by exfalso; omega) (fun _ => B_So_solves_29 (q2 M B hR ⟨hS, ml n r, ml_r hn h2, ml_1 h1, h3, hz⟩ f))))) (fun z => by exfalso; omega)) (fun hz => B_So_solves_12 (fun z => by exfalso; omega) (fun _ => B_So_solves_17 (q1 M B hR hT ⟨hS, fun i h1 h2 => ?_⟩ f)))))
    · obtain ⟨hS2, g⟩ := lp_exch hA hS hc.1 (ml_r hn h2) (ml_1 h1) h3 hc.2.1 hc.2.2
      refine S_exchange hR hA hb hS hS2 hT h2 hc.1 hc.2.1 (fun M1 y1 y2 y3 => B_So_solves_37 ?_)
      rw [w32_i (by omega)]
      have e1 := lpM_new hA hS hM
      have e2 := (lpU_up (v := v) (b := lpN B) N).2 (by rw [hN]; exact lpN_lt hA hS) e1
      exact LP_solves hN hA hb q1 q2 u (t + 1) M1 _ _ _ _ y1 hS2 y2 (lpM_up hA hS hS2 hM g) (by omega) (by omega) (f.trans y3)
    · by_cases y : i ≤ n
      · have := hz i h1 (by omega)
        rw [show ml n i = i by unfold ml; rw [if_pos y]] at this
        exact this
      · have h3 : 5 ≤ i ∧ i < 5 + m := by unfold rl at h2; omega
        have := hz (i - 4 + n) (by omega) (by omega)
        rw [show ml n (i - 4 + n) = i by unfold ml; rw [if_neg (by omega)]; omega] at this
        exact this
theorem S_solves (hA : LpA n m A C) (hb : LpB A C) (hg : ∀ j, j < n → 0 ≤ A 0 j) (hR : vRefs M) (hT : SvT n m A C lpB0 M) (q1 : ∀ M1 B, vRefs M1 → SvT n m A C B M1 → SvYes n m A C B → Fr sSv M M1 → Q (some (vI 1)) M1) (q2 : ∀ M1 B, vRefs M1 → SvNo n m A C B → Fr sSv M M1 → Q (some (vI 0)) M1) : cq X (d + 4) 90 [vR 13] M Q := by
  obtain ⟨N, hN⟩ : ∃ N : Nat, N = 28561 := ⟨_, rfl⟩
  exact E_So_solves (B_So_solves_0 (LP_solves (t := 0) hN hA hb q1 q2 N M lpB0 (fun _ => false) _ _ hR (lp_S0 hA hg) hT (fun B' _ h => by simp at h) (lpU_le _ _) (by omega) Fr.refl))
end SS
/-! lines asked for -/
section SK
variable {X : vX} {d : Nat} {M : vM} {Q : Option vV → vM → Prop} {n L u : Nat} {b3 by' need : Int} {T : Nat → Nat → Int}
def AskT (n L : Nat) (b3 : Int) (T : Nat → Nat → Int) (M : vM) : Prop := M 13 1 = (n : Int) ∧ M 13 2 = (L : Int) ∧ M 13 3 = b3 ∧ ∀ i, i < L → ∀ j, j ≤ 4 → M (15 + i) j = T i j
theorem AskT_c {T' : Nat → Nat → Int} (h : AskT n L b3 T M) (e : ∀ i, i < L → ∀ j, j ≤ 4 → T' i j = T i j) : AskT n L b3 T' M := ⟨h.1, h.2.1, h.2.2.1, fun i hi j hj => by rw [e i hi j hj]; exact h.2.2.2 i hi j hj⟩
theorem LP_addLine (hL : L < 13) : ∀ (w j : Nat) (M1 : vM), j + w = 5 → vRefs M1 → Fr (fun b _ => b = 15 + L) M M1 → M 13 2 = (L : Int) → (∀ k, k < j → M1 (15 + L) k = 0) → (∀ M1, vRefs M1 → Fr (fun b j => b = 15 + L ∨ (b = 13 ∧ j = 2)) M M1 → M1 13 2 = ((L + 1 : Nat) : Int) → (∀ k, k ≤ 4 → M1 (15 + L) k = 0) → Q none M1) → vw X d 86 11 [vR 13, vI (j : Int)] [] M1 Q
  | 0, j, M1, hj, hR, f, e, h, q => by
    have e1 : M1 13 2 = (L : Int) := by rw [f 13 2 (by omega)]; exact e
    refine B_So_addLine_11 (fun _ => B_So_addLine_34 hR (fun hR2 => ?_)) (fun z => by exfalso; omega)
    rw [e1, w32_i (by omega)] at hR2 ⊢
    refine q _ hR2 ((f.mono (fun b j y => Or.inl y)).up (Or.inr ⟨rfl, rfl⟩)) ?_ (fun k hk => ?_)
    · rw [vm_up2, if_pos (by omega)]; omega
    · rw [vm_up2, if_neg (by omega)]; exact h k (by omega)
  | w + 1, j, M1, hj, hR, f, e, h, q => by
    have e1 : M1 13 2 = (L : Int) := by rw [f 13 2 (by omega)]; exact e
    refine B_So_addLine_11 (fun z => by exfalso; omega) (fun _ => B_So_addLine_16 hR (by rw [e1]; omega) (by omega) (fun hR2 => ?_))
    rw [e1, Int.toNat_natCast, Int.toNat_natCast] at hR2 ⊢
    rw [w32_i (by omega)]
    refine LP_addLine hL w (j + 1) _ (by omega) hR2 (f.up rfl) e (fun k hk => ?_) q
    rw [vm_up2]
    by_cases y : k = j
    · rw [if_pos (by omega)]
    · rw [if_neg (by omega)]; exact h k (by omega)
theorem S_addLine (hR : vRefs M) (hL : L < 13) (h : AskT n L b3 T M) (q : ∀ M1, vRefs M1 → AskT n (L + 1) b3 (fun i j => if i = L then 0 else T i j) M1 → Fr sSv M M1 → Q none M1) : cq X (d + 1) 86 [vR 13] M Q := by
  refine E_So_addLine (B_So_addLine_0 (fun z => by rw [h.2.1] at z; exfalso; omega) (fun _ => B_So_addLine_9 ?_))
  refine LP_addLine (M := M) (j := 0) hL 5 M (by omega) hR Fr.refl h.2.1 (fun k hk => by omega) (fun M1 y1 y2 y3 y4 => q M1 y1 ⟨?_, y3, ?_, fun i hi j hj => ?_⟩ (y2.mono (fun b j z => by show (b = 13 ∧ 1 ≤ j) ∨ _; omega)))
  · rw [y2 13 1 (by omega)]; exact h.1
  · rw [y2 13 3 (by omega)]; exact h.2.2.1
  · show M1 (15 + i) j = if i = L then 0 else T i j
    by_cases e : i = L
    · rw [if_pos e, e]; exact y4 j hj
    · rw [if_neg e, y2 (15 + i) j (by omega)]; exact h.2.2.2 i (by omega) j hj
theorem LP_begin (hn : n ≤ 4) : ∀ (w i : Nat) (M1 : vM), i + w = n + 1 → vRefs M1 → AskT n i b3 (fun i j => if i = j ∧ 1 ≤ i then 1 else 0) M1 → Fr sSv M M1 → (∀ M1, vRefs M1 → AskT n (n + 1) 1 (fun i j => if i = j ∧ 1 ≤ i then 1 else 0) M1 → Fr sSv M M1 → Q none M1) → ∀ l1, vw X (d + 1) 85 20 [vR 13, vI l1, vI (i : Int)] [] M1 Q
  | 0, i, M1, hi, hR, h, f, q, l1 => by
    refine B_So_begin_20 (fun _ => B_So_begin_51 hR (fun hR2 => q _ hR2 ⟨?_, ?_, ?_, fun i' hi' j hj => ?_⟩ (f.up (Or.inl ⟨rfl, by decide⟩)))) (fun z => by rw [h.1] at z; exfalso; omega)
    · rw [vm_up2, if_neg (by omega)]; exact h.1
    · rw [vm_up2, if_neg (by omega), h.2.1]; omega
    · rw [vm_up2, if_pos (by omega)]
    · rw [vm_up2, if_neg (by omega)]; exact h.2.2.2 i' (by omega) j hj
  | w + 1, i, M1, hi, hR, h, f, q, l1 => by
    refine B_So_begin_20 (fun z => by rw [h.1] at z; exfalso; omega) (fun _ => B_So_begin_28 (S_addLine hR (by omega) h (fun M2 y1 y2 y3 => B_So_begin_32 (fun z => B_So_begin_45 ?_) (fun z => B_So_begin_36 y1 (by omega) (by omega) (fun hR2 => ?_)))))
    · rw [w32_i (by omega)]
      refine LP_begin hn w (i + 1) M2 (by omega) y1 (AskT_c y2 (fun i' h1 j hj => ?_)) (f.trans y3) q l1
      by_cases e : i' = i
      · rw [if_neg (by omega), if_pos e]
      · rw [if_neg e]
    · rw [Int.toNat_natCast] at hR2 ⊢
      rw [w32_i (by omega)]
      refine LP_begin hn w (i + 1) _ (by omega) hR2 ⟨?_, ?_, ?_, fun i' h1 j hj => ?_⟩ ((f.trans y3).up (by omega)) q l1
      · rw [vm_up2, if_neg (by omega)]; exact y2.1
      · rw [vm_up2, if_neg (by omega)]; exact y2.2.1
      · rw [vm_up2, if_neg (by omega)]; exact y2.2.2.1
      · rw [vm_up2]
        by_cases e : i' = i ∧ j = i
        · rw [if_pos (by omega)]; dsimp only; rw [if_pos (by omega)]
        · rw [if_neg (by omega), y2.2.2.2 i' h1 j hj]
          dsimp only
          by_cases e2 : i' = i
          · rw [if_pos e2, if_neg (by omega)]
          · rw [if_neg e2]
theorem S_begin (hn : n ≤ 4) (hR : vRefs M) (q : ∀ M1, vRefs M1 → AskT n (n + 1) 1 (fun i j => if i = j ∧ 1 ≤ i then 1 else 0) M1 → Fr sSv M M1 → Q none M1) : cq X (d + 2) 85 [vR 13, vI (n : Int)] M Q := by
  refine E_So_begin (B_So_begin_0 (S_J_minI (B_So_begin_7 (S_J_maxI (B_So_begin_10 hR (fun hR2 => ?_))))))
  rw [show max 0 (min (n : Int) 4) = (n : Int) by omega] at hR2 ⊢
  refine LP_begin (b3 := M 13 3) (M := M) (i := 0) hn (n + 1) _ (by omega) hR2 ⟨?_, ?_, ?_, fun i hi => by omega⟩ ((Fr.refl.up (Or.inl ⟨rfl, by decide⟩)).up (Or.inl ⟨rfl, by decide⟩)) q _
  · rw [vm_up2, if_neg (by omega), vm_up2, if_pos (by omega)]
  · rw [vm_up2, if_pos (by omega)]; rfl
  · rw [vm_up2, if_neg (by omega), vm_up2, if_neg (by omega)]
theorem S_addRow (hR : vRefs M) (hL : L < 13) (h : AskT n L b3 T M) (hb : bd 100000 need) (q : ∀ M1, vRefs M1 → AskT n (L + 1) b3 (fun i j => if i = L then (if j = 0 then -need else 0) else T i j) M1 → Fr sSv M M1 → Q none M1) : cq X (d + 2) 88 [vR 13, vI need] M Q := by
  refine E_So_addRow (B_So_addRow_0 (S_addLine hR hL h (fun M1 y1 y2 y3 => ?_)))
  have e : w32 (M1 13 2 - 1) = (L : Int) := by rw [y2.2.1, w32_i (by omega)]; omega
  refine B_So_addRow_4 y1 (by rw [e]; omega) (fun hR2 => ?_)
  rw [e, Int.toNat_natCast, w32_i (x := -need) (by unfold bd at hb; omega)] at hR2 ⊢
  refine q _ hR2 ⟨?_, ?_, ?_, fun i hi j hj => ?_⟩ (y3.up (by omega))
  · rw [vm_up2, if_neg (by omega)]; exact y2.1
  · rw [vm_up2, if_neg (by omega)]; exact y2.2.1
  · rw [vm_up2, if_neg (by omega)]; exact y2.2.2.1
  · rw [vm_up2]
    have e0 : M1 (15 + i) j = if i = L then 0 else T i j := y2.2.2.2 i hi j hj
    rw [e0]
    dsimp only
    by_cases e1 : i = L
    · by_cases e2 : j = 0
      · rw [if_pos (by omega), if_pos e1, if_pos e2]
      · rw [if_neg (by omega), if_pos e1, if_pos e1, if_neg e2]
    · rw [if_neg (by omega), if_neg e1, if_neg e1]
theorem S_add (hR : vRefs M) (hL : 1 ≤ L ∧ L ≤ 13) (hn : n ≤ 4) (hu : u < n) (h : AskT n L b3 T M) (hb : bd 100000 (T (L - 1) (u + 1))) (hb2 : bd 100000 by') (q : ∀ M1, vRefs M1 → AskT n L b3 (fun i j => if i = L - 1 ∧ j = u + 1 then T i j + by' else T i j) M1 → Fr sSv M M1 → Q none M1) : cq X (d + 2) 89 [vR 13, vI (u : Int), vI by'] M Q := by
  have e1 : w32 (M 13 1 - 1) = (n : Int) - 1 := by rw [h.1, w32_i (by omega)]
  have e2 : w32 (M 13 2 - 1) = ((L - 1 : Nat) : Int) := by rw [h.2.1, w32_i (by omega)]; omega
  have e3 : w32 ((u : Int) + 1) = ((u + 1 : Nat) : Int) := by rw [w32_i (by omega)]; omega
  refine E_So_add (B_So_add_0 (fun z => by rw [h.2.1] at z; exfalso; omega) (fun _ => B_So_add_7 (S_within (B_So_add_18 (fun z => by rw [e1, if_pos (by omega)] at z; omega) (fun _ => B_So_add_21 hR (by rw [e2]; omega) (by rw [e3]; omega) (by rw [e3]; omega) (fun hR2 => ?_))))))
  rw [e2, e3, Int.toNat_natCast, Int.toNat_natCast, h.2.2.2 (L - 1) (by omega) (u + 1) (by omega), w64_i (by unfold bd at hb hb2; omega)] at hR2 ⊢
  refine q _ hR2 ⟨?_, ?_, ?_, fun i hi j hj => ?_⟩ (Fr.refl.up (by omega))
  · rw [vm_up2, if_neg (by omega)]; exact h.1
  · rw [vm_up2, if_neg (by omega)]; exact h.2.1
  · rw [vm_up2, if_neg (by omega)]; exact h.2.2.1
  · rw [vm_up2]
    dsimp only
    by_cases e : i = L - 1 ∧ j = u + 1
    · rw [if_pos (by omega), if_pos e, e.1, e.2]
    · rw [if_neg (by omega), if_neg e]; exact h.2.2.2 i hi j hj
theorem S_addGoal (hR : vRefs M) (hL : 1 ≤ L) (hn : n ≤ 4) (hu : u < n) (h : AskT n L b3 T M) (hb : bd 100000 (T 0 (u + 1))) (hb2 : bd 100000 by') (q : ∀ M1, vRefs M1 → AskT n L b3 (fun i j => if i = 0 ∧ j = u + 1 then T i j + by' else T i j) M1 → Fr sSv M M1 → Q none M1) : cq X (d + 2) 87 [vR 13, vI (u : Int), vI by'] M Q := by
  have e1 : w32 (M 13 1 - 1) = (n : Int) - 1 := by rw [h.1, w32_i (by omega)]
  have e3 : w32 ((u : Int) + 1) = ((u + 1 : Nat) : Int) := by rw [w32_i (by omega)]; omega
  refine E_So_addGoal (B_So_addGoal_0 (S_within (B_So_addGoal_11 (fun z => by rw [e1, if_pos (by omega)] at z; omega) (fun _ => B_So_addGoal_14 hR (by rw [e3]; omega) (by rw [e3]; omega) (fun hR2 => ?_)))))
  rw [e3, Int.toNat_natCast, h.2.2.2 0 (by omega) (u + 1) (by omega), w64_i (by unfold bd at hb hb2; omega)] at hR2 ⊢
  refine q _ hR2 ⟨?_, ?_, ?_, fun i hi j hj => ?_⟩ (Fr.refl.up (by omega))
  · rw [vm_up2, if_neg (by omega)]; exact h.1
  · rw [vm_up2, if_neg (by omega)]; exact h.2.1
  · rw [vm_up2, if_neg (by omega)]; exact h.2.2.1
  · rw [vm_up2]
    dsimp only
    by_cases e : i = 0 ∧ j = u + 1
    · rw [if_pos (by omega), if_pos e, e.1, e.2]
    · rw [if_neg (by omega), if_neg e]; exact h.2.2.2 i hi j hj
end SK
