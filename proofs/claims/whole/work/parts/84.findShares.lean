/-! THE REFERENCE'S SHARES: all sets of acts, all of sights -/
theorem blN : ∀ N, N < 5 → ∀ s, s < 2 ^ N → bl s 4 = bl s N := by decide +kernel
theorem bl_ne : ∀ s, s < 16 → ∀ c', c' < (bl s 4).length → ∀ c, c < c' → (bl s 4).getD c 0 ≠ (bl s 4).getD c' 0 := by decide +kernel
theorem bl_set : ∀ s, s < 16 → ∀ c, c < (bl s 4).length → s / 2 ^ ((bl s 4).getD c 0) % 2 = 1 := by decide +kernel
theorem bl_bits : ∀ s : Fin 16, w32 (w32 (w32 (j_iand (s.val : Int) 1 + j_iand (j_ishr (s.val : Int) 1) 1) + j_iand (j_ishr (s.val : Int) 2) 1) + j_iand (j_ishr (s.val : Int) 3) 1) = ((bl s.val 4).length : Int) := by decide +kernel
theorem p2_16 {N : Nat} (h : N ≤ 4) : 2 ^ N ≤ 16 := Nat.pow_le_pow_right (by decide) h
section FS
variable {X : vX} {d : Nat} {M M0 : vM} {Q : Option vV → vM → Prop} {ss acts a w set at' : Nat} {ch : Nat → Nat → Int} {co : Nat → Int} {I : Nat → Nat → vM → Prop}
abbrev sFo (b j : Nat) : Prop := (92 ≤ b ∧ b ≤ 95) ∨ (b = 81 ∧ (j = 18 ∨ j = 19))
abbrev s945 (b _ : Nat) : Prop := b = 94 ∨ b = 95
abbrev s9245 (b _ : Nat) : Prop := b = 92 ∨ b = 94 ∨ b = 95
abbrev gl (s c : Nat) : Nat := (bl s 4).getD c 0
theorem S_bits {s : Nat} (hs : s < 16) (k : Q (some (vI ((bl s 4).length : Int))) M) : cq X (d + 1) 214 [vI (s : Int)] M Q := by
  have e := bl_bits ⟨s, hs⟩
  simp only at e
  refine E_R_bits (B_R_bits_0 ?_)
  rw [e]
  exact k
/-- what is read of acts and sights -/
def FsB (ss acts a w : Nat) (ch : Nat → Nat → Int) (co : Nat → Int) (M : vM) : Prop := (2 ≤ ss ∧ ss ≤ 4) ∧ acts ≤ 4 ∧ a < acts ∧ w < 2 ∧ M 81 0 = (ss : Int) ∧ M 81 1 = (acts : Int) ∧ (∀ b k, b < acts → k < ss → M 83 (12 * b + 4 * w + k) = ch b k ∧ 0 ≤ ch b k ∧ ch b k ≤ 12) ∧ ∀ b, b < acts → M 82 b = co b ∧ 0 ≤ co b ∧ co b ≤ 99
theorem FsB_fr (h : FsB ss acts a w ch co M0) (f : Fr sFo M0 M) : FsB ss acts a w ch co M := by
  obtain ⟨h1, h2, h3, h4, h5, h6, h7, h8⟩ := h
  exact ⟨h1, h2, h3, h4, by rw [f 81 0 (by omega)]; exact h5, by rw [f 81 1 (by omega)]; exact h6, fun b k hb hk => by rw [f 83 _ (by omega)]; exact h7 b k hb hk, fun b hb => by rw [f 82 b (by omega)]; exact h8 b hb⟩
abbrev Cnd (a set at' : Nat) : Prop := set / 2 ^ a % 2 = 0 ∧ (bl at' 4).length = (bl set 4).length ∧ (bl set 4).length ≤ 3
def Out (ss acts a : Nat) (ch : Nat → Nat → Int) (co : Nat → Int) (set at' : Nat) (M M1 : vM) : Prop := (Fr s9245 M M1 ∧ (Cnd a set at' → OutA ss acts a (bl set 4).length (gl set) (gl at') ch co M)) ∨ (Cnd a set at' ∧ OutB ss acts a (bl set 4).length (gl set) (gl at') ch co M M1)
abbrev vF (a w set : Nat) (q : Int) (at' : Nat) (w6 w7 w8 : vV) : List vV := [vR 81, vI (a : Int), vI (w : Int), vI (set : Int), vI q, vI (at' : Int), w6, w7, w8]
theorem getD_n {l : List Nat} {i k : Nat} (h : k < l.length) : (l ++ [i]).getD k 0 = l.getD k 0 := getD_l h
theorem LP_who {q : Int} (hs : set < 16) (ha : at' < 16) (hls : (bl set 4).length ≤ 3) (hla : (bl at' 4).length ≤ 3) (q1 : ∀ M1, vRefs M1 → Fr s945 M0 M1 → (∀ c, c < (bl set 4).length → M1 94 c = (gl set c : Int)) → (∀ r, r < (bl at' 4).length → M1 95 r = (gl at' r : Int)) → ∀ l6 l7 l8, vw X d 215 127 (vF a w set q at' (vI l6) (vI l7) (vI l8)) [] M1 Q) : ∀ (m i : Nat) (M : vM), i + m = 4 → vRefs M → Fr s945 M0 M → (∀ c, c < (bl set i).length → M 94 c = ((bl set i).getD c 0 : Int)) → (∀ r, r < (bl at' i).length → M 95 r = ((bl at' i).getD r 0 : Int)) → vw X d 215 70 (vF a w set q at' (vI ((bl set i).length : Int)) (vI ((bl at' i).length : Int)) (vI (i : Int))) [] M Q
  | 0, i, M, hi, hR, f, h1, h2 => by
    have e : i = 4 := by omega
    subst e
    exact B_R_findShares_70 (fun _ => q1 M hR f h1 h2 _ _ _) (fun z => by exfalso; omega)
  | m + 1, i, M, hi, hR, f, h1, h2 => by
    have b1 : Unit → _ := fun _ => bitj (x := set) (i := i) (by omega) (by omega)
    have b2 : Unit → _ := fun _ => bitj (x := at') (i := i) (by omega) (by omega)
    have nx : Unit → w32 ((i : Int) + 1) = ((i + 1 : Nat) : Int) := fun _ => by rw [w32_i (by omega)]; omega
    have l1 := bl_len (set := set) (i := i + 1) (j := 4) (by omega)
    have l2 := bl_len (set := at') (i := i + 1) (j := 4) (by omega)
    have n1 : Unit → w32 (((bl set i).length : Int) + 1) = (((bl set i).length + 1 : Nat) : Int) := fun _ => by rw [w32_i (by have := bl_len (set := set) (i := i) (j := 4) (by omega); omega)]; omega
    have n2 : Unit → w32 (((bl at' i).length : Int) + 1) = (((bl at' i).length + 1 : Nat) : Int) := fun _ => by rw [w32_i (by have := bl_len (set := at') (i := i) (j := 4) (by omega); omega)]; omega
    have c1 : (set / 2 ^ i % 2 = 1 ∧ bl set (i + 1) = bl set i ++ [i] ∧ (bl set (i + 1)).length = (bl set i).length + 1) ∨ (set / 2 ^ i % 2 ≠ 1 ∧ bl set (i + 1) = bl set i) := by
      by_cases z : set / 2 ^ i % 2 = 1
      · have e : bl set (i + 1) = bl set i ++ [i] := by rw [bl, if_pos z]
        exact Or.inl ⟨z, e, by rw [e, List.length_append]; rfl⟩
      · exact Or.inr ⟨z, by rw [bl, if_neg z, List.append_nil]⟩
    have c2 : (at' / 2 ^ i % 2 = 1 ∧ bl at' (i + 1) = bl at' i ++ [i] ∧ (bl at' (i + 1)).length = (bl at' i).length + 1) ∨ (at' / 2 ^ i % 2 ≠ 1 ∧ bl at' (i + 1) = bl at' i) := by
      by_cases z : at' / 2 ^ i % 2 = 1
      · have e : bl at' (i + 1) = bl at' i ++ [i] := by rw [bl, if_pos z]
        exact Or.inl ⟨z, e, by rw [e, List.length_append]; rfl⟩
      · exact Or.inr ⟨z, by rw [bl, if_neg z, List.append_nil]⟩
    -- the sight
    have sight : ∀ (M1 : vM), vRefs M1 → Fr s945 M0 M1 → (∀ c, c < (bl set (i + 1)).length → M1 94 c = ((bl set (i + 1)).getD c 0 : Int)) → (∀ r, r < (bl at' i).length → M1 95 r = ((bl at' i).getD r 0 : Int)) → (at' / 2 ^ i % 2 ≠ 1 → vw X d 215 121 (vF a w set q at' (vI ((bl set (i + 1)).length : Int)) (vI ((bl at' i).length : Int)) (vI (i : Int))) [] M1 Q) ∧ (at' / 2 ^ i % 2 = 1 → vw X d 215 109 (vF a w set q at' (vI ((bl set (i + 1)).length : Int)) (vI ((bl at' i).length : Int)) (vI (i : Int))) [] M1 Q) := fun M1 y1 y2 y3 y4 => by
      refine ⟨fun z => ?_, fun z => ?_⟩
      · have e := c2.resolve_left (fun y => z y.1)
        refine B_R_findShares_121 ?_
        rw [nx ()]
        have := LP_who hs ha hls hla q1 m (i + 1) M1 (by omega) y1 y2 y3 (fun r hr => by rw [e.2]; rw [e.2] at hr; exact y4 r hr)
        rw [e.2] at this
        exact this
      · have e := c2.resolve_right (fun y => y.1 z)
        refine B_R_findShares_109 y1 (by omega) (fun hR2 => ?_)
        rw [Int.toNat_natCast] at hR2 ⊢
        rw [nx (), n2 (), ← e.2.2]
        refine LP_who hs ha hls hla q1 m (i + 1) _ (by omega) hR2 (y2.up (Or.inr rfl)) (fun c hc => by rw [vm_up2, if_neg (by omega)]; exact y3 c hc) (fun r hr => ?_)
        rw [vm_up2, e.2.1]
        by_cases y : r = (bl at' i).length
        · rw [if_pos ⟨rfl, y⟩, y, getD_r]
        · rw [if_neg (by omega), getD_l (by omega)]; exact y4 r (by omega)
    refine B_R_findShares_70 (fun z => by exfalso; omega) (fun _ => B_R_findShares_76 (fun z => ?_) (fun z => ?_)) <;> rw [b1 ()] at z
    · have e := c1.resolve_left (fun y => by omega)
      have s := sight M hR f (fun c hc => by rw [e.2]; rw [e.2] at hc; exact h1 c hc) h2
      rw [e.2] at s
      refine B_R_findShares_98 (fun z2 => ?_) (fun z2 => ?_) <;> rw [b2 ()] at z2
      · exact s.1 (by omega)
      · exact s.2 (by omega)
    · have e := c1.resolve_right (fun y => by omega)
      refine B_R_findShares_86 hR (by omega) ?_ ?_ <;> rw [b2 (), n1 (), Int.toNat_natCast, ← e.2.2] <;> intro z2 hR2
      all_goals
        have s := sight (vm_up M 94 (bl set i).length (i : Int)) hR2 (f.up (Or.inl rfl)) (fun c hc => by
          rw [vm_up2, e.2.1]
          by_cases y : c = (bl set i).length
          · rw [if_pos ⟨rfl, y⟩, y, getD_r]
          · rw [if_neg (by omega), getD_l (by omega)]; exact h1 c (by omega)) (fun r hr => by rw [vm_up2, if_neg (by omega)]; exact h2 r hr)
        first
          | exact s.1 (by omega)
          | exact s.2 (by omega)
/-- one set of acts, one of sights -/
theorem LP_one2 (hR : vRefs M) (hB : FsB ss acts a w ch co M) (hF : FsH acts M) (hs1 : 1 ≤ set) (hs : set < 2 ^ acts) (ha : at' < 2 ^ ss) {w6 w7 w8 : vV} (q : ∀ M1, vRefs M1 → Fr sFo M M1 → Out ss acts a ch co set at' M M1 → ∀ w6 w7 w8, vw X (d + 5) 215 135 (vF a w set ((bl set 4).length : Int) at' w6 w7 w8) [] M1 Q) : vw X (d + 5) 215 37 (vF a w set ((bl set 4).length : Int) at' w6 w7 w8) [] M Q := by
  obtain ⟨hss, hac, haa, hw, g0, g1, g83, g82⟩ := hB
  have p1 := p2_16 hac
  have p2 := p2_16 hss.2
  have eb : Unit → _ := fun _ => bitj (x := set) (i := a) (by omega) (by omega)
  have skip : ¬ Cnd a set at' → ∀ w6 w7 w8, vw X (d + 5) 215 135 (vF a w set ((bl set 4).length : Int) at' w6 w7 w8) [] M Q := fun z => q M hR Fr.refl (Or.inl ⟨Fr.refl, fun y => absurd y z⟩)
  refine B_R_findShares_37 (fun z => ?_) (fun z => ?_) <;> rw [eb ()] at z
  · exact skip (fun y => by have := y.1; omega) _ _ _
  · refine B_R_findShares_45 (S_bits (by omega) (B_R_findShares_50 (fun z2 => skip (fun y => by have := y.2.1; omega) _ _ _) (fun z2 => B_R_findShares_55 (fun z3 => skip (fun y => by have := y.2.2; omega) _ _ _) (fun z3 => B_R_findShares_61 ?_))))
    have hc : Cnd a set at' := ⟨by omega, by omega, by omega⟩
    refine LP_who (M0 := M) (i := 0) (by omega) (by omega) (by omega) (by omega) (fun M1 y1 y2 y3 y4 l6 l7 l8 => B_R_findShares_127 ?_) 4 M (by omega) hR Fr.refl (fun c h => by simp [bl] at h) (fun c h => by simp [bl] at h)
    have hl1 : 1 ≤ (bl set 4).length := by
      have : ∀ s, s < 16 → 1 ≤ s → 1 ≤ (bl s 4).length := by decide +kernel
      exact this set (by omega) hs1
    have eN := blN acts (by omega) set hs
    have eM := blN ss (by omega) at' ha
    have hT : TrH ss acts a w (bl set 4).length (gl set) (gl at') ch co M1 := ⟨⟨hl1, by omega⟩, hss, hac, haa, hw, by rw [y2 81 0 (by omega)]; exact g0, by rw [y2 81 1 (by omega)]; exact g1, fun c h => ⟨y3 c h, by unfold gl; rw [eN]; rw [eN] at h; exact bl_lt acts c h⟩, fun c c' h1 h2 => bl_ne set (by omega) c' h2 c h1, fun r h => ⟨y4 r (by omega), by unfold gl; rw [eM]; exact bl_lt ss r (by rw [← eM]; omega)⟩, fun b k hb hk => by rw [y2 83 _ (by omega)]; exact g83 b k hb hk, fun b hb => by rw [y2 82 b (by omega)]; exact g82 b hb⟩
    have e19 : M1 81 19 = M 81 19 := y2 81 19 (by omega)
    have e18 : M1 81 18 = M 81 18 := y2 81 18 (by omega)
    have e93 : M1 93 = M 93 := funext (fun j => y2 93 j (by omega))
    have hF1 : FsH acts M1 := by unfold FsH; rw [e19, e18, e93]; exact hF
    refine S_trySet (d := d + 1) y1 hT hF1 (fun M2 z1 z2 z3 => q M2 z1 ((y2.mono (fun b j y => by show sFo b j; omega)).trans (z2.mono (fun b j y => by show sFo b j; omega))) (Or.inl ⟨(y2.mono (fun b j y => by show s9245 b j; omega)).trans (z2.mono (fun b j y => by show s9245 b j; omega)), fun _ => ?_⟩) _ _ _) (fun M2 z1 z2 z3 => q M2 z1 ((y2.mono (fun b j y => by show sFo b j; omega)).trans (z2.mono (fun b j y => by show sFo b j; omega))) (Or.inr ⟨hc, ?_⟩) _ _ _)
    · unfold OutA at z3 ⊢
      rw [e19, e18, e93] at z3
      exact z3
    · unfold OutB at z3 ⊢
      rw [e19, e18, e93] at z3
      exact z3
theorem LP_at (hB : FsB ss acts a w ch co M0) (hs1 : 1 ≤ set) (hs : set < 2 ^ acts) (hI : ∀ set at' M, I set at' M → FsH acts M) (hst : ∀ at' M M1, 1 ≤ at' → at' < 2 ^ ss → I set at' M → Out ss acts a ch co set at' M M1 → I set (at' + 1) M1) (q : ∀ M1, vRefs M1 → Fr sFo M0 M1 → I set (2 ^ ss) M1 → ∀ l5 w6 w7 w8, vw X (d + 5) 215 141 [vR 81, vI (a : Int), vI (w : Int), vI (set : Int), vI ((bl set 4).length : Int), vI l5, w6, w7, w8] [] M1 Q) : ∀ (m at' : Nat) (M : vM) (w6 w7 w8 : vV), at' + m = 2 ^ ss → 1 ≤ at' → vRefs M → Fr sFo M0 M → I set at' M → vw X (d + 5) 215 26 (vF a w set ((bl set 4).length : Int) at' w6 w7 w8) [] M Q
  | 0, at', M, w6, w7, w8, hm, h1, hR, f, i => by
    have p2 := p2_16 hB.1.2
    have e0 : M 81 0 = (ss : Int) := by rw [f 81 0 (by omega)]; exact hB.2.2.2.2.1
    have es := j_ishl_n ⟨ss, by have := hB.1.2; omega⟩
    simp only at es
    have e : at' = 2 ^ ss := by omega
    refine B_R_findShares_26 (fun _ => q M hR f (by rw [← e]; exact i) _ _ _ _) (fun z => by rw [e0, es] at z; exfalso; omega)
  | m + 1, at', M, w6, w7, w8, hm, h1, hR, f, i => by
    have p2 := p2_16 hB.1.2
    have e0 : M 81 0 = (ss : Int) := by rw [f 81 0 (by omega)]; exact hB.2.2.2.2.1
    have es := j_ishl_n ⟨ss, by have := hB.1.2; omega⟩
    simp only at es
    refine B_R_findShares_26 (fun z => by rw [e0, es] at z; exfalso; omega) (fun _ => ?_)
    clear es
    refine LP_one2 hR (FsB_fr hB f) (hI _ _ _ i) hs1 hs (by omega) (fun M1 y1 y2 y3 w6 w7 w8 => B_R_findShares_135 ?_)
    rw [w32_i (by omega)]
    exact LP_at hB hs1 hs hI hst q m (at' + 1) M1 _ _ _ (by omega) (by omega) y1 (f.trans y2) (hst at' M M1 h1 (by omega) i y3)
theorem LP_sets2 (hB : FsB ss acts a w ch co M0) (hI : ∀ set at' M, I set at' M → FsH acts M) (hst : ∀ set at' M M1, 1 ≤ set → set < 2 ^ acts → 1 ≤ at' → at' < 2 ^ ss → I set at' M → Out ss acts a ch co set at' M M1 → I set (at' + 1) M1) (hnx : ∀ set M, I set (2 ^ ss) M → I (set + 1) 1 M) (q : ∀ M1, vRefs M1 → Fr sFo M0 M1 → I (2 ^ acts) 1 M1 → Q none M1) : ∀ (m set : Nat) (M : vM) (w4 w5 w6 w7 w8 : vV), set + m = 2 ^ acts → 1 ≤ set → vRefs M → Fr sFo M0 M → I set 1 M → vw X (d + 5) 215 7 [vR 81, vI (a : Int), vI (w : Int), vI (set : Int), w4, w5, w6, w7, w8] [] M Q
  | 0, set, M, w4, w5, w6, w7, w8, hm, h1, hR, f, i => by
    have p2 := p2_16 hB.2.1
    have e1 : M 81 1 = (acts : Int) := by rw [f 81 1 (by omega)]; exact hB.2.2.2.2.2.1
    have es := j_ishl_n ⟨acts, by have := hB.2.1; omega⟩
    simp only at es
    have e : set = 2 ^ acts := by omega
    exact B_R_findShares_7 (fun _ => B_R_findShares_147 (q M hR f (by rw [← e]; exact i))) (fun z => by rw [e1, es] at z; exfalso; omega)
  | m + 1, set, M, w4, w5, w6, w7, w8, hm, h1, hR, f, i => by
    have p2 := p2_16 hB.2.1
    have p3 := p2_16 hB.1.2
    have e1 : M 81 1 = (acts : Int) := by rw [f 81 1 (by omega)]; exact hB.2.2.2.2.2.1
    have es := j_ishl_n ⟨acts, by have := hB.2.1; omega⟩
    simp only at es
    refine B_R_findShares_7 (fun z => by rw [e1, es] at z; exfalso; omega) (fun _ => B_R_findShares_17 (S_bits (by omega) (B_R_findShares_21 ?_)))
    clear es
    have p4 : 1 ≤ 2 ^ ss := Nat.one_le_two_pow
    refine LP_at (at' := 1) hB h1 (by omega) hI (fun at' M M1 => hst set at' M M1 h1 (by omega)) (fun M1 y1 y2 y3 l5 w6 w7 w8 => B_R_findShares_141 ?_) (2 ^ ss - 1) M _ _ _ (by omega) (Nat.le_refl 1) hR f i
    rw [w32_i (by omega)]
    exact LP_sets2 hB hI hst hnx q m (set + 1) M1 _ _ _ _ _ (by omega) (by omega) y1 y2 (hnx set M1 y3)
end FS
