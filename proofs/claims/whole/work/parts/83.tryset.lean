/-! THE REFERENCE'S SHARES: kept if less; all sets -/
section TK
variable {X : vX} {d : Nat} {M M0 : vM} {Q : Option vV → vM → Prop} {ss acts a w q : Nat} {wh wr : Nat → Nat} {ch : Nat → Nat → Int} {co : Nat → Int}
abbrev sTn (b j : Nat) : Prop := b = 92 ∨ b = 93 ∨ (b = 81 ∧ (j = 18 ∨ j = 19))
def FsH (acts : Nat) (M : vM) : Prop := M 81 19 = 0 ∨ (M 81 19 = 1 ∧ 0 < M 93 4 ∧ bd 500000 (M 93 4) ∧ (∀ b, b < acts → bd 1500000 (M 93 b)) ∧ bd 1000000000 (M 81 18))
theorem LP_tless {D sg : Int} (hR : vRefs M) (hac : acts ≤ 4) (h1 : M 81 1 = (acts : Int)) {su t b4 bs : Int} {y z : Nat → Int} (hy : ∀ b, b < acts → M 92 b = y b ∧ bd 1500000 (y b)) (hz : ∀ b, b < acts → M 93 b = z b ∧ bd 1500000 (z b)) (ht : M 92 4 = t ∧ bd 500000 t) (hb : M 93 4 = b4 ∧ bd 500000 b4) {w13 : vV} : ∀ (m b : Nat), b + m = acts → (lxp (fun i => co0 bs z i * t - co0 su y i * b4) (m + 1) b → ∀ l10 l12, vw X d 213 351 (vT2 a w q D sg su (vL l10) vN (vI l12) w13) [] M Q) → (lxn (fun i => co0 su y i * b4 - co0 bs z i * t) (m + 1) b → Q none M) → vw X d 213 291 (vT2 a w q D sg su (vL (co0 su y b * b4 - co0 bs z b * t)) vN (vI (b : Int)) w13) [] M Q
  | 0, b, hs, q1, q2 => by
    refine B_R_trySet_291 (fun _ => B_R_trySet_344 (fun x => B_R_trySet_391 (q2 ?_)) (fun x => q1 (Or.inl ?_) _ _)) (fun x => by exfalso; omega)
    · by_cases e : co0 su y b * b4 - co0 bs z b * t = 0
      · exact Or.inr ⟨e, trivial⟩
      · exact Or.inl (by show 0 < co0 su y b * b4 - co0 bs z b * t; omega)
    · show 0 < co0 bs z b * t - co0 su y b * b4
      omega
  | m + 1, b, hs, q1, q2 => by
    refine B_R_trySet_291 (fun x => by exfalso; omega) (fun _ => B_R_trySet_300 (fun x => B_R_trySet_344 (fun x2 => B_R_trySet_391 (q2 (Or.inl ?_))) (fun x2 => q1 (Or.inl ?_) _ _)) (fun x => B_R_trySet_307 hR (by omega) (by omega) ?_))
    · show 0 < co0 su y b * b4 - co0 bs z b * t
      omega
    · show 0 < co0 bs z b * t - co0 su y b * b4
      omega
    · have y0 := hy b (by omega)
      have z0 := hz b (by omega)
      have b1 := bd_m y0.2 hb.2
      have b2 := bd_m z0.2 ht.2
      have b3 := bd_s b1 b2
      rw [Int.toNat_natCast, y0.1, z0.1, ht.1, hb.1, bd64 b1 (by decide), bd64 b2 (by decide), bd64 b3 (by decide), w32_i (by omega)]
      exact LP_tless hR hac h1 hy hz ht hb m (b + 1) (by omega) (fun u => q1 (Or.inr ⟨by show co0 bs z b * t - co0 su y b * b4 = 0; omega, u⟩)) (fun u => q2 (Or.inr ⟨x, u⟩))
theorem LP_tkeep {D sg su l10 : Int} {w13 : vV} (q1 : ∀ M1, vRefs M1 → Fr (fun b _ => b = 93) M0 M1 → (∀ s, s < 5 → M1 93 s = M0 92 s) → Q none M1) : ∀ (m s : Nat) (M : vM), s + m = 5 → vRefs M → Fr (fun b _ => b = 93) M0 M → (∀ k, k < s → M 93 k = M0 92 k) → vw X d 213 365 (vT2 a w q D sg su (vL l10) vN (vI (s : Int)) w13) [] M Q
  | 0, s, M, hs, hR, f, hk => B_R_trySet_365 (fun _ => B_R_trySet_391 (q1 M hR f (fun k h => hk k (by omega)))) (fun z => by exfalso; omega)
  | m + 1, s, M, hs, hR, f, hk => by
    refine B_R_trySet_365 (fun z => by exfalso; omega) (fun _ => B_R_trySet_371 hR (by omega) (by omega) (fun hR2 => ?_))
    rw [Int.toNat_natCast] at hR2 ⊢
    rw [w32_i (by omega)]
    refine LP_tkeep q1 m (s + 1) _ (by omega) hR2 (f.up rfl) (fun k h => ?_)
    rw [vm_up2]
    by_cases e : k = s
    · rw [if_pos ⟨rfl, e⟩, e, f 92 s (by omega)]
    · rw [if_neg (by omega)]; exact hk k (by omega)
/-- the set gives shares -/
def okS (ss acts a q : Nat) (wh wr : Nat → Nat) (ch : Nat → Nat → Int) : Prop := (∀ c, c < q → 0 ≤ cr q a wh wr ch c) ∧ ∀ s, s < ss → dot (yb q a wh wr ch) (fun b => ch b s) acts = ct q wh wr ch * ch a s
abbrev ysu (acts q a : Nat) (wh wr : Nat → Nat) (ch : Nat → Nat → Int) (co : Nat → Int) : Int := dot (yb q a wh wr ch) co acts
def OutA (ss acts a q : Nat) (wh wr : Nat → Nat) (ch : Nat → Nat → Int) (co : Nat → Int) (M : vM) : Prop := detp q (eF wh wr ch) = 0 ∨ (¬ okS ss acts a q wh wr ch) ∨ (M 81 19 = 1 ∧ lxn (fun i => co0 (ysu acts q a wh wr ch co) (yb q a wh wr ch) i * M 93 4 - co0 (M 81 18) (M 93) i * ct q wh wr ch) (acts + 1) 0)
def OutB (ss acts a q : Nat) (wh wr : Nat → Nat) (ch : Nat → Nat → Int) (co : Nat → Int) (M M1 : vM) : Prop := detp q (eF wh wr ch) ≠ 0 ∧ okS ss acts a q wh wr ch ∧ (M 81 19 = 0 ∨ lxp (fun i => co0 (M 81 18) (M 93) i * ct q wh wr ch - co0 (ysu acts q a wh wr ch co) (yb q a wh wr ch) i * M 93 4) (acts + 1) 0) ∧ M1 81 19 = 1 ∧ M1 81 18 = ysu acts q a wh wr ch co ∧ (∀ b, b < acts → M1 93 b = yb q a wh wr ch b) ∧ M1 93 4 = ct q wh wr ch ∧ bd 500000 (M1 93 4) ∧ (∀ b, b < acts → bd 1500000 (M1 93 b)) ∧ bd 1000000000 (M1 81 18)
theorem S_trySet (hR : vRefs M) (h : TrH ss acts a w q wh wr ch co M) (hF : FsH acts M) (q1 : ∀ M1, vRefs M1 → Fr (fun b _ => b = 92) M M1 → OutA ss acts a q wh wr ch co M → Q none M1) (q2 : ∀ M1, vRefs M1 → Fr sTn M M1 → OutB ss acts a q wh wr ch co M M1 → Q none M1) : cq X (d + 4) 213 [vR 81, vI (a : Int), vI (w : Int), vI (q : Int)] M Q := by
  have h' := h
  obtain ⟨hq, hss, hac, ha, hw, g0, g1, g94, gne, g95, g83, g82⟩ := h'
  have bt := ct_b h
  refine E_R_trySet (B_R_trySet_0 (S_made hR hq (by omega) hw (TrH_md0 h) (B_R_trySet_8 (fun zD => B_R_trySet_18 (fun z => B_R_trySet_31 ?_) (fun z => B_R_trySet_25 ?_)) (fun z => B_R_trySet_17 (q1 M hR Fr.refl (Or.inl z))))))
  all_goals
    have go : vw X (d + 3) 213 37 (vT1 a w q (detp q (eF wh wr ch)) (sgn (detp q (eF wh wr ch))) ((0 : Nat) : Int)) [] M Q := by
      refine LP_try_zero (M0 := M) (fun M1 y1 y2 y3 l8 => B_R_trySet_57 y1 (fun hR2 => ?_)) 4 0 M (by omega) hR Fr.refl (fun j hj => by exfalso; omega)
      rw [show detp q (eF wh wr ch) * sgn (detp q (eF wh wr ch)) = ct q wh wr ch from rfl, bd64 bt (by decide)] at hR2 ⊢
      have f2 : Fr (fun b _ => b = 92) M (vm_up M1 92 4 (ct q wh wr ch)) := y2.up rfl
      refine LP_try_cols (c := 0) h rfl (fun M2 z1 z2 z3 z4 z5 l8 => B_R_trySet_125 ?_) (fun M2 z1 z2 z3 => q1 M2 z1 z2 (Or.inr (Or.inl (fun y => z3 y.1)))) q _ (by omega) hR2 f2 (fun c hc => by exfalso; omega) (fun b hb => by rw [vm_up2, if_neg (by omega), y3 b hb]; rfl) (by rw [vm_up2, if_pos ⟨rfl, rfl⟩])
      have h2 := TrH_fr h z2
      obtain ⟨hq, hss, hac, ha, hw, k0, k1, k94, kne, k95, k83, k82⟩ := h2
      have hy : ∀ b, b < acts → M2 92 b = yb q a wh wr ch b ∧ bd 1500000 (yb q a wh wr ch b) := fun b hb => ⟨z4 b (by omega), yb_b h b⟩
      have bs : bd 1000000000 (ysu acts q a wh wr ch co) := bd_l (dot_b (a := 1500000) (b := 99) acts (fun i hi => yb_b h i) (fun i hi => by have := (g82 i hi).2; unfold bd; omega)) (by omega)
      refine LP_try_sum (b := 0) z1 hac k1 hy k82 (fun l10 => B_R_trySet_167 (LP_try_means (s := 0) (ss := ss) z1 hac ha hss.2 hw k0 k1 hy ⟨z5, bt⟩ k83 (fun ok l10 w11 w13 => ?_) (fun nok => q1 M2 z1 z2 (Or.inr (Or.inl (fun y => nok y.2)))) ss _ _ (by omega) (fun s' h' => by exfalso; omega))) acts (by omega)
      have ok2 : okS ss acts a q wh wr ch := ⟨z3, ok⟩
      have e19 : M2 81 19 = M 81 19 := z2 81 19 (by omega)
      have new : (M 81 19 = 0 ∨ lxp (fun i => co0 (M 81 18) (M 93) i * ct q wh wr ch - co0 (ysu acts q a wh wr ch co) (yb q a wh wr ch) i * M 93 4) (acts + 1) 0) → ∀ l10 l12 : Int, vw X (d + 3) 213 351 (vT2 a w q (detp q (eF wh wr ch)) (sgn (detp q (eF wh wr ch))) (ysu acts q a wh wr ch co) (vL l10) vN (vI l12) w13) [] M2 Q := fun hl l10 l12 => B_R_trySet_351 z1 (fun hR3 => by
        refine LP_tkeep (M0 := vm_up (vm_up M2 81 19 1) 81 18 (ysu acts q a wh wr ch co)) (s := 0) (fun M3 x1 x2 x3 => q2 M3 x1 ?_ ⟨zD, ok2, hl, ?_, ?_, fun b hb => ?_, ?_, ?_, fun b hb => ?_, ?_⟩) 5 _ (by omega) hR3 Fr.refl (fun k h => by exfalso; omega)
        · exact (((z2.mono (fun b j y => by show sTn b j; omega)).up (by omega)).up (by omega)).trans (x2.mono (fun b j y => by show sTn b j; omega))
        · rw [x2 81 19 (by omega), vm_up2, if_neg (by omega), vm_up2, if_pos ⟨rfl, rfl⟩]
        · rw [x2 81 18 (by omega), vm_up2, if_pos ⟨rfl, rfl⟩]
        · rw [x3 b (by omega), vm_up2, if_neg (by omega), vm_up2, if_neg (by omega)]; exact z4 b (by omega)
        · rw [x3 4 (by omega), vm_up2, if_neg (by omega), vm_up2, if_neg (by omega)]; exact z5
        · rw [x3 4 (by omega), vm_up2, if_neg (by omega), vm_up2, if_neg (by omega), z5]; exact bt
        · rw [x3 b (by omega), vm_up2, if_neg (by omega), vm_up2, if_neg (by omega), z4 b (by omega)]; exact yb_b h b
        · rw [x2 81 18 (by omega), vm_up2, if_pos ⟨rfl, rfl⟩]; exact bs)
      rcases hF with h19 | ⟨h19, f1, f2', f3, f4⟩
      · refine B_R_trySet_252 (fun _ => B_R_trySet_283 ?_) (fun y => by rw [e19] at y; exact absurd h19 y)
        have end1 : vw X (d + 3) 213 344 (vT2 a w q (detp q (eF wh wr ch)) (sgn (detp q (eF wh wr ch))) (ysu acts q a wh wr ch co) (vL (-1)) vN (vI 0) w13) [] M2 Q := B_R_trySet_344 (fun y => by exfalso; omega) (fun _ => new (Or.inl h19) _ _)
        exact B_R_trySet_291 (fun _ => end1) (fun _ => B_R_trySet_300 (fun _ => end1) (fun y => by exfalso; omega))
      · refine B_R_trySet_252 (fun y => by rw [e19] at y; exfalso; omega) (fun _ => B_R_trySet_259 z1 ?_)
        have b1 := bd_m bs f2'
        have b2 := bd_m f4 bt
        rw [z5, z2 93 4 (by omega), z2 81 18 (by omega), bd64 b1 (by decide), bd64 b2 (by decide), bd64 (bd_s b1 b2) (by decide)]
        exact LP_tless (b := 0) (bs := M 81 18) (z := M 93) (b4 := M 93 4) z1 hac k1 hy (fun b hb => ⟨z2 93 b (by omega), f3 b hb⟩) ⟨z5, bt⟩ ⟨z2 93 4 (by omega), f2'⟩ acts (by omega) (fun y => new (Or.inr y)) (fun y => q1 M2 z1 z2 (Or.inr (Or.inr ⟨h19, y⟩)))
    first
      | (rw [show sgn (detp q (eF wh wr ch)) = 1 by unfold sgn; rw [if_neg (by omega)]] at go; exact go)
      | (rw [show sgn (detp q (eF wh wr ch)) = -1 by unfold sgn; rw [if_pos z]] at go; exact go)
end TK
