/-! THE REFERENCE'S SHARES: one set -/
theorem detp_1 (G : Nat → Nat → Int) : detp 1 G = G 0 0 := by simp [detp, det4, s4, cof, sk, d3, sg4, pad]
theorem detp_2 (G : Nat → Nat → Int) : detp 2 G = G 0 0 * G 1 1 - G 0 1 * G 1 0 := by simp [detp, det4, s4, cof, sk, d3, sg4, pad]; try grind
theorem detp_3 (G : Nat → Nat → Int) : detp 3 G = 0 + G 0 0 * (G 1 1 * G 2 2 - G 1 2 * G 2 1) + G 0 1 * (G 1 2 * G 2 0 - G 1 0 * G 2 2) + G 0 2 * (G 1 0 * G 2 1 - G 1 1 * G 2 0) := by simp [detp, det4, s4, cof, sk, d3, sg4, pad]; grind
section MD
variable {X : vX} {d : Nat} {M M0 : vM} {Q : Option vV → vM → Prop} {n a w q : Nat} {col : Int} {G : Nat → Nat → Int}
/-- the entries that are read -/
def MdH (q a w : Nat) (col : Int) (G : Nat → Nat → Int) (M : vM) : Prop := ∀ r c : Nat, r < q → c < q → (0 ≤ M 95 r ∧ M 95 r < 4) ∧ bd 12 (G r c) ∧ (if (c : Int) = col then M 83 (12 * a + 4 * w + (M 95 r).toNat) = G r c else (0 ≤ M 94 c ∧ M 94 c < 4) ∧ M 83 (12 * (M 94 c).toNat + 4 * w + (M 95 r).toNat) = G r c)
theorem S_entry {r c : Nat} (hR : vRefs M) (hq : q ≤ 3) (ha : a < 4) (hw : w < 2) (h : MdH q a w col G M) (hr : r < q) (hc : c < q) (k : Q (some (vL (G r c))) M) : cq X (d + 2) 211 [vR 81, vI (a : Int), vI (w : Int), vI (r : Int), vI (c : Int), vI col] M Q := by
  obtain ⟨h1, _, h3⟩ := h r c hr hc
  refine E_R_entry (B_R_entry_0 (fun z => B_R_entry_12 hR (by omega) (by omega) ?_) (fun z => B_R_entry_8 hR (by omega) ?_))
  · rw [if_neg z] at h3
    rw [Int.toNat_natCast, Int.toNat_natCast]
    refine S_R_chance hR (by omega) (by omega) (by omega) (B_R_entry_29 ?_)
    rw [a_rc, Int.toNat_natCast, h3.2]
    exact k
  · rw [if_pos z] at h3
    rw [Int.toNat_natCast]
    refine S_R_chance hR (by omega) (by omega) (by omega) (B_R_entry_29 ?_)
    rw [a_rc, Int.toNat_natCast, Int.toNat_natCast, h3]
    exact k
theorem made_3 (hR : vRefs M) (ha : a < 4) (hw : w < 2) (h : MdH 3 a w col G M) {c e f : Nat} {acc : Int} {w8 w9 : vV} (hc : c < 3) (he : e < 3) (hf : f < 3) (e1 : j_irem (w32 ((c : Int) + 1)) 3 = (e : Int)) (e2 : j_irem (w32 ((c : Int) + 2)) 3 = (f : Int)) (hacc : bd 100000 acc) (k : vw X (d + 2) 212 71 [vR 81, vI (a : Int), vI (w : Int), vI 3, vI col, vL (acc + G 0 c * (G 1 e * G 2 f - G 1 f * G 2 e)), vN, vI ((c + 1 : Nat) : Int), vI (e : Int), vI (f : Int)] [] M Q) : vw X (d + 2) 212 71 [vR 81, vI (a : Int), vI (w : Int), vI 3, vI col, vL acc, vN, vI (c : Int), w8, w9] [] M Q := by
  have g : ∀ r c, r < 3 → c < 3 → bd 12 (G r c) := fun r c h1 h2 => (h r c h1 h2).2.1
  have b1 := bd_m (g 1 e (by omega) he) (g 2 f (by omega) hf)
  have b2 := bd_m (g 1 f (by omega) hf) (g 2 e (by omega) he)
  have b3 := bd_s b1 b2
  have b4 := bd_m (g 0 c (by omega) hc) b3
  have b5 := bd_a hacc b4
  refine B_R_made_71 (fun z => by exfalso; omega) (fun _ => B_R_made_77 (S_entry (r := 0) (c := c) hR (Nat.le_refl 3) ha hw h (by omega) hc (B_R_made_106 ?_)))
  rw [e1, e2]
  refine S_entry (r := 1) (c := e) hR (Nat.le_refl 3) ha hw h (by omega) he (B_R_made_117 (S_entry (r := 2) (c := f) hR (Nat.le_refl 3) ha hw h (by omega) hf (B_R_made_128 (S_entry (r := 1) (c := f) hR (Nat.le_refl 3) ha hw h (by omega) hf (B_R_made_140 (S_entry (r := 2) (c := e) hR (Nat.le_refl 3) ha hw h (by omega) he (B_R_made_151 ?_)))))))
  rw [bd64 b1 (by decide), bd64 b2 (by decide), bd64 b3 (by decide), bd64 b4 (by decide), bd64 b5 (by decide), w32_i (by omega)]
  exact k
theorem S_made (hR : vRefs M) (hq : 1 ≤ q ∧ q ≤ 3) (ha : a < 4) (hw : w < 2) (h : MdH q a w col G M) (k : Q (some (vL (detp q G))) M) : cq X (d + 3) 212 [vR 81, vI (a : Int), vI (w : Int), vI (q : Int), vI col] M Q := by
  have c : q = 1 ∨ q = 2 ∨ q = 3 := by omega
  have g : ∀ r c, r < q → c < q → bd 12 (G r c) := fun r c h1 h2 => (h r c h1 h2).2.1
  refine E_R_made (B_R_made_0 (fun z1 => B_R_made_16 (fun z2 => B_R_made_65 ?_) (fun z2 => B_R_made_21 ?_)) (fun z1 => B_R_made_5 ?_))
  · have e : q = 3 := by omega
    subst e
    rw [detp_3] at k
    have b : ∀ i j l m, i < 3 → j < 3 → l < 3 → m < 3 → bd 288 (G 1 i * G 2 j - G 1 l * G 2 m) := fun i j l m h1 h2 h3 h4 => bd_l (bd_s (bd_m (g 1 i (by omega) h1) (g 2 j (by omega) h2)) (bd_m (g 1 l (by omega) h3) (g 2 m (by omega) h4))) (by decide)
    have c0 := bd_m (g 0 0 (by omega) (by omega)) (b 1 2 2 1 (by omega) (by omega) (by omega) (by omega))
    have c1 := bd_m (g 0 1 (by omega) (by omega)) (b 2 0 0 2 (by omega) (by omega) (by omega) (by omega))
    refine made_3 (c := 0) (e := 1) (f := 2) hR ha hw h (by omega) (by omega) (by omega) (by decide +kernel) (by decide +kernel) (by unfold bd; omega) ?_
    refine made_3 (c := 0 + 1) (e := 2) (f := 0) hR ha hw h (by omega) (by omega) (by omega) (by decide +kernel) (by decide +kernel) (by unfold bd at c0 ⊢; omega) ?_
    refine made_3 (c := 0 + 1 + 1) (e := 0) (f := 1) hR ha hw h (by omega) (by omega) (by omega) (by decide +kernel) (by decide +kernel) (bd_l (bd_a (bd_a (show bd 0 0 by unfold bd; omega) c0) c1) (by decide)) ?_
    exact B_R_made_71 (fun _ => B_R_made_163 k) (fun z => by exfalso; omega)
  · have e : q = 2 := by omega
    subst e
    have b1 := bd_m (g 0 0 (by omega) (by omega)) (g 1 1 (by omega) (by omega))
    have b2 := bd_m (g 0 1 (by omega) (by omega)) (g 1 0 (by omega) (by omega))
    rw [detp_2] at k
    refine S_entry (r := 0) (c := 0) hR (by omega) ha hw h (by omega) (by omega) (B_R_made_31 (S_entry (r := 1) (c := 1) hR (by omega) ha hw h (by omega) (by omega) (B_R_made_41 (S_entry (r := 0) (c := 1) hR (by omega) ha hw h (by omega) (by omega) (B_R_made_52 (S_entry (r := 1) (c := 0) hR (by omega) ha hw h (by omega) (by omega) (B_R_made_62 ?_)))))))
    rw [bd64 b1 (by decide), bd64 b2 (by decide), bd64 (bd_s b1 b2) (by decide)]
    exact k
  · have e : q = 1 := by omega
    subst e
    rw [detp_1] at k
    exact S_entry (r := 0) (c := 0) hR (by omega) ha hw h (by omega) (by omega) (B_R_made_15 k)
end MD
