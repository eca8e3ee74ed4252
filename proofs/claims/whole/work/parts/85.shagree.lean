/-! THE CLASS'S SHARES are the reference's: the reference's search given the least point -/
section SG2
variable {X : vX} {d : Nat} {M M0 : vM} {Q : Option vV → vM → Prop} {ss acts a w : Nat} {ch : Nat → Nat → Int} {co : Nat → Int} {D : Int} {Z : Nat → Int}
theorem bl_off : ∀ s, s < 16 → ∀ a, a < 4 → (∀ c, c < (bl s 4).length → (bl s 4).getD c 0 ≠ a) → s / 2 ^ a % 2 = 0 := by decide +kernel
def okF (ss acts a : Nat) (ch : Nat → Nat → Int) (y : Nat → Int) (t : Int) : Prop := 0 < t ∧ (∀ b, 0 ≤ y b) ∧ y a = 0 ∧ ∀ s, s < ss → dot y (fun b => ch b s) acts = t * ch a s
theorem ok_feas {set at' : Nat} (hs : set < 16) (hc : Cnd a set at') (hd : detp (bl set 4).length (eF (gl set) (gl at') ch) ≠ 0) (h : okS ss acts a (bl set 4).length (gl set) (gl at') ch) : okF ss acts a ch (yb (bl set 4).length a (gl set) (gl at') ch) (ct (bl set 4).length (gl set) (gl at') ch) := by
  refine ⟨ct_p hd, fun b => (js_p _ (fun i hi => h.1 i hi)).1, js_z _ (fun i hi z => ?_), h.2⟩
  have := bl_set set hs i hi
  rw [show (bl set 4).getD i 0 = a from z] at this
  have := hc.1
  omega
def OpS (ss acts a : Nat) (ch : Nat → Nat → Int) (co : Nat → Int) (D : Int) (Z : Nat → Int) : Prop := 0 < D ∧ (∀ (y : Nat → Int) (t : Int), okF ss acts a ch y t → lxn (fun i => D * co0 (dot y co acts) y i - Z i * t) (acts + 1) 0) ∧ ∃ s0 a0, (1 ≤ s0 ∧ s0 < 2 ^ acts) ∧ (1 ≤ a0 ∧ a0 < 2 ^ ss) ∧ Cnd a s0 a0 ∧ detp (bl s0 4).length (eF (gl s0) (gl a0) ch) ≠ 0 ∧ okS ss acts a (bl s0 4).length (gl s0) (gl a0) ch ∧ ∀ i, i ≤ acts → D * co0 (ysu acts (bl s0 4).length a (gl s0) (gl a0) ch co) (yb (bl s0 4).length a (gl s0) (gl a0) ch) i = Z i * ct (bl s0 4).length (gl s0) (gl a0) ch
def FdS (acts : Nat) (D : Int) (Z : Nat → Int) (M : vM) : Prop := M 81 19 = 1 ∧ 0 < M 93 4 ∧ bd 500000 (M 93 4) ∧ (∀ b, b < acts → bd 1500000 (M 93 b)) ∧ bd 1000000000 (M 81 18) ∧ ∀ i, i ≤ acts → D * co0 (M 81 18) (M 93) i = Z i * M 93 4
theorem fs_start (hR : vRefs M) (hB : FsB ss acts a w ch co M) (k : ∀ M1, vRefs M1 → Fr sFo M M1 → FsB ss acts a w ch co M1 → M1 81 19 = 0 → vw X (d + 5) 215 7 [vR 81, vI (a : Int), vI (w : Int), vI ((1 : Nat) : Int), vN, vN, vN, vN, vN] [] M1 Q) : cq X (d + 6) 215 [vR 81, vI (a : Int), vI (w : Int)] M Q := by
  refine E_R_findShares (B_R_findShares_0 hR (fun hR2 => ?_))
  have f : Fr sFo M (vm_up M 81 19 0) := Fr.refl.up (by omega)
  exact k _ hR2 f (FsB_fr hB f) (by rw [vm_up2, if_pos ⟨rfl, rfl⟩])
theorem S_findShares_no (hR : vRefs M) (hB : FsB ss acts a w ch co M) (hno : ∀ (y : Nat → Int) (t : Int), okF ss acts a ch y t → False) (q : ∀ M1, vRefs M1 → Fr sFo M M1 → M1 81 19 = 0 → Q none M1) : cq X (d + 6) 215 [vR 81, vI (a : Int), vI (w : Int)] M Q := by
  have p1 : 1 ≤ 2 ^ acts := Nat.one_le_two_pow
  have p2 := p2_16 hB.2.1
  refine fs_start hR hB (fun M1 y1 y2 y3 y4 => LP_sets2 (I := fun _ _ M => M 81 19 = 0) (set := 1) y3 (fun _ _ M i => Or.inl i) (fun set at' M M1 h1 h2 h3 h4 i o => ?_) (fun _ _ i => i) (fun M2 z1 z2 z3 => q M2 z1 (y2.trans z2) z3) (2 ^ acts - 1) M1 _ _ _ _ _ (by omega) (Nat.le_refl 1) y1 Fr.refl y4)
  rcases o with ⟨f, _⟩ | ⟨hc, hb⟩
  · rw [f 81 19 (by omega)]; exact i
  · exact (hno _ _ (ok_feas (by omega) hc hb.1 hb.2.1)).elim
theorem S_findShares_yes (hR : vRefs M) (hB : FsB ss acts a w ch co M) (ho : OpS ss acts a ch co D Z) (q : ∀ M1, vRefs M1 → Fr sFo M M1 → FdS acts D Z M1 → Q none M1) : cq X (d + 6) 215 [vR 81, vI (a : Int), vI (w : Int)] M Q := by
  have p1 : 1 ≤ 2 ^ acts := Nat.one_le_two_pow
  have p2 := p2_16 hB.2.1
  obtain ⟨hD, hopt, s0, a0, hs0, ha0, hc0, hd0, hk0, he0⟩ := ho
  have ct0 := ct_p hd0
  refine fs_start hR hB (fun M1 y1 y2 y3 y4 => LP_sets2 (I := fun set at' M => FsH acts M ∧ (M 81 19 = 1 → lxn (fun i => D * co0 (M 81 18) (M 93) i - Z i * M 93 4) (acts + 1) 0) ∧ ((s0 < set ∨ (s0 = set ∧ a0 < at')) → FdS acts D Z M)) (set := 1) y3 (fun _ _ M i => i.1) (fun set at' M M1 h1 h2 h3 h4 i o => ?_) (fun set M i => ⟨i.1, i.2.1, fun z => i.2.2 (by omega)⟩) (fun M2 z1 z2 z3 => q M2 z1 (y2.trans z2) (z3.2.2 (Or.inl hs0.2))) (2 ^ acts - 1) M1 _ _ _ _ _ (by omega) (Nat.le_refl 1) y1 Fr.refl ⟨Or.inl y4, fun z => by rw [y4] at z; exact absurd z (by decide), fun z => by exfalso; omega⟩)
  obtain ⟨hF, hl, hd⟩ := i
  rcases o with ⟨f, hA⟩ | ⟨hc, hb⟩
  · have e19 : M1 81 19 = M 81 19 := f 81 19 (by omega)
    have e18 : M1 81 18 = M 81 18 := f 81 18 (by omega)
    have e93 : M1 93 = M 93 := funext (fun j => f 93 j (by omega))
    have keep : FdS acts D Z M → FdS acts D Z M1 := fun h => by unfold FdS at h ⊢; rw [e19, e18, e93]; exact h
    refine ⟨by unfold FsH; rw [e19, e18, e93]; exact hF, by rw [e19, e18, e93]; exact hl, fun z => ?_⟩
    by_cases y : s0 < set ∨ (s0 = set ∧ a0 < at')
    · exact keep (hd y)
    · have es : set = s0 := by omega
      have ea : at' = a0 := by omega
      rw [es, ea] at hA
      rcases hA hc0 with x | x | ⟨h19, x⟩
      · exact absurd x hd0
      · exact absurd hk0 x
      · have hF2 : 0 < M 93 4 ∧ bd 500000 (M 93 4) ∧ (∀ b, b < acts → bd 1500000 (M 93 b)) ∧ bd 1000000000 (M 81 18) := by
          rcases hF with h | h
          · omega
          · exact h.2
        refine keep ⟨h19, hF2.1, hF2.2.1, hF2.2.2.1, hF2.2.2.2, fun i hi => ?_⟩
        have z2 : lxn (fun i => -(D * co0 (M 81 18) (M 93) i - Z i * M 93 4)) (acts + 1) 0 := by
          refine lxn_d ct0 (lxn_c (fun k _ hk => ?_) (lxn_m (Int.le_of_lt hD) x))
          show ct (bl s0 4).length (gl s0) (gl a0) ch * -(D * co0 (M 81 18) (M 93) k - Z k * M 93 4) = D * (co0 (ysu acts (bl s0 4).length a (gl s0) (gl a0) ch co) (yb (bl s0 4).length a (gl s0) (gl a0) ch) k * M 93 4 - co0 (M 81 18) (M 93) k * ct (bl s0 4).length (gl s0) (gl a0) ch)
          have := he0 k (by omega)
          generalize co0 (ysu acts (bl s0 4).length a (gl s0) (gl a0) ch co) (yb (bl s0 4).length a (gl s0) (gl a0) ch) k = c1 at *
          generalize co0 (M 81 18) (M 93) k = c2 at *
          generalize ct (bl s0 4).length (gl s0) (gl a0) ch = c3 at *
          clear hopt he0 hl q hA
          grind
        have := lxn_anti (hl h19) z2 (fun k _ _ => rfl) i (by omega) (by omega)
        omega
  · obtain ⟨b1, b2, b3, b4, b5, b6, b7, b8, b9, b10⟩ := hb
    have ct1 := ct_p b1
    have hx0 := hopt _ _ (ok_feas (by omega) hc b1 b2)
    have ec : ∀ i, i ≤ acts → co0 (M1 81 18) (M1 93) i = co0 (ysu acts (bl set 4).length a (gl set) (gl at') ch co) (yb (bl set 4).length a (gl set) (gl at') ch) i := fun i hi => by
      cases i with
      | zero => exact b5
      | succ i => exact b6 i (by omega)
    have hl1 : lxn (fun i => D * co0 (M1 81 18) (M1 93) i - Z i * M1 93 4) (acts + 1) 0 := lxn_c (fun k _ hk => by show D * co0 (M1 81 18) (M1 93) k - Z k * M1 93 4 = _; rw [ec k (by omega), b7]) hx0
    refine ⟨Or.inr ⟨b4, by rw [b7]; exact ct1, b8, b9, b10⟩, fun _ => hl1, fun z => ⟨b4, by rw [b7]; exact ct1, b8, b9, b10, ?_⟩⟩
    by_cases y : s0 < set ∨ (s0 = set ∧ a0 < at')
    · exfalso
      obtain ⟨g1, g2, g3, g4, g5, g6⟩ := hd y
      rcases b3 with x | x
      · omega
      · refine lxp_irr (lxp_a (lxp_m hD x) (lxn_m (Int.le_of_lt g2) hx0)) (fun k _ hk => ?_)
        show D * (co0 (M 81 18) (M 93) k * ct (bl set 4).length (gl set) (gl at') ch - co0 (ysu acts (bl set 4).length a (gl set) (gl at') ch co) (yb (bl set 4).length a (gl set) (gl at') ch) k * M 93 4) + M 93 4 * (D * co0 (ysu acts (bl set 4).length a (gl set) (gl at') ch co) (yb (bl set 4).length a (gl set) (gl at') ch) k - Z k * ct (bl set 4).length (gl set) (gl at') ch) = 0
        have := g6 k (by omega)
        generalize co0 (ysu acts (bl set 4).length a (gl set) (gl at') ch co) (yb (bl set 4).length a (gl set) (gl at') ch) k = c1 at *
        generalize co0 (M 81 18) (M 93) k = c2 at *
        generalize ct (bl set 4).length (gl set) (gl at') ch = c3 at *
        clear hopt he0 hl q
        grind
    · have es : set = s0 := by omega
      have ea : at' = a0 := by omega
      intro i hi
      rw [ec i hi, b7, es, ea]
      exact he0 i hi
end SG2
