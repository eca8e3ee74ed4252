/-! BEST, BESTGAIN -/
theorem lp_vert {A : Nat → Nat → Int} {C : Nat → Int} {B : Nat → Nat} {n m i : Nat} (hA : LpA n m A C) : lpL A C i (lpD A B) (fun k => lp0 A C B (k + 1)) = lp0 A C B i := by
  have hT : ∀ k j, k < 4 → lpT A B (k + 1) j = lpV A B k j := fun k j hk => lp_TV hA hk
  have hC : ∀ k, k < 4 → C (k + 1) = 0 := fun k hk => hA.2.2.2.1 (k + 1) (by omega)
  have e : ∀ k, k < 4 → lp0 A C B (k + 1) = - s4 (fun j => lpV A B k j * C (B j)) := fun k hk => by
    unfold lp0
    rw [hC k hk]
    simp only [s4, hT k _ hk]
    omega
  unfold lpL
  simp only [s4, e 0 (by omega), e 1 (by omega), e 2 (by omega), e 3 (by omega)]
  unfold lp0 lpT
  simp only [s4]
  clear e hT hC
  grind
theorem lp_uni {A : Nat → Nat → Int} {C : Nat → Int} {B B' : Nat → Nat} {n m i : Nat} (hA : LpA n m A C) (h : SvYes n m A C B) (h' : SvYes n m A C B') (hi : i ≤ n) : lpD A B' * lp0 A C B i = lp0 A C B' i * lpD A B := by
  have q := lp_opt hA h'.1 (t := lpD A B) (x := fun k => lp0 A C B (k + 1)) (fun i h1 h2 => by rw [lp_vert hA]; exact h.2 i h1 h2)
  have q' := lp_opt hA h.1 (t := lpD A B') (x := fun k => lp0 A C B' (k + 1)) (fun i h1 h2 => by rw [lp_vert hA]; exact h'.2 i h1 h2)
  have z := lxn_anti q q' (fun k _ _ => by
    rw [lp_vert hA, lp_vert hA, Int.mul_comm (lpD A B), Int.mul_comm (lp0 A C B k)]
    omega) i (by omega) (by omega)
  rw [lp_vert hA] at z
  omega
section BE
variable {X : vX} {d : Nat} {M M0 M1 : vM} {Q : Option vV → vM → Prop} {a w : Nat} {a0 a1 a2 a3 : Int} {B : Nat → Nat}
abbrev YesA (M : vM) (w a : Nat) (B : Nat → Nat) : Prop := SvYes (nn M) (wnx (w + 1) * mm M) (lA M a (w + 1)) (lC M a (w + 1)) B
def vsum (M : vM) (w a : Nat) : Int := dot (fun s => M (4 + (2 * a + w)) s) (M 12) (nn M)
/-- what is kept, below -/
def kpt (M : vM) (w a : Nat) (B : Nat → Nat) : Int × Int := (vsum M w a * lpD (lA M a (w + 1)) B - lp0 (lA M a (w + 1)) (lC M a (w + 1)) B 0, lpD (lA M a (w + 1)) B)
theorem bv_all (M : vM) (w : Nat) : ∃ v : Nat → Option (Int × Int), ∀ a, (v a = none ∧ ¬ ∃ B, YesA M w a B) ∨ ∃ B, YesA M w a B ∧ v a = some (kpt M w a B) := by
  have h : ∀ a, ∃ o : Option (Int × Int), (o = none ∧ ¬ ∃ B, YesA M w a B) ∨ ∃ B, YesA M w a B ∧ o = some (kpt M w a B) := fun a => by
    by_cases h : ∃ B, YesA M w a B
    · obtain ⟨B, hB⟩ := h
      exact ⟨some (kpt M w a B), Or.inr ⟨B, hB, rfl⟩⟩
    · exact ⟨none, Or.inl ⟨rfl, h⟩⟩
  exact ⟨fun a => (h a).choose, fun a => (h a).choose_spec⟩
abbrev BvH (M : vM) (w : Nat) (v : Nat → Option (Int × Int)) : Prop := ∀ a, (v a = none ∧ ¬ ∃ B, YesA M w a B) ∨ ∃ B, YesA M w a B ∧ v a = some (kpt M w a B)
def pf (v : Nat → Option (Int × Int)) (f : Int) : Int × Int := (v f.toNat).getD (0, 1)
/-- what is taken when act a keeps this -/
def nxt (v : Nat → Option (Int × Int)) (a : Nat) (f : Int) : Option (Int × Int) → Int
  | none => f
  | some (k, e) => if f = -1 ∨ (pf v f).1 * e < k * (pf v f).2 then (a : Int) else f
def bst (v : Nat → Option (Int × Int)) : Nat → Nat → Int → Int
  | 0, _, f => f
  | m + 1, a, f => bst v m (a + 1) (nxt v a f (v a))
variable {v : Nat → Option (Int × Int)}
theorem bv_yes (hv : BvH M w v) (hA : LpA (nn M) (wnx (w + 1) * mm M) (lA M a (w + 1)) (lC M a (w + 1))) (h : YesA M w a B) : ∃ k e, v a = some (k, e) ∧ 0 < e ∧ k * lpD (lA M a (w + 1)) B = (kpt M w a B).1 * e := by
  rcases hv a with ⟨_, z⟩ | ⟨B', hB, e⟩
  · exact absurd ⟨B, h⟩ z
  · refine ⟨(kpt M w a B').1, (kpt M w a B').2, e, hB.1.1, ?_⟩
    have u := lp_uni hA hB h (i := 0) (by omega)
    show (vsum M w a * lpD (lA M a (w + 1)) B' - lp0 (lA M a (w + 1)) (lC M a (w + 1)) B' 0) * lpD (lA M a (w + 1)) B = (vsum M w a * lpD (lA M a (w + 1)) B - lp0 (lA M a (w + 1)) (lC M a (w + 1)) B 0) * lpD (lA M a (w + 1)) B'
    generalize lpD (lA M a (w + 1)) B' = x1 at *
    generalize lp0 (lA M a (w + 1)) (lC M a (w + 1)) B' 0 = x2 at *
    generalize lpD (lA M a (w + 1)) B = x3 at *
    generalize lp0 (lA M a (w + 1)) (lC M a (w + 1)) B 0 = x4 at *
    generalize vsum M w a = x5
    clear e hB h hA hv
    grind
theorem bv_no (hv : BvH M w v) (hA : LpA (nn M) (wnx (w + 1) * mm M) (lA M a (w + 1)) (lC M a (w + 1))) (h : SvNo (nn M) (wnx (w + 1) * mm M) (lA M a (w + 1)) (lC M a (w + 1)) B) : v a = none := by
  rcases hv a with ⟨z, _⟩ | ⟨B', hB, e⟩
  · exact z
  · exfalso
    obtain ⟨hS, r, h1, h2, h3, h4⟩ := h
    exact lp_inf hA hS h1 h2 h3 h4 (t := lpD (lA M a (w + 1)) B') (x := fun k => lp0 (lA M a (w + 1)) (lC M a (w + 1)) B' (k + 1)) hB.1.1 (fun i h1 h2 => by rw [lp_vert hA]; exact hB.2 i h1 h2)
/-- comparing fractions -/
theorem fr_lt {k e k' e' f g f' g' : Int} (h1 : k * e' = k' * e) (h2 : f * g' = f' * g) (he : 0 < e) (he' : 0 < e') (hg : 0 < g) (hg' : 0 < g') : f * e < k * g ↔ f' * e' < k' * g' := by
  have p : ∀ {x y z : Int}, 0 < z → (x < y ↔ x * z < y * z) := fun hz => ⟨fun h => Int.mul_lt_mul_of_pos_right h hz, fun h => Int.lt_of_mul_lt_mul_right h (Int.le_of_lt hz)⟩
  rw [p (x := f * e) (y := k * g) (Int.mul_pos he' hg'), p (x := f' * e') (y := k' * g') (Int.mul_pos he hg)]
  have a1 : f * e * (e' * g') = f' * e' * (e * g) := by clear p; grind
  have a2 : k * g * (e' * g') = k' * g' * (e * g) := by clear p; grind
  rw [a1, a2]
/-- the best so far, as fractions that are alike -/
def BsI (v : Nat → Option (Int × Int)) (f fa fb : Int) : Prop := f = -1 ∨ (0 ≤ f ∧ bd 50000000000 fa ∧ bd 100000000 fb ∧ 0 < fb ∧ ∃ k e, v f.toNat = some (k, e) ∧ 0 < e ∧ k * fb = fa * e)
theorem BsI_cmp {f fa fb ab be k e : Int} (hI : BsI v f fa fb) (he : 0 < e) (hbe : 0 < be) (hk : k * be = ab * e) : (f = -1 ∨ fa * be < ab * fb) ↔ (f = -1 ∨ (pf v f).1 * e < k * (pf v f).2) := by
  rcases hI with z | ⟨z1, z2, z3, z4, k0, e0, z5, z6, z7⟩
  · exact ⟨fun _ => Or.inl z, fun _ => Or.inl z⟩
  · have ep : pf v f = (k0, e0) := by unfold pf; rw [z5]; rfl
    rw [ep]
    have := fr_lt (k := ab) (e := be) (k' := k) (e' := e) (f := fa) (g := fb) (f' := k0) (g' := e0) hk.symm z7.symm hbe he z4 z6
    exact or_congr Iff.rfl this
theorem as_dot {F G : Nat → Int} : ∀ (n i : Nat) (acc : Int), a_sum (fun s => F s.toNat * G s.toNat) n (i : Int) acc = acc + (dot F G (i + n) - dot F G i)
  | 0, i, acc => by rw [a_sum, Nat.add_zero]; omega
  | n + 1, i, acc => by
    rw [a_sum, show (i : Int) + 1 = ((i + 1 : Nat) : Int) by omega, as_dot n (i + 1), Int.toNat_natCast, show i + 1 + n = i + (n + 1) by omega]
    show _ + (_ - (dot F G i + F i * G i)) = _
    omega
theorem vs_paid (hr : Rel M) (f : Fr sTmp M M1) (ha : (a : Int) < M 1 4) (hw : w < 2) : a_paid M1 (a : Int) (w : Int) (M1 12) = vsum M w a := by
  have h4 := hr.2.1.2.2.1
  rw [a_paid_fr f hr.2.1 (p := M 12) (fun s _ => f 12 s (by unfold sTmp; omega)) (by omega) (by omega)]
  have := as_dot (F := fun s => M (4 + (2 * a + w)) s) (G := M 12) (nn M) 0 0
  unfold a_paid a_ch vsum
  rw [Int.toNat_natCast, Int.toNat_natCast]
  rw [Nat.zero_add] at this
  show a_sum _ (nn M) 0 0 = _
  rw [show (0 : Int) = ((0 : Nat) : Int) from rfl]
  refine this.trans ?_
  show 0 + (dot _ _ (nn M) - 0) = _
  omega
theorem vs_b (hr : Rel M) (ha : (a : Int) < M 1 4) (hw : w < 2) : ∀ k : Nat, k ≤ nn M → bd 5000 (dot (fun s => M (4 + (2 * a + w)) s) (M 12) k) := fun k hk => by
  have hA := hr.2.1
  have h4 := hA.2.2.1
  have hn := nn_r hA
  have b := dot_b (f := fun s => M (4 + (2 * a + w)) s) (g := M 12) (a := 12) (b := 99) k (fun i hi => by have := hA.2.2.2.2.2.2.2.2.2.1 a w i (by omega) hw (by omega); unfold bd; omega) (fun i hi => by have := (hA.2.2.2.2.2.2.2.1 i (by omega)).2; unfold bd; omega)
  exact bd_l b (by omega)
theorem j_1w (hw : w < 2) : j_ishl 1 (w : Int) = ((w + 1 : Nat) : Int) := by
  have : w = 0 ∨ w = 1 := by omega
  rcases this with e | e <;> subst e <;> decide +kernel
theorem S_X_keptOfLeast (hr0 : Rel M) (f : Fr sTmp M M1) (hr : Rel M1) (ha : (a : Int) < M 1 4) (hw : w < 2) (hT : SvT (nn M) (wnx (w + 1) * mm M) (lA M a (w + 1)) (lC M a (w + 1)) B M1) (hS : YesA M w a B) (q : Q (some (vL (kpt M w a B).1)) M1) : cq X (d + 4) 176 [vR 0, vI (a : Int), vI (w : Int)] M1 Q := by
  have h4 := hr0.2.1.2.2.1
  have hw' : w + 1 = 1 ∨ w + 1 = 2 ∨ w + 1 = 3 := by omega
  obtain ⟨v1, v2, v3, v4⟩ := sv_shows (nn_r hr0.2.1).1.2 (lA_B (a := a) hr0 ha hw') hT hS.1
  have b1 := vs_b hr0 ha hw (nn M) (Nat.le_refl _)
  have b2 := bd_m b1 v3
  have b3 := bd_s b2 (v4 0)
  refine E_X_keptOfLeast (B_X_keptOfLeast_0 hr.1 (S_Ac_valued hr.1 hr.2.1 (by omega) (by omega) (B_X_keptOfLeast_9 hr.1 (S_So_below (B_X_keptOfLeast_16 hr.1 (S_So_goal hr.1 (B_X_keptOfLeast_24 ?_)))))))
  rw [vs_paid hr0 f ha hw, v1, show M1 15 0 = lp0 (lA M a (w + 1)) (lC M a (w + 1)) B 0 from v2 0 (by omega)]
  unfold vsum
  rw [bd64 b2 (by decide), bd64 b3 (by decide)]
  exact q
theorem kpt_b (hr0 : Rel M) (ha : (a : Int) < M 1 4) (hw : w < 2) (hS : YesA M w a B) : bd 50000000000 (kpt M w a B).1 ∧ bd 100000000 (kpt M w a B).2 ∧ 0 < (kpt M w a B).2 := by
  have hw' : w + 1 = 1 ∨ w + 1 = 2 ∨ w + 1 = 3 := by omega
  have hb := lA_B (a := a) hr0 ha hw'
  have v3 := lp_bD (SvS_B hb hS.1)
  have v4 := lp_b0w hb hS.1 0
  have b2 := bd_m (vs_b hr0 ha hw (nn M) (Nat.le_refl _)) v3
  exact ⟨bd_l (bd_s b2 v4) (by decide), bd_l v3 (by decide), hS.1.1⟩
abbrev vBe (w : Nat) (f fa fb a : Int) (w8 w10 : vV) : List vV := [vR 0, vI (w : Int), vI f, vL fa, vN, vL fb, vN, vI a, w8, vN, w10, vN]
theorem BsI_new (hv : BvH M w v) (hr0 : Rel M) (ha : (a : Int) < M 1 4) (hw : w < 2) (hS : YesA M w a B) : BsI v (a : Int) (kpt M w a B).1 (kpt M w a B).2 := by
  have hw' : w + 1 = 1 ∨ w + 1 = 2 ∨ w + 1 = 3 := by omega
  obtain ⟨k, e, h1, h2, h3⟩ := bv_yes hv (lA_A (a := a) hr0 hw') hS
  obtain ⟨b1, b2, b3⟩ := kpt_b hr0 ha hw hS
  exact Or.inr ⟨by omega, b1, b2, b3, k, e, by rw [Int.toNat_natCast]; exact h1, h2, h3⟩
/-- act b is either solved for, or can't be -/
abbrev AllH (M : vM) (w b : Nat) : Prop := (∃ B, YesA M w b B) ∨ ∃ B, SvNo (nn M) (wnx (w + 1) * mm M) (lA M b (w + 1)) (lC M b (w + 1)) B
theorem LP_X_best (hr0 : Rel M) (hv : BvH M w v) (hw : w < 2) : ∀ (m a : Nat) (f fa fb : Int) (M1 : vM) (w8 w10 : vV), (a : Int) + m = M 1 4 → -1 ≤ f → f < a → BsI v f fa fb → (∀ b : Nat, b < a → AllH M w b) → Rel M1 → Fr sTmp M M1 → (∀ M1, Rel M1 → Fr sTmp M M1 → (∀ b : Nat, (b : Int) < M 1 4 → AllH M w b) → Q (some (vI (bst v m a f))) M1) → vw X (d + 5) 139 19 (vBe w f fa fb (a : Int) w8 w10) [] M1 Q
  | 0, a, f, fa, fb, M1, w8, w10, ha, hf, hfa, hI, hx, hr, fr, q => by
    have e4 : M1 1 4 = M 1 4 := fr 1 4 (by unfold sTmp; omega)
    exact B_X_best_19 hr.1 (E_Ac_howMany (B_Ac_howMany_0 (B_X_best_28 (fun _ => B_X_best_95 (q M1 hr fr (fun b hb => hx b (by omega)))) (fun z => by exfalso; omega))))
  | m + 1, a, f, fa, fb, M1, w8, w10, ha, hf, hfa, hI, hx, hr, fr, q => by
    have e4 : M1 1 4 = M 1 4 := fr 1 4 (by unfold sTmp; omega)
    have h4 := hr0.2.1.2.2.1
    have ha4 : (a : Int) < M 1 4 := by omega
    have hw' : w + 1 = 1 ∨ w + 1 = 2 ∨ w + 1 = 3 := by omega
    have nx : Unit → w32 ((a : Int) + 1) = ((a + 1 : Nat) : Int) := fun _ => by rw [w32_i (by omega)]; omega
    obtain ⟨en, em, e2, e5⟩ := nn_fr fr
    have eA : lA M1 a (w + 1) = lA M a (w + 1) := by unfold lA; rw [em, lcw_fr fr]
    have eC : lC M1 a (w + 1) = lC M a (w + 1) := by unfold lC; rw [em, e2, e5]
    have hA := lA_A (a := a) hr0 hw'
    rw [bst] at q
    refine B_X_best_19 hr.1 (E_Ac_howMany (B_Ac_howMany_0 (B_X_best_28 (fun z => by exfalso; omega) (fun _ => B_X_best_31 ?_))))
    rw [j_1w hw]
    refine S_X_solvesPay hr (by omega) hw' (fun M2 B y1 y2 y3 y4 => B_X_best_40 (fun z => by exfalso; omega) (fun _ => B_X_best_43 ?_)) (fun M2 B y1 y2 y3 => B_X_best_40 (fun _ => B_X_best_89 ?_) (fun z => absurd rfl z))
    · rw [eA, eC, en, em] at y3 y4
      have fr2 := fr.trans y2
      have hx2 : ∀ b : Nat, b < a + 1 → AllH M w b := fun b hb => by
        by_cases z : b = a
        · rw [z]; exact Or.inl ⟨B, y4⟩
        · exact hx b (by omega)
      have hb := kpt_b hr0 ha4 hw y4
      obtain ⟨k, e, v1, v2, v3⟩ := bv_yes hv hA y4
      rw [v1, nxt] at q
      have hc := BsI_cmp (ab := (kpt M w a B).1) (be := (kpt M w a B).2) hI v2 hb.2.2 v3
      refine S_X_keptOfLeast (d := d + 1) hr0 fr2 y1 ha4 hw y3 y4 (B_X_best_50 y1.1 (S_So_below ?_))
      rw [y3.1.2.2]
      have take : (f = -1 ∨ fa * (kpt M w a B).2 < (kpt M w a B).1 * fb) → vw X (d + 5) 139 79 [vR 0, vI (w : Int), vI f, vL fa, vN, vL fb, vN, vI (a : Int), vL (kpt M w a B).1, vN, vL (kpt M w a B).2, vN] [] M2 Q := fun z => by
        rw [if_pos (hc.mp z)] at q
        refine B_X_best_79 ?_
        rw [nx ()]
        exact LP_X_best hr0 hv hw m (a + 1) (a : Int) _ _ M2 _ _ (by omega) (by omega) (by omega) (BsI_new hv hr0 ha4 hw y4) hx2 y1 fr2 q
      have skip : ¬ (f = -1 ∨ fa * (kpt M w a B).2 < (kpt M w a B).1 * fb) → vw X (d + 5) 139 89 [vR 0, vI (w : Int), vI f, vL fa, vN, vL fb, vN, vI (a : Int), vL (kpt M w a B).1, vN, vL (kpt M w a B).2, vN] [] M2 Q := fun z => by
        rw [if_neg (fun y => z (hc.mpr y))] at q
        refine B_X_best_89 ?_
        rw [nx ()]
        exact LP_X_best hr0 hv hw m (a + 1) f fa fb M2 _ _ (by omega) hf (by omega) hI hx2 y1 fr2 q
      refine B_X_best_59 (fun z => take (Or.inl z)) (fun z => ?_)
      have hI2 := hI.resolve_left z
      have c1 := bd_m hb.1 hI2.2.2.1
      have c2 := bd_m hI2.2.1 hb.2.1
      refine B_X_best_66 (fun z2 => ?_) (fun z2 => ?_) <;> rw [bd64 c1 (by decide), bd64 (x := fa * lpD (lA M a (w + 1)) B) c2 (by decide)] at z2
      · refine skip (fun y => ?_)
        rcases y with y | y
        · exact z y
        · exact absurd y (Int.not_lt.mpr z2)
      · exact take (Or.inr z2)
    · rw [eA, eC, en, em] at y3
      rw [bv_no hv hA y3, nxt] at q
      rw [nx ()]
      exact LP_X_best hr0 hv hw m (a + 1) f fa fb M2 _ _ (by omega) hf (by omega) hI (fun b hb => by by_cases z : b = a; rw [z]; exact Or.inr ⟨B, y3⟩; exact hx b (by omega)) y1 (fr.trans y2) q
end BE
