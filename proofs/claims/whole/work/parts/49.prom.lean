/-! PROMISES: one plan weighed, a term, the table -/
/-- a plan weighed for w -/
def pr_st (P : PrP) (sc : Int) (r : Int → Int) (w e a u d k : Int) (s : Int × Int) : Int × Int := if pr_ok P r w e a u d = true ∧ s.1 < pr_v P sc r e a u d then (pr_v P sc r e a u d, k) else s
theorem pr_scan_s (P : PrP) (sc : Int) (r : Int → Int) (w : Int) (n : Nat) (k : Int) (s : Int × Int) : pr_scan P sc r w (n + 1) k s = pr_scan P sc r w n (k + 1) (pr_st P sc r w (k / 1183) (k / 169 % 7) (k / 13 % 13) (k % 13) k s) := rfl
theorem pr_scan_end (P : PrP) (sc : Int) (r : Int → Int) (w : Int) : ∀ (n : Nat) (k : Int) (s : Int × Int), pr_scan P sc r w (n + 1) k s = pr_st P sc r w ((k + n) / 1183) ((k + n) / 169 % 7) ((k + n) / 13 % 13) ((k + n) % 13) (k + n) (pr_scan P sc r w n k s)
  | 0, k, s => by rw [pr_scan_s, show k + ((0 : Nat) : Int) = k by omega]; rfl
  | n + 1, k, s => by
    rw [pr_scan_s, pr_scan_end P sc r w n (k + 1), pr_scan_s, show k + 1 + (n : Int) = k + ((n + 1 : Nat) : Int) by omega]
theorem pr_scan_next (P : PrP) (sc : Int) (r : Int → Int) (w : Int) {e a u d : Nat} (ha : a < 7) (hu : u < 13) (hd : d < 13) : pr_scan P sc r w (e * 1183 + a * 169 + u * 13 + d + 1) 0 (vNO, 0) = pr_st P sc r w e a u d ((e * 1183 + a * 169 + u * 13 + d : Nat) : Int) (pr_scan P sc r w (e * 1183 + a * 169 + u * 13 + d) 0 (vNO, 0)) := by
  rw [pr_scan_end, Int.zero_add]
  rw [show ((e * 1183 + a * 169 + u * 13 + d : Nat) : Int) / 1183 = e by omega, show ((e * 1183 + a * 169 + u * 13 + d : Nat) : Int) / 169 % 7 = a by omega, show ((e * 1183 + a * 169 + u * 13 + d : Nat) : Int) / 13 % 13 = u by omega, show ((e * 1183 + a * 169 + u * 13 + d : Nat) : Int) % 13 = d by omega]
theorem pr_dig_k {e a u d : Nat} (ha : a < 7) (hu : u < 13) (hd : d < 13) : pr_dig ((e * 1183 + a * 169 + u * 13 + d : Nat) : Int) 0 = e ∧ pr_dig ((e * 1183 + a * 169 + u * 13 + d : Nat) : Int) 1 = a ∧ pr_dig ((e * 1183 + a * 169 + u * 13 + d : Nat) : Int) 2 = u ∧ pr_dig ((e * 1183 + a * 169 + u * 13 + d : Nat) : Int) 3 = d := by
  unfold pr_dig
  simp only [if_true, Nat.reduceEqDiff, if_false]
  exact ⟨by omega, by omega, by omega, by omega⟩
/-- told costs, chances, the good sight's worth -/
def PB (M : vM) : Prop := (∀ e : Nat, e < 2 → 0 ≤ M 31 e ∧ M 31 e ≤ 12) ∧ (∀ e : Nat, e < 2 → 0 ≤ M 32 e ∧ M 32 e ≤ 12) ∧ 0 ≤ M 30 4 ∧ M 30 4 ≤ 99
theorem pr_ce (M : vM) {e : Nat} (he : e < 2) : pr_c (pr_P M) e = M 31 e ∧ pr_p (pr_P M) e = M 32 e := by
  rcases (show e = 0 ∨ e = 1 by omega) with rfl | rfl
  · exact ⟨rfl, rfl⟩
  · exact ⟨rfl, rfl⟩
def PT (M M1 : vM) (T : Nat) (F : Int → Int × Int) : Prop := vRefs M1 ∧ Fr (fun b _ => b = 34 + (T + 1) ∨ b = 42 + (T + 1)) M M1 ∧ ∀ w : Nat, w < 13 → M1 (34 + (T + 1)) w = (F w).1 ∧ ((F w).1 ≠ vNO → ∀ i : Nat, i < 4 → M1 (42 + (T + 1)) (4 * w + i) = pr_dig (F w).2 i)
def RB (r : Int → Int) : Prop := ∀ u : Int, 0 ≤ u → u < 13 → r u = vNO ∨ (-200000000 ≤ r u ∧ r u ≤ 200000000)
theorem mul_sb {a b : Int} (ha : 0 ≤ a ∧ a ≤ 12) (hb : -200000000 ≤ b ∧ b ≤ 200000000) : -2400000000 ≤ a * b ∧ a * b ≤ 2400000000 := by
  have := mul_s' (b := a) (B := 12) (a := b) (A := 200000000) ha hb
  omega
section PR
variable {X : vX} {d : Nat} {M : vM} {Q : Option vV → vM → Prop} {l0 l1 l2 l3 l4 l5 a0 a1 a2 : Int}
theorem S_Pr_isTerm (k : Q (some (vI (if 1 ≤ l0 ∧ l0 ≤ 6 then 1 else 0))) M) : cq X (d + 2) 55 [vI l0] M Q := E_Pr_isTerm (B_Pr_isTerm_0 (S_within (B_Pr_isTerm_7 if01 k)))
theorem S_Pr_isPromise (k : Q (some (vI (if 0 ≤ l0 ∧ l0 ≤ 12 then 1 else 0))) M) : cq X (d + 2) 56 [vI l0] M Q := E_Pr_isPromise (B_Pr_isPromise_0 (S_within (B_Pr_isPromise_7 if01 k)))
theorem S_Pr_followsOf (hR : vRefs M) (hB : PB M) {e u v : Nat} (he : e < 2) (hu : u < 13) (hv : v < 13) (k : 0 ≤ M 32 e * u + (12 - M 32 e) * v → M 32 e * u + (12 - M 32 e) * v ≤ 288 → Q (some (vI (M 32 e * u + (12 - M 32 e) * v))) M) : cq X (d + 1) 64 [vR 30, vI (e : Int), vI (u : Int), vI (v : Int)] M Q := by
  have p := hB.2.1 e he
  have b1 := mul_b (a := M 32 e) (A := 12) (b := (u : Int)) (B := 12) p (by omega)
  have b2 := mul_b (a := 12 - M 32 e) (A := 12) (b := (v : Int)) (B := 12) (by omega) (by omega)
  refine E_Pr_followsOf (B_Pr_followsOf_0 hR (by omega) (by omega) ?_)
  rw [Int.toNat_natCast, w32_i (x := M 32 e * u) (by omega), w32_i (x := 12 - M 32 e) (by omega), w32_i (x := (12 - M 32 e) * v) (by omega), w32_i (by omega)]
  exact k (by omega) (by omega)
theorem S_Pr_isWilling (hR : vRefs M) (hB : PB M) {e u v : Nat} (he : e < 2) (hu : u < 13) (hv : v < 13) (k : Q (some (vI (if M 32 (1 - e) * u + (12 - M 32 (1 - e)) * v - 12 * M 31 (1 - e) ≤ M 32 e * u + (12 - M 32 e) * v - 12 * M 31 e then 1 else 0))) M) : cq X (d + 2) 65 [vR 30, vI (e : Int), vI (u : Int), vI (v : Int)] M Q := by
  have c1 := hB.1 e he
  have c2 := hB.1 (1 - e) (by omega)
  have eo : w32 (1 - (e : Int)) = ((1 - e : Nat) : Int) := by rw [w32_i (by omega)]; omega
  refine E_Pr_isWilling (B_Pr_isWilling_0 (S_Pr_followsOf hR hB he hu hv (fun r1 r2 => ?_)))
  rw [eo]
  refine B_Pr_isWilling_12 hR (by omega) (S_Pr_followsOf hR hB (e := 1 - e) (by omega) hu hv (fun r3 r4 => ?_))
  have e1 : w32 (M 32 e * u + (12 - M 32 e) * v - w32 (12 * M 31 e)) = M 32 e * u + (12 - M 32 e) * v - 12 * M 31 e := by rw [w32_i (x := 12 * M 31 e) (by omega), w32_i (by omega)]
  have e2 : w32 (M 32 (1 - e) * u + (12 - M 32 (1 - e)) * v - w32 (12 * M 31 (1 - e))) = M 32 (1 - e) * u + (12 - M 32 (1 - e)) * v - 12 * M 31 (1 - e) := by rw [w32_i (x := 12 * M 31 (1 - e)) (by omega), w32_i (by omega)]
  refine B_Pr_isWilling_30 hR (by omega) (fun h => B_Pr_isWilling_48 ?_) (fun h => B_Pr_isWilling_44 ?_)
  · rw [Int.toNat_natCast, Int.toNat_natCast, e1, e2] at h
    rw [if_neg (by omega)] at k
    exact k
  · rw [Int.toNat_natCast, Int.toNat_natCast, e1, e2] at h
    rw [if_pos h] at k
    exact k
theorem PT_set {M0 M : vM} {T : Nat} {F : Int → Int × Int} {P : PrP} {sc : Int} {r : Int → Int} {e a u v w : Nat} (ha : a < 7) (hu : u < 13) (hv : v < 13) (hw : w < 13) (h : PT M0 M T F)
    (ok : ∀ w' : Nat, w' < 13 → (pr_ok P r w' e a u v = true ↔ w' = w)) (hlt : (F w).1 < pr_v P sc r e a u v)
    (hR : vRefs (vm_up (vm_up (vm_up (vm_up (vm_up M (34 + (T + 1)) w (pr_v P sc r e a u v)) (42 + (T + 1)) (4 * w) e) (42 + (T + 1)) (4 * w + 1) a) (42 + (T + 1)) (4 * w + 2) u) (42 + (T + 1)) (4 * w + 3) v)) :
    PT M0 (vm_up (vm_up (vm_up (vm_up (vm_up M (34 + (T + 1)) w (pr_v P sc r e a u v)) (42 + (T + 1)) (4 * w) e) (42 + (T + 1)) (4 * w + 1) a) (42 + (T + 1)) (4 * w + 2) u) (42 + (T + 1)) (4 * w + 3) v) T (fun w => pr_st P sc r w e a u v ((e * 1183 + a * 169 + u * 13 + v : Nat) : Int) (F w)) := by
  obtain ⟨h1, h2, h3⟩ := h
  obtain ⟨g0, g1, g2, g3⟩ := pr_dig_k (e := e) ha hu hv
  refine ⟨hR, ((((h2.up (Or.inl rfl)).up (Or.inr rfl)).up (Or.inr rfl)).up (Or.inr rfl)).up (Or.inr rfl), fun w' hw' => ?_⟩
  rw [vm_up_o (by omega), vm_up_o (by omega), vm_up_o (by omega), vm_up_o (by omega), vm_up_at]
  by_cases q : w' = w
  · subst q
    have es : pr_st P sc r w' e a u v ((e * 1183 + a * 169 + u * 13 + v : Nat) : Int) (F w') = (pr_v P sc r e a u v, ((e * 1183 + a * 169 + u * 13 + v : Nat) : Int)) := if_pos ⟨(ok w' hw').mpr rfl, hlt⟩
    dsimp only
    rw [es, if_pos rfl]
    refine ⟨rfl, fun _ i hi => ?_⟩
    rw [vm_up_at, vm_up_at, vm_up_at, vm_up_at]
    rcases (show i = 0 ∨ i = 1 ∨ i = 2 ∨ i = 3 by omega) with rfl | rfl | rfl | rfl
    · rw [if_neg (by omega), if_neg (by omega), if_neg (by omega), if_pos (by omega), g0]
    · rw [if_neg (by omega), if_neg (by omega), if_pos rfl, g1]
    · rw [if_neg (by omega), if_pos rfl, g2]
    · rw [if_pos rfl, g3]
  · have es : pr_st P sc r w' e a u v ((e * 1183 + a * 169 + u * 13 + v : Nat) : Int) (F w') = F w' := if_neg (fun z => q ((ok w' hw').mp z.1))
    dsimp only
    rw [es, if_neg q]
    refine ⟨(h3 w' hw').1, fun hn i hi => ?_⟩
    rw [vm_up_at, vm_up_at, vm_up_at, vm_up_at, if_neg (by omega), if_neg (by omega), if_neg (by omega), if_neg (by omega), vm_up_o (by omega)]
    exact (h3 w' hw').2 hn i hi
theorem PT_id {M0 M : vM} {T : Nat} {F : Int → Int × Int} {P : PrP} {sc : Int} {r : Int → Int} {e a u v : Nat} {k : Int} (h : PT M0 M T F)
    (ok : ∀ w' : Nat, w' < 13 → ¬ (pr_ok P r w' e a u v = true ∧ (F w').1 < pr_v P sc r e a u v)) : PT M0 M T (fun w => pr_st P sc r w e a u v k (F w)) := by
  obtain ⟨h1, h2, h3⟩ := h
  refine ⟨h1, h2, fun w hw => ?_⟩
  have es : pr_st P sc r w e a u v k (F w) = F w := if_neg (ok w hw)
  dsimp only
  rw [es]
  exact h3 w hw
theorem S_Pr_weigh {M0 : vM} {T : Nat} {F : Int → Int × Int} {sc : Int} {r : Int → Int} {now : Int} {e a u v : Nat} (hT : T ≤ 5) (hB : PB M0) (h : PT M0 M T F) (hrow : ∀ u : Nat, u < 13 → M0 (34 + T) u = r u) (hr : RB r) (hnow : now = sc * (pr_p (pr_P M0) e * (pr_P M0).2.2.2.2 - 12 * a)) (hnb : -300000000 ≤ now ∧ now ≤ 300000000) (he : e < 2) (ha : a < 7) (hu : u < 13) (hv : v < 13)
    (k : ∀ M1, PT M0 M1 T (fun w => pr_st (pr_P M0) sc r w e a u v ((e * 1183 + a * 169 + u * 13 + v : Nat) : Int) (F w)) → Q none M1) : cq X (d + 5) 63 [vR 30, vI ((T + 1 : Nat) : Int), vL now, vI (e : Int), vI (a : Int), vI (u : Int), vI (v : Int)] M Q := by
  have hR := h.1
  have f : ∀ b j : Nat, b < 35 → M b j = M0 b j := fun b j hb => h.2.1 b j (by omega)
  have hBM : PB M := by
    unfold PB
    rw [f 30 4 (by omega)]
    exact ⟨fun e he => by rw [f 31 e (by omega)]; exact hB.1 e he, fun e he => by rw [f 32 e (by omega)]; exact hB.2.1 e he, hB.2.2⟩
  have c0 := hB.1 e he
  have p0 := hB.2.1 e he
  have hrT : ∀ u : Nat, u < 13 → M (34 + T) u = r u := fun u hu => by rw [h.2.1 (34 + T) u (by omega)]; exact hrow u hu
  obtain ⟨ec, ep⟩ := pr_ce M0 he
  obtain ⟨ec1, ep1⟩ := pr_ce M0 (e := 1 - e) (by omega)
  have e1 : ((1 - e : Nat) : Int) = 1 - (e : Int) := by omega
  rw [e1] at ec1 ep1
  have nok : ∀ {p : Prop}, (∀ w' : Nat, w' < 13 → pr_ok (pr_P M0) r w' e a u v = true → False) → Q none M := fun hh => k M (PT_id h (fun w' hw' z => hh w' hw' z.1))
  have okd : ∀ w' : Int, pr_ok (pr_P M0) r w' e a u v = true ↔ r u ≠ vNO ∧ r v ≠ vNO ∧ 12 * (a - M0 31 e) + M0 32 e * u + (12 - M0 32 e) * v = 12 * w' ∧ 12 * (a - M0 31 (1 - e)) + M0 32 (1 - e) * u + (12 - M0 32 (1 - e)) * v ≤ 12 * w' := fun w' => by
    unfold pr_ok pr_h
    rw [ec, ep, ec1, ep1]
    simp
  have eT : w32 (((T + 1 : Nat) : Int) - 1) = (T : Int) := by rw [w32_i (by omega)]; omega
  refine E_Pr_weigh (B_Pr_weigh_0 (S_Pr_followsOf hR hBM he hu hv (fun r1 r2 => ?_)))
  rw [f 32 e (by omega)] at r1 r2 ⊢
  have eF : ∃ Fw : Int, M0 32 e * u + (12 - M0 32 e) * v = Fw := ⟨_, rfl⟩
  obtain ⟨Fw, hFw⟩ := eF
  have okd2 : ∀ w' : Int, pr_ok (pr_P M0) r w' e a u v = true → 12 * (a - M0 31 e) + Fw = 12 * w' := fun w' h => by
    have := ((okd w').mp h).2.2.1
    omega
  rw [hFw] at r1 r2 ⊢
  have ei : j_irem Fw 12 = Fw % 12 := by rw [j_irem_eq (by omega) (by omega), Int.tmod_eq_emod_of_nonneg r1]
  have eq : j_idiv Fw 12 = Fw / 12 := by rw [j_idiv_eq (by omega) (by omega), Int.tdiv_eq_ediv_of_nonneg r1]
  refine B_Pr_weigh_10 hR (by omega) (fun hm => B_Pr_weigh_95 ?_) (fun hm => ?_)
  · rw [ei] at hm
    exact nok (p := True) (fun w' _ z => by have := okd2 w' z; omega)
  rw [ei] at hm
  rw [Int.toNat_natCast, f 31 e (by omega), eq, w32_i (x := (a : Int) - M0 31 e) (by omega), w32_i (x := (a : Int) - M0 31 e + Fw / 12) (by omega)]
  refine B_Pr_weigh_38 (S_Pr_isPromise ?_)
  by_cases hw : 0 ≤ (a : Int) - M0 31 e + Fw / 12 ∧ (a : Int) - M0 31 e + Fw / 12 ≤ 12
  · obtain ⟨w, hw2⟩ : ∃ w : Nat, (a : Int) - M0 31 e + Fw / 12 = (w : Int) := ⟨((a : Int) - M0 31 e + Fw / 12).toNat, by omega⟩
    refine B_Pr_weigh_43 (fun h => by rw [if_pos hw] at h; omega) (fun _ => B_Pr_weigh_46 (S_Pr_isWilling hR hBM he hu hv ?_))
    rw [f 31 e (by omega), f 32 e (by omega), f 31 (1 - e) (by omega), f 32 (1 - e) (by omega), hFw, hw2]
    by_cases hwi : M0 32 (1 - e) * u + (12 - M0 32 (1 - e)) * v - 12 * M0 31 (1 - e) ≤ Fw - 12 * M0 31 e
    · have rw1 := hrT u hu
      have rw2 := hrT v hv
      have bu := hr u (by omega) (by omega)
      have bv := hr v (by omega) (by omega)
      refine B_Pr_weigh_56 (fun h => by rw [if_pos hwi] at h; omega) (fun _ => B_Pr_weigh_59 hR (by rw [eT]; omega) (by omega) (fun hn => B_Pr_weigh_95 ?_) (fun hn => B_Pr_weigh_77 hR (by rw [eT]; omega) (by omega) (fun hn2 => ?_) (fun hn2 => B_Pr_weigh_95 ?_)))
      · rw [eT, Int.toNat_natCast, Int.toNat_natCast, rw1] at hn
        exact nok (p := True) (fun w' _ z => ((okd w').mp z).1 hn)
      · rw [eT, Int.toNat_natCast, Int.toNat_natCast, rw1] at hn
        rw [eT, Int.toNat_natCast, Int.toNat_natCast, rw2] at hn2
        have bu2 : -200000000 ≤ r u ∧ r u ≤ 200000000 := by rcases bu with q | q; exact absurd q hn; exact q
        have bv2 : -200000000 ≤ r v ∧ r v ≤ 200000000 := by rcases bv with q | q; exact absurd q hn2; exact q
        have m1 := mul_sb p0 bu2
        have m2 := mul_sb (a := 12 - M0 32 e) (by omega) bv2
        have ev : pr_v (pr_P M0) sc r e a u v = now + M0 32 e * r u + (12 - M0 32 e) * r v := by
          unfold pr_v
          rw [hnow, ep]
        have es : w64 (w64 (now + w64 (M0 32 e * r u)) + w64 (w32 (12 - M0 32 e) * r v)) = pr_v (pr_P M0) sc r e a u v := by
          rw [w32_i (x := 12 - M0 32 e) (by omega), w64_i (x := M0 32 e * r u) (by omega), w64_i (x := (12 - M0 32 e) * r v) (by omega), w64_i (x := now + M0 32 e * r u) (by omega), w64_i (by omega), ev]
        have okw : ∀ w' : Nat, w' < 13 → (pr_ok (pr_P M0) r w' e a u v = true ↔ w' = w) := fun w' _ => by
          rw [okd]
          constructor
          · intro z
            omega
          · rintro rfl
            exact ⟨hn, hn2, by omega, by omega⟩
        refine B_Pr_weigh_96 hR (by omega) (by rw [eT]; omega) (by omega) (by omega) (by rw [eT]; omega) (by omega) (by omega) (by omega) (fun hl => B_Pr_weigh_228 ?_) (fun hl => ?_)
        · rw [eT] at hl
          simp only [Int.toNat_natCast] at hl
          rw [f 32 e (by omega), rw1, rw2, es, (h.2.2 w (by omega)).1] at hl
          refine k M (PT_id h (fun w' hw' z => ?_))
          have := (okw w' hw').mp z.1
          subst this
          omega
        · rw [eT] at hl ⊢
          simp only [Int.toNat_natCast] at hl ⊢
          rw [f 32 e (by omega), rw1, rw2, es] at hl ⊢
          rw [(h.2.2 w (by omega)).1] at hl
          have w4 : w32 ((w : Int) * 4) = ((4 * w : Nat) : Int) := by rw [w32_i (by omega)]; omega
          have w41 : w32 (((4 * w : Nat) : Int) + 1) = ((4 * w + 1 : Nat) : Int) := by rw [w32_i (by omega)]; omega
          have w42 : w32 (((4 * w : Nat) : Int) + 2) = ((4 * w + 2 : Nat) : Int) := by rw [w32_i (by omega)]; omega
          have w43 : w32 (((4 * w : Nat) : Int) + 3) = ((4 * w + 3 : Nat) : Int) := by rw [w32_i (by omega)]; omega
          refine B_Pr_weigh_159 hR (by omega) (by omega) (by omega) (by rw [w4]; omega) (by omega) (by rw [w4, w41]; omega) (by omega) (by rw [w4, w42]; omega) (by omega) (by rw [w4, w43]; omega) (fun hR2 => ?_)
          rw [w4, w41, w42, w43] at hR2 ⊢
          simp only [Int.toNat_natCast] at hR2 ⊢
          exact k _ (PT_set ha hu hv (by omega) h okw hl hR2)
      · rw [eT, Int.toNat_natCast, Int.toNat_natCast, rw2] at hn2
        exact nok (p := True) (fun w' _ z => ((okd w').mp z).2.1 hn2)
    · refine B_Pr_weigh_56 (fun _ => B_Pr_weigh_95 ?_) (fun h => absurd (if_neg hwi) h)
      exact nok (p := True) (fun w' _ z => by have z1 := (okd w').mp z; have := okd2 w' z; omega)
  · refine B_Pr_weigh_43 (fun _ => B_Pr_weigh_95 ?_) (fun h => absurd (if_neg hw) h)
    exact nok (p := True) (fun w' _ z => by have := okd2 w' z; omega)
end PR
