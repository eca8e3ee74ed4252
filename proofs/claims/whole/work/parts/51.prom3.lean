/-! PROMISES: the reference works out what it is asked -/
def QP (N : vM) (P : PrP) : Prop := (∀ e : Nat, e < 2 → N 98 e = pr_c P e ∧ 0 ≤ pr_c P e ∧ pr_c P e ≤ 12) ∧ (∀ e : Nat, e < 2 → N 99 e = pr_p P e ∧ 0 ≤ pr_p P e ∧ pr_p P e ≤ 12) ∧ N 81 28 = P.2.2.2.2 ∧ 0 ≤ P.2.2.2.2 ∧ P.2.2.2.2 ≤ 99
def sQT (at' b j : Nat) : Prop := (b = 100 ∧ j = at') ∨ (b = 101 ∧ 4 * at' ≤ j ∧ j < 4 * at' + 4)
def QT (M0 M1 : vM) (at' : Nat) (s : Int × Int) : Prop := vRefs M1 ∧ Fr (sQT at') M0 M1 ∧ M1 100 at' = s.1 ∧ (s.1 ≠ vNO → ∀ i : Nat, i < 4 → M1 101 (4 * at' + i) = pr_dig s.2 i)
theorem QP_fr {N N1 : vM} {P : PrP} (f : ∀ b j : Nat, b ≠ 100 → b ≠ 101 → N1 b j = N b j) (h : QP N P) : QP N1 P := ⟨fun e he => by rw [f 98 e (by decide) (by decide)]; exact h.1 e he, fun e he => by rw [f 99 e (by decide) (by decide)]; exact h.2.1 e he, by rw [f 81 28 (by decide) (by decide)]; exact h.2.2.1, h.2.2.2⟩
theorem QP_of {M : vM} (hr : Rel M) : QP M (pr_P M) := by
  obtain ⟨q1, q2, q3, q4, -⟩ := hr.2.2.2.1
  refine ⟨fun e he => ?_, fun e he => ?_, q3, q4⟩
  · rw [(pr_ce M he).1]; exact q1 e he
  · rw [(pr_ce M he).2]; exact q2 e he
theorem QT_set {M0 M : vM} {at' : Nat} {s : Int × Int} {P : PrP} {sc : Int} {r : Int → Int} {w : Int} {e a u v : Nat} (ha : a < 7) (hu : u < 13) (hv : v < 13) (h : QT M0 M at' s) (ok : pr_ok P r w e a u v = true) (hlt : s.1 < pr_v P sc r e a u v)
    (hR : vRefs (vm_up (vm_up (vm_up (vm_up (vm_up M 100 at' (pr_v P sc r e a u v)) 101 (4 * at') e) 101 (4 * at' + 1) a) 101 (4 * at' + 2) u) 101 (4 * at' + 3) v)) :
    QT M0 (vm_up (vm_up (vm_up (vm_up (vm_up M 100 at' (pr_v P sc r e a u v)) 101 (4 * at') e) 101 (4 * at' + 1) a) 101 (4 * at' + 2) u) 101 (4 * at' + 3) v) at' (pr_st P sc r w e a u v ((e * 1183 + a * 169 + u * 13 + v : Nat) : Int) s) := by
  obtain ⟨h1, h2, h3⟩ := h
  obtain ⟨g0, g1, g2, g3⟩ := pr_dig_k (e := e) ha hu hv
  have es : pr_st P sc r w e a u v ((e * 1183 + a * 169 + u * 13 + v : Nat) : Int) s = (pr_v P sc r e a u v, ((e * 1183 + a * 169 + u * 13 + v : Nat) : Int)) := if_pos ⟨ok, hlt⟩
  rw [es]
  refine ⟨hR, ((((h2.up (by unfold sQT; omega)).up (by unfold sQT; omega)).up (by unfold sQT; omega)).up (by unfold sQT; omega)).up (by unfold sQT; omega), ?_, fun _ i hi => ?_⟩
  · rw [vm_up_o (by omega), vm_up_o (by omega), vm_up_o (by omega), vm_up_o (by omega), vm_up_s]
  · rw [vm_up_at, vm_up_at, vm_up_at, vm_up_at]
    rcases (show i = 0 ∨ i = 1 ∨ i = 2 ∨ i = 3 by omega) with rfl | rfl | rfl | rfl
    · rw [if_neg (by omega), if_neg (by omega), if_neg (by omega), if_pos (by omega), g0]
    · rw [if_neg (by omega), if_neg (by omega), if_pos rfl, g1]
    · rw [if_neg (by omega), if_pos rfl, g2]
    · rw [if_pos rfl, g3]
theorem QT_id {M0 M : vM} {at' : Nat} {s : Int × Int} {P : PrP} {sc : Int} {r : Int → Int} {w k : Int} {e a u v : Nat} (h : QT M0 M at' s) (ok : ¬ (pr_ok P r w e a u v = true ∧ s.1 < pr_v P sc r e a u v)) : QT M0 M at' (pr_st P sc r w e a u v k s) := by
  have es : pr_st P sc r w e a u v k s = s := if_neg ok
  rw [es]
  exact h
section PM
variable {X : vX} {d : Nat} {M : vM} {Q : Option vV → vM → Prop} {l0 l1 l2 l3 l4 l5 a0 a1 a2 : Int}
theorem S_R_hasOf {P : PrP} (hR : vRefs M) (hP : QP M P) {e a u v : Nat} (he : e < 2) (ha : a < 7) (hu : u < 13) (hv : v < 13) (k : Q (some (vI (pr_h P e a u v))) M) : cq X (d + 1) 226 [vR 81, vI (e : Int), vI (a : Int), vI (u : Int), vI (v : Int)] M Q := by
  have c := hP.1 e he
  have p := hP.2.1 e he
  have b1 := mul_b (a := pr_p P e) (A := 12) (b := (u : Int)) (B := 12) p.2 (by omega)
  have b2 := mul_b (a := 12 - pr_p P e) (A := 12) (b := (v : Int)) (B := 12) (by omega) (by omega)
  refine E_R_hasOf (B_R_hasOf_0 hR (by omega) (by omega) (by omega) (q_i k ?_))
  rw [Int.toNat_natCast, c.1, p.1, w32_i (x := (a : Int) - pr_c P e) (by omega), w32_i (x := 12 * ((a : Int) - pr_c P e)) (by omega), w32_i (x := pr_p P e * u) (by omega), w32_i (x := 12 - pr_p P e) (by omega), w32_i (x := (12 - pr_p P e) * v) (by omega), w32_i (x := 12 * ((a : Int) - pr_c P e) + pr_p P e * u) (by omega), w32_i (by omega)]
  rfl
theorem S_R_ft {M0 : vM} {T at' : Nat} {w : Nat} {s : Int × Int} {P : PrP} {sc : Int} {r : Int → Int} {e a u v : Nat} {w10 w12 w14 : vV} (hT : T ≤ 5) (hw : w < 13) (hat : at' = 13 * (T + 1) + w) (hP : QP M0 P) (hrow : ∀ u : Nat, u < 13 → M0 100 (13 * T + u) = r u) (hr : RB r) (hsc : 0 ≤ sc ∧ sc ≤ 248832) (he : e < 2) (ha : a < 7) (hu : u < 13) (hv : v < 13) (h : QT M0 M at' s)
    (k : ∀ M1 w10 w12 w14, QT M0 M1 at' (pr_st P sc r w e a u v ((e * 1183 + a * 169 + u * 13 + v : Nat) : Int) s) → vw X (d + 1) 227 50 [vR 81, vI ((T + 1 : Nat) : Int), vI (w : Int), vL sc, vN, vI (at' : Int), vI (e : Int), vI (a : Int), vI (u : Int), vI ((v + 1 : Nat) : Int), w10, vN, w12, vN, w14, vN] [] M1 Q) :
    vw X (d + 1) 227 57 [vR 81, vI ((T + 1 : Nat) : Int), vI (w : Int), vL sc, vN, vI (at' : Int), vI (e : Int), vI (a : Int), vI (u : Int), vI (v : Int), w10, vN, w12, vN, w14, vN] [] M Q := by
  have hR := h.1
  have f := h.2.1
  have hPM : QP M P := QP_fr (fun b j h1 h2 => f b j (by unfold sQT; omega)) hP
  have hrM : ∀ u : Nat, u < 13 → M 100 (13 * T + u) = r u := fun u hu => by rw [f 100 (13 * T + u) (by unfold sQT; omega)]; exact hrow u hu
  have nx : w32 ((v : Int) + 1) = ((v + 1 : Nat) : Int) := by rw [w32_i (by omega)]; omega
  have nok : ∀ {w10 w12 w14}, (pr_ok P r w e a u v = true → False) → vw X (d + 1) 227 50 [vR 81, vI ((T + 1 : Nat) : Int), vI (w : Int), vL sc, vN, vI (at' : Int), vI (e : Int), vI (a : Int), vI (u : Int), vI (w32 ((v : Int) + 1)), w10, vN, w12, vN, w14, vN] [] M Q := fun hh => by
    rw [nx]
    exact k M _ _ _ (QT_id h (fun z => hh z.1))
  have okd : pr_ok P r w e a u v = true ↔ r u ≠ vNO ∧ r v ≠ vNO ∧ pr_h P e a u v = 12 * w ∧ pr_h P (1 - e) a u v ≤ 12 * w := by
    unfold pr_ok
    simp
  have i1 : w32 (w32 (13 * w32 (((T + 1 : Nat) : Int) - 1)) + (u : Int)) = ((13 * T + u : Nat) : Int) := by rw [w32_i (x := ((T + 1 : Nat) : Int) - 1) (by omega), w32_i (x := 13 * (((T + 1 : Nat) : Int) - 1)) (by omega), w32_i (by omega)]; omega
  have i2 : w32 (w32 (13 * w32 (((T + 1 : Nat) : Int) - 1)) + (v : Int)) = ((13 * T + v : Nat) : Int) := by rw [w32_i (x := ((T + 1 : Nat) : Int) - 1) (by omega), w32_i (x := 13 * (((T + 1 : Nat) : Int) - 1)) (by omega), w32_i (by omega)]; omega
  have w12' : w32 (12 * (w : Int)) = 12 * w := w32_i (by omega)
  have eo : w32 (1 - (e : Int)) = ((1 - e : Nat) : Int) := by rw [w32_i (by omega)]; omega
  have eo2 : ((1 - e : Nat) : Int) = 1 - (e : Int) := by omega
  refine B_R_findTerm_57 hR (by rw [i1]; omega) (by rw [i2]; omega) (fun h1 => B_R_findTerm_283 (nok (fun z => ?_))) (fun h1 => ?_)
  · rw [i1, Int.toNat_natCast, hrM u hu] at h1
    exact (okd.mp z).1 h1
  rw [i1, i2, Int.toNat_natCast, Int.toNat_natCast, hrM u hu, hrM v hv]
  rw [i1, Int.toNat_natCast, hrM u hu] at h1
  refine B_R_findTerm_98 (fun h2 => B_R_findTerm_283 (nok (fun z => (okd.mp z).2.1 h2))) (fun h2 => B_R_findTerm_107 (S_R_hasOf hR hPM he ha hu hv (B_R_findTerm_119 (fun h3 => B_R_findTerm_283 (nok (fun z => ?_))) (fun h3 => B_R_findTerm_126 ?_))))
  · rw [w12'] at h3
    exact h3 (okd.mp z).2.2.1
  rw [w12'] at h3
  rw [eo]
  refine S_R_hasOf hR hPM (e := 1 - e) (by omega) ha hu hv (B_R_findTerm_140 (fun h4 => B_R_findTerm_283 (nok (fun z => ?_))) (fun h4 => ?_))
  · rw [w12', eo2] at h4
    have := (okd.mp z).2.2.2
    omega
  rw [w12', eo2] at h4
  have ok : pr_ok P r w e a u v = true := okd.mpr ⟨h1, h2, h3, h4⟩
  have bu := hr u (by omega) (by omega)
  have bv := hr v (by omega) (by omega)
  have bu2 : -200000000 ≤ r u ∧ r u ≤ 200000000 := by rcases bu with q | q; exact absurd q h1; exact q
  have bv2 : -200000000 ≤ r v ∧ r v ≤ 200000000 := by rcases bv with q | q; exact absurd q h2; exact q
  have p := hPM.2.1 e he
  have m1 := mul_sb p.2 bu2
  have m2 := mul_sb (a := 12 - pr_p P e) (by omega) bv2
  have g := mul_b (a := pr_p P e) (A := 12) (b := P.2.2.2.2) (B := 99) p.2 hPM.2.2.2
  have t2 := mul_s' (b := sc) (B := 248832) (a := pr_p P e * P.2.2.2.2 - 12 * a) (A := 1188) hsc (by omega)
  have es : w64 (w64 (w64 (sc * w32 (w32 (M 99 e * M 81 28) - w32 (12 * (a : Int)))) + w64 (M 99 e * r u)) + w64 (w32 (12 - M 99 e) * r v)) = pr_v P sc r e a u v := by
    rw [p.1, hPM.2.2.1, w32_i (x := pr_p P e * P.2.2.2.2) (by omega), w32_i (x := 12 * (a : Int)) (by omega), w32_i (x := pr_p P e * P.2.2.2.2 - 12 * (a : Int)) (by omega), w32_i (x := 12 - pr_p P e) (by omega), w64_i (x := sc * (pr_p P e * P.2.2.2.2 - 12 * (a : Int))) (by omega), w64_i (x := pr_p P e * r u) (by omega), w64_i (x := (12 - pr_p P e) * r v) (by omega), w64_i (x := sc * (pr_p P e * P.2.2.2.2 - 12 * (a : Int)) + pr_p P e * r u) (by omega), w64_i (by omega)]
    rfl
  have vb : vNO < pr_v P sc r e a u v := by
    show (-9223372036854775808 : Int) < sc * (pr_p P e * P.2.2.2.2 - 12 * a) + pr_p P e * r u + (12 - pr_p P e) * r v
    omega
  have j1 : w32 (4 * (at' : Int)) = ((4 * at' : Nat) : Int) := by rw [w32_i (by omega)]; omega
  have j2 : w32 (((4 * at' : Nat) : Int) + 1) = ((4 * at' + 1 : Nat) : Int) := by rw [w32_i (by omega)]; omega
  have j3 : w32 (((4 * at' : Nat) : Int) + 2) = ((4 * at' + 2 : Nat) : Int) := by rw [w32_i (by omega)]; omega
  have j4 : w32 (((4 * at' : Nat) : Int) + 3) = ((4 * at' + 3 : Nat) : Int) := by rw [w32_i (by omega)]; omega
  have set : ∀ {w10 w12 : vV} {l10 l12 : Int}, s.1 < pr_v P sc r e a u v → vw X (d + 1) 227 224 [vR 81, vI ((T + 1 : Nat) : Int), vI (w : Int), vL sc, vN, vI (at' : Int), vI (e : Int), vI (a : Int), vI (u : Int), vI (v : Int), vL l10, vN, vL l12, vN, vL (pr_v P sc r e a u v), vN] [] M Q := fun {w10 w12 l10 l12} hl => by
    refine B_R_findTerm_224 hR (by omega) (by rw [j1]; omega) (by rw [j1, j2]; omega) (by rw [j1, j3]; omega) (by rw [j1, j4]; omega) (fun hR2 => ?_)
    rw [j1, j2, j3, j4] at hR2 ⊢
    simp only [Int.toNat_natCast] at hR2 ⊢
    rw [nx]
    exact k _ _ _ _ (QT_set ha hu hv h ok hl hR2)
  refine B_R_findTerm_147 hR (by omega) (by omega) (by omega) (by omega) (fun h5 => ?_) (fun h5 => ?_)
  · rw [Int.toNat_natCast, h.2.2.1] at h5
    rw [Int.toNat_natCast, es]
    exact set (w10 := vN) (w12 := vN) (by rw [h5]; exact vb)
  · rw [Int.toNat_natCast, es]
    refine B_R_findTerm_211 hR (by omega) (fun h6 => B_R_findTerm_283 ?_) (fun h6 => ?_)
    · rw [Int.toNat_natCast, h.2.2.1] at h6
      rw [nx]
      exact k M _ _ _ (QT_id h (fun z => by have := z.2; omega))
    · rw [Int.toNat_natCast, h.2.2.1] at h6
      exact set (w10 := vN) (w12 := vN) h6
theorem QT_next {M0 M : vM} {at' K : Nat} {P : PrP} {sc w : Int} {r : Int → Int} {e a u v : Nat} (ha : a < 7) (hu : u < 13) (hv : v < 13) (hK : K = e * 1183 + a * 169 + u * 13 + v) (h : QT M0 M at' (pr_st P sc r w e a u v ((e * 1183 + a * 169 + u * 13 + v : Nat) : Int) (prS P sc r K w))) : QT M0 M at' (prS P sc r (K + 1) w) := by
  subst hK
  have := pr_scan_next P sc r w (e := e) ha hu hv
  rw [← this] at h
  exact h
theorem LP_R_d {M0 : vM} {T at' : Nat} {w : Nat} {P : PrP} {sc : Int} {r : Int → Int} {e a u : Nat} (hT : T ≤ 5) (hw : w < 13) (hat : at' = 13 * (T + 1) + w) (hP : QP M0 P) (hrow : ∀ u : Nat, u < 13 → M0 100 (13 * T + u) = r u) (hr : RB r) (hsc : 0 ≤ sc ∧ sc ≤ 248832) (he : e < 2) (ha : a < 7) (hu : u < 13) :
    ∀ (n v K : Nat) (M : vM) (w10 w12 w14 : vV), v + n = 13 → K = e * 1183 + a * 169 + u * 13 + v → QT M0 M at' (prS P sc r K w) → (∀ M1 l9 w10 w12 w14 K, K = e * 1183 + a * 169 + (u + 1) * 13 → QT M0 M1 at' (prS P sc r K w) → vw X (d + 1) 227 289 [vR 81, vI ((T + 1 : Nat) : Int), vI (w : Int), vL sc, vN, vI (at' : Int), vI (e : Int), vI (a : Int), vI (u : Int), vI l9, w10, vN, w12, vN, w14, vN] [] M1 Q) → vw X (d + 1) 227 50 [vR 81, vI ((T + 1 : Nat) : Int), vI (w : Int), vL sc, vN, vI (at' : Int), vI (e : Int), vI (a : Int), vI (u : Int), vI (v : Int), w10, vN, w12, vN, w14, vN] [] M Q
  | 0, v, K, M, w10, w12, w14, hn, hK, h, k => B_R_findTerm_50 (fun _ => k M _ _ _ _ K (K_1 hK hn) h) (fun h => by exfalso; omega)
  | n + 1, v, K, M, w10, w12, w14, hn, hK, h, k => by
    have hv : v < 13 := by omega
    refine B_R_findTerm_50 (fun h => by exfalso; omega) (fun _ => S_R_ft hT hw hat hP hrow hr hsc he ha hu hv h (fun M1 w10 w12 w14 h1 => ?_))
    exact LP_R_d hT hw hat hP hrow hr hsc he ha hu n (v + 1) (K + 1) M1 _ _ _ (by omega) (K_2 hK) (QT_next ha hu hv hK h1) k
theorem LP_R_u {M0 : vM} {T at' : Nat} {w : Nat} {P : PrP} {sc : Int} {r : Int → Int} {e a : Nat} (hT : T ≤ 5) (hw : w < 13) (hat : at' = 13 * (T + 1) + w) (hP : QP M0 P) (hrow : ∀ u : Nat, u < 13 → M0 100 (13 * T + u) = r u) (hr : RB r) (hsc : 0 ≤ sc ∧ sc ≤ 248832) (he : e < 2) (ha : a < 7) :
    ∀ (n u K : Nat) (M : vM) (w9 w10 w12 w14 : vV), u + n = 13 → K = e * 1183 + a * 169 + u * 13 → QT M0 M at' (prS P sc r K w) → (∀ M1 l8 w9 w10 w12 w14 K, K = e * 1183 + (a + 1) * 169 → QT M0 M1 at' (prS P sc r K w) → vw X (d + 1) 227 295 [vR 81, vI ((T + 1 : Nat) : Int), vI (w : Int), vL sc, vN, vI (at' : Int), vI (e : Int), vI (a : Int), vI l8, w9, w10, vN, w12, vN, w14, vN] [] M1 Q) → vw X (d + 1) 227 40 [vR 81, vI ((T + 1 : Nat) : Int), vI (w : Int), vL sc, vN, vI (at' : Int), vI (e : Int), vI (a : Int), vI (u : Int), w9, w10, vN, w12, vN, w14, vN] [] M Q
  | 0, u, K, M, w9, w10, w12, w14, hn, hK, h, k => B_R_findTerm_40 (fun _ => k M _ _ _ _ _ K (K_3 hK hn) h) (fun h => by exfalso; omega)
  | n + 1, u, K, M, w9, w10, w12, w14, hn, hK, h, k => by
    have hu : u < 13 := by omega
    have nx : w32 ((u : Int) + 1) = ((u + 1 : Nat) : Int) := by rw [w32_i (by omega)]; omega
    refine B_R_findTerm_40 (fun h => by exfalso; omega) (fun _ => B_R_findTerm_47 (LP_R_d hT hw hat hP hrow hr hsc he ha hu 13 0 K M _ _ _ (by omega) (K_4 hK) h (fun M1 l9 w10 w12 w14 K1 hK1 h1 => B_R_findTerm_289 ?_)))
    rw [nx]
    exact LP_R_u hT hw hat hP hrow hr hsc he ha n (u + 1) K1 M1 _ _ _ _ (by omega) hK1 h1 k
theorem LP_R_a {M0 : vM} {T at' : Nat} {w : Nat} {P : PrP} {sc : Int} {r : Int → Int} {e : Nat} (hT : T ≤ 5) (hw : w < 13) (hat : at' = 13 * (T + 1) + w) (hP : QP M0 P) (hrow : ∀ u : Nat, u < 13 → M0 100 (13 * T + u) = r u) (hr : RB r) (hsc : 0 ≤ sc ∧ sc ≤ 248832) (he : e < 2) :
    ∀ (n a K : Nat) (M : vM) (w8 w9 w10 w12 w14 : vV), a + n = 7 → K = e * 1183 + a * 169 → QT M0 M at' (prS P sc r K w) → (∀ M1 l7 w8 w9 w10 w12 w14 K, K = (e + 1) * 1183 → QT M0 M1 at' (prS P sc r K w) → vw X (d + 1) 227 301 [vR 81, vI ((T + 1 : Nat) : Int), vI (w : Int), vL sc, vN, vI (at' : Int), vI (e : Int), vI l7, w8, w9, w10, vN, w12, vN, w14, vN] [] M1 Q) → vw X (d + 1) 227 30 [vR 81, vI ((T + 1 : Nat) : Int), vI (w : Int), vL sc, vN, vI (at' : Int), vI (e : Int), vI (a : Int), w8, w9, w10, vN, w12, vN, w14, vN] [] M Q
  | 0, a, K, M, w8, w9, w10, w12, w14, hn, hK, h, k => B_R_findTerm_30 (fun _ => k M _ _ _ _ _ _ K (K_5 hK hn) h) (fun h => by exfalso; omega)
  | n + 1, a, K, M, w8, w9, w10, w12, w14, hn, hK, h, k => by
    have ha : a < 7 := by omega
    have nx : w32 ((a : Int) + 1) = ((a + 1 : Nat) : Int) := by rw [w32_i (by omega)]; omega
    refine B_R_findTerm_30 (fun h => by exfalso; omega) (fun _ => B_R_findTerm_37 (LP_R_u hT hw hat hP hrow hr hsc he ha 13 0 K M _ _ _ _ (by omega) (K_6 hK) h (fun M1 l8 w9 w10 w12 w14 K1 hK1 h1 => B_R_findTerm_295 ?_)))
    rw [nx]
    exact LP_R_a hT hw hat hP hrow hr hsc he n (a + 1) K1 M1 _ _ _ _ _ (by omega) hK1 h1 k
theorem LP_R_e {M0 : vM} {T at' : Nat} {w : Nat} {P : PrP} {sc : Int} {r : Int → Int} (hT : T ≤ 5) (hw : w < 13) (hat : at' = 13 * (T + 1) + w) (hP : QP M0 P) (hrow : ∀ u : Nat, u < 13 → M0 100 (13 * T + u) = r u) (hr : RB r) (hsc : 0 ≤ sc ∧ sc ≤ 248832) :
    ∀ (n e K : Nat) (M : vM) (w7 w8 w9 w10 w12 w14 : vV), e + n = 2 → K = e * 1183 → QT M0 M at' (prS P sc r K w) → (∀ M1, QT M0 M1 at' (prS P sc r 2366 w) → Q none M1) → vw X (d + 1) 227 21 [vR 81, vI ((T + 1 : Nat) : Int), vI (w : Int), vL sc, vN, vI (at' : Int), vI (e : Int), w7, w8, w9, w10, vN, w12, vN, w14, vN] [] M Q
  | 0, e, K, M, w7, w8, w9, w10, w12, w14, hn, hK, h, k => by
    have : K = 2366 := K_8 hK hn
    subst this
    exact B_R_findTerm_21 (fun _ => B_R_findTerm_307 (k M h)) (fun h => by exfalso; omega)
  | n + 1, e, K, M, w7, w8, w9, w10, w12, w14, hn, hK, h, k => by
    have he : e < 2 := by omega
    have nx : w32 ((e : Int) + 1) = ((e + 1 : Nat) : Int) := by rw [w32_i (by omega)]; omega
    refine B_R_findTerm_21 (fun h => by exfalso; omega) (fun _ => B_R_findTerm_27 (LP_R_a hT hw hat hP hrow hr hsc he 7 0 K M _ _ _ _ _ (by omega) (K_6 hK) h (fun M1 l7 w8 w9 w10 w12 w14 K1 hK1 h1 => B_R_findTerm_301 ?_)))
    rw [nx]
    exact LP_R_e hT hw hat hP hrow hr hsc n (e + 1) K1 M1 _ _ _ _ _ _ (by omega) hK1 h1 k
theorem S_R_findTerm {T : Nat} {w : Nat} {P : PrP} {sc : Int} {r : Int → Int} (hT : T ≤ 5) (hw : w < 13) (hR : vRefs M) (hP : QP M P) (hrow : ∀ u : Nat, u < 13 → M 100 (13 * T + u) = r u) (hr : RB r) (hsc : 0 ≤ sc ∧ sc ≤ 248832) (k : ∀ M1, QT M M1 (13 * (T + 1) + w) (prS P sc r 2366 w) → Q none M1) : cq X (d + 2) 227 [vR 81, vI ((T + 1 : Nat) : Int), vI (w : Int), vL sc] M Q := by
  have i1 : w32 (w32 (13 * ((T + 1 : Nat) : Int)) + (w : Int)) = ((13 * (T + 1) + w : Nat) : Int) := by rw [w32_i (x := 13 * ((T + 1 : Nat) : Int)) (by omega), w32_i (by omega)]; omega
  refine E_R_findTerm (B_R_findTerm_0 hR (by rw [i1]; omega) (fun hR2 => ?_))
  rw [i1, Int.toNat_natCast] at hR2 ⊢
  exact LP_R_e hT hw rfl hP hrow hr hsc 2 0 0 _ _ _ _ _ _ _ (by omega) rfl ⟨hR2, Fr.refl.up (by unfold sQT; omega), vm_up_s, fun q => absurd rfl q⟩ k
/-- what the reference has worked out: T terms, of the next one W rows -/
def RS (M M1 : vM) (T W : Nat) : Prop := vRefs M1 ∧ Fr (fun b _ => b = 100 ∨ b = 101) M M1 ∧ ∀ t w : Nat, w < 13 → (t ≤ T ∨ (t = T + 1 ∧ w < W)) → M1 100 (13 * t + w) = pr_row (pr_P M) t w ∧ (1 ≤ t → pr_row (pr_P M) t w ≠ vNO → ∀ i : Nat, i < 4 → M1 101 (4 * (13 * t + w) + i) = pr_dig (pr_plan (pr_P M) t w) i)
theorem LP_R_w (hr : Rel M) {T : Nat} (hT : T ≤ 5) : ∀ (n w : Nat) (M1 : vM), w + n = 13 → RS M M1 T w → (∀ M1 l5, RS M M1 T 13 → vw X (d + 2) 228 67 [vR 81, vI l1, vL (12 ^ T), vN, vI ((T + 1 : Nat) : Int), vI l5] [] M1 Q) → vw X (d + 2) 228 45 [vR 81, vI l1, vL (12 ^ T), vN, vI ((T + 1 : Nat) : Int), vI (w : Int)] [] M1 Q
  | 0, w, M1, hn, h, k => by
    have : w = 13 := by omega
    subst this
    exact B_R_findSums_45 (fun _ => k M1 _ h) (fun h => by exfalso; omega)
  | n + 1, w, M1, hn, h, k => by
    obtain ⟨hR, f, h3⟩ := h
    have b1 := (pr_bd_5 ⟨T, by omega⟩).2
    have b0 : (0 : Int) < 12 ^ T := Int.pow_pos (by decide)
    have nx : w32 ((w : Int) + 1) = ((w + 1 : Nat) : Int) := by rw [w32_i (by omega)]; omega
    refine B_R_findSums_45 (fun h => by exfalso; omega) (fun _ => B_R_findSums_52 (S_R_findTerm (P := pr_P M) (r := pr_row (pr_P M) T) hT (show w < 13 by omega) hR (QP_fr (fun b j h1 h2 => f b j (by omega)) (QP_of hr)) (fun u hu => (h3 T u hu (Or.inl (Nat.le_refl T))).1) (pr_RB (RP_PB hr) hT) ⟨by omega, b1⟩ (fun M2 h2 => B_R_findSums_61 ?_)))
    rw [nx]
    refine LP_R_w hr hT n (w + 1) M2 (by omega) ⟨h2.1, f.trans (h2.2.1.mono (fun b j q => by unfold sQT at q; omega)), fun t w' hw' ht => ?_⟩ k
    by_cases q : t = T + 1 ∧ w' = w
    · obtain ⟨rfl, rfl⟩ := q
      exact ⟨h2.2.2.1, fun _ hne i hi => h2.2.2.2 hne i hi⟩
    · have q2 : ¬ (13 * t + w' = 13 * (T + 1) + w) := by omega
      rw [h2.2.1 100 (13 * t + w') (by unfold sQT; omega)]
      have old := h3 t w' hw' (by omega)
      refine ⟨old.1, fun h1 hne i hi => ?_⟩
      rw [h2.2.1 101 _ (by unfold sQT; omega)]
      exact old.2 h1 hne i hi
theorem LP_R_t (hr : Rel M) {m : Nat} (hm : m ≤ 6) : ∀ (n T : Nat) (M1 : vM) (w5 : vV), T + n = m → RS M M1 T 0 → (∀ M1, RS M M1 m 0 → Q none M1) → vw X (d + 2) 228 36 [vR 81, vI (m : Int), vL (12 ^ T), vN, vI ((T + 1 : Nat) : Int), w5] [] M1 Q
  | 0, T, M1, w5, hn, h, k => by
    have : T = m := by omega
    subst this
    exact B_R_findSums_36 (fun _ => B_R_findSums_79 (k M1 h)) (fun h => by exfalso; omega)
  | n + 1, T, M1, w5, hn, h, k => by
    have hT : T ≤ 5 := by omega
    have b1 := (pr_bd_5 ⟨T, by omega⟩).2
    have b0 : (0 : Int) < 12 ^ T := Int.pow_pos (by decide)
    simp only at b1
    refine B_R_findSums_36 (fun h => by exfalso; omega) (fun _ => B_R_findSums_42 (LP_R_w hr hT 13 0 M1 (by omega) h (fun M2 l5 h2 => B_R_findSums_67 ?_)))
    rw [w64_i (x := 12 ^ T * 12) (by omega), w32_i (x := ((T + 1 : Nat) : Int) + 1) (by omega), ← Int.pow_succ]
    exact LP_R_t hr hm n (T + 1) M2 _ (by omega) ⟨h2.1, h2.2.1, fun t w hw ht => h2.2.2 t w hw (by omega)⟩ k
theorem LP_R_row0 : ∀ (n w : Nat) (M1 : vM), w + n = 13 → vRefs M1 → Fr (fun b _ => b = 100) M M1 → (∀ i : Nat, i < w → M1 100 i = pr_row (pr_P M) 0 i) → (∀ M1 l2, vRefs M1 → Fr (fun b _ => b = 100) M M1 → (∀ i : Nat, i < 13 → M1 100 i = pr_row (pr_P M) 0 i) → vw X d 228 31 [vR 81, vI l1, vI l2, vN, vN, vN] [] M1 Q) → vw X d 228 2 [vR 81, vI l1, vI (w : Int), vN, vN, vN] [] M1 Q
  | 0, w, M1, hn, hR, f, h, k => by
    have : w = 13 := by omega
    subst this
    exact B_R_findSums_2 (fun _ => k M1 _ hR f h) (fun h => by exfalso; omega)
  | n + 1, w, M1, hn, hR, f, h, k => by
    refine B_R_findSums_2 (fun h => by exfalso; omega) (fun _ => B_R_findSums_8 hR (fun hw => B_R_findSums_21 hR (by omega) (fun hR2 => ?_)) (fun hw => B_R_findSums_17 hR (by omega) (fun hR2 => ?_)))
    all_goals
      rw [Int.toNat_natCast] at hR2 ⊢
      rw [w32_i (x := (w : Int) + 1) (by omega)]
      refine LP_R_row0 n (w + 1) _ (by omega) hR2 (f.up rfl) (fun i hi => ?_) k
      rw [vm_up_at]
      by_cases q : i = w
      · subst q
        rw [if_pos rfl, pr_row]
        first | rw [if_neg (by omega)] | rw [if_pos (by omega)]
      · rw [if_neg q]; exact h i (by omega)
theorem S_R_findSums (hr : Rel M) {m : Nat} (hm : 1 ≤ m ∧ m ≤ 6) (k : ∀ M1, RS M M1 m 0 → Q none M1) : cq X (d + 3) 228 [vR 81, vI (m : Int)] M Q := by
  refine E_R_findSums (B_R_findSums_0 (LP_R_row0 (M := M) 13 0 M (by omega) hr.1 Fr.refl (fun i hi => by omega) (fun M1 l2 hR1 f h => B_R_findSums_31 ?_)))
  refine LP_R_t hr hm.2 m 0 M1 _ (by omega) ⟨hR1, f.mono (fun b j q => Or.inl q), fun t w hw ht => ?_⟩ k
  have : t = 0 := by omega
  subst this
  rw [Nat.mul_zero, Nat.zero_add]
  exact ⟨h w hw, fun q => absurd q (by decide)⟩
theorem RS_fr {M M1 : vM} {T W : Nat} (h : RS M M1 T W) : Fr sTmp M M1 := h.2.1.mono (fun b j q => by unfold sTmp; omega)
end PM
