/-! WHAT HOLDS BETWEEN THE CLASS (cells 0 .. 80) AND THE REFERENCE (81 .. 117) -/
def RA (M : vM) : Prop := (2 ≤ M 1 0 ∧ M 1 0 ≤ 4) ∧ M 81 0 = M 1 0 ∧ (0 ≤ M 1 4 ∧ M 1 4 ≤ 4) ∧ M 81 1 = M 1 4 ∧ (0 ≤ M 1 5 ∧ M 1 5 ≤ 99) ∧ M 81 6 = M 1 5 ∧
  (∀ a : Nat, a < 4 → M 82 a = M 2 a ∧ 0 ≤ M 2 a ∧ M 2 a ≤ 99) ∧ (∀ s : Nat, s < 4 → M 84 s = M 12 s ∧ -99 ≤ M 12 s ∧ M 12 s ≤ 99) ∧ (∀ s : Nat, s < 4 → M 85 s = M 78 s ∧ 0 ≤ M 78 s ∧ M 78 s ≤ 999) ∧
  (∀ a w s : Nat, a < 4 → w < 2 → s < 4 → M 83 (12 * a + 4 * w + s) = M (4 + (2 * a + w)) s ∧ 0 ≤ M (4 + (2 * a + w)) s ∧ M (4 + (2 * a + w)) s ≤ 12 ∧ ((M 1 4 ≤ (a : Int) ∨ M 1 0 ≤ (s : Int)) → M (4 + (2 * a + w)) s = 0)) ∧
  (∀ a w : Nat, (a : Int) < M 1 4 → w < 2 → M (4 + (2 * a + w)) 0 + M (4 + (2 * a + w)) 1 + M (4 + (2 * a + w)) 2 + M (4 + (2 * a + w)) 3 = 12)
def RM (M : vM) : Prop := M 29 0 = 0 ∧ ∀ q : Nat, q < 10 → M 96 q = M 29 q ∧ 0 ≤ M 29 q ∧ M 29 q ≤ 9999
/-- the promises: what the one who hires can have, and the first plan that gives it -/
abbrev vNO : Int := -9223372036854775808
abbrev PrP : Type := Int × Int × Int × Int × Int
def pr_P (M : vM) : PrP := (M 31 0, M 31 1, M 32 0, M 32 1, M 30 4)
def pr_c (P : PrP) (e : Int) : Int := if e = 0 then P.1 else P.2.1
def pr_p (P : PrP) (e : Int) : Int := if e = 0 then P.2.2.1 else P.2.2.2.1
def pr_h (P : PrP) (e a u d : Int) : Int := 12 * (a - pr_c P e) + pr_p P e * u + (12 - pr_p P e) * d
def pr_ok (P : PrP) (r : Int → Int) (w e a u d : Int) : Bool := decide (r u ≠ vNO ∧ r d ≠ vNO ∧ pr_h P e a u d = 12 * w ∧ pr_h P (1 - e) a u d ≤ 12 * w)
def pr_v (P : PrP) (sc : Int) (r : Int → Int) (e a u d : Int) : Int := sc * (pr_p P e * P.2.2.2.2 - 12 * a) + pr_p P e * r u + (12 - pr_p P e) * r d
/-- the k-th plan: e, a, u, d -/
def pr_scan (P : PrP) (sc : Int) (r : Int → Int) (w : Int) : Nat → Int → Int × Int → Int × Int
  | 0, _, s => s
  | n + 1, k, s => pr_scan P sc r w n (k + 1) (if pr_ok P r w (k / 1183) (k / 169 % 7) (k / 13 % 13) (k % 13) = true ∧ s.1 < pr_v P sc r (k / 1183) (k / 169 % 7) (k / 13 % 13) (k % 13) then (pr_v P sc r (k / 1183) (k / 169 % 7) (k / 13 % 13) (k % 13), k) else s)
def pr_row (P : PrP) : Nat → Int → Int
  | 0, w => if w = 0 then 0 else vNO
  | t + 1, w => (pr_scan P (12 ^ t) (pr_row P t) w 2366 0 (vNO, 0)).1
def pr_plan (P : PrP) (t : Nat) (w : Int) : Int := (pr_scan P (12 ^ (t - 1)) (pr_row P (t - 1)) w 2366 0 (vNO, 0)).2
def pr_dig (k : Int) (i : Nat) : Int := if i = 0 then k / 1183 else if i = 1 then k / 169 % 7 else if i = 2 then k / 13 % 13 else k % 13
/-- the table that is known -/
def PK (M : vM) : Prop := ∀ t w : Nat, t < 7 → w < 13 → M (34 + t) w = pr_row (pr_P M) t w ∧ (1 ≤ t → pr_row (pr_P M) t w ≠ vNO → ∀ i : Nat, i < 4 → M (42 + t) (4 * w + i) = pr_dig (pr_plan (pr_P M) t w) i)
def RP (M : vM) : Prop := (∀ e : Nat, e < 2 → M 98 e = M 31 e ∧ 0 ≤ M 31 e ∧ M 31 e ≤ 12) ∧ (∀ e : Nat, e < 2 → M 99 e = M 32 e ∧ 0 ≤ M 32 e ∧ M 32 e ≤ 12) ∧ M 81 28 = M 30 4 ∧ (0 ≤ M 30 4 ∧ M 30 4 ≤ 99) ∧ (M 30 5 = 0 ∨ M 30 5 = 1) ∧ (M 30 5 = 1 → PK M)
def RT (M : vM) : Prop := M 81 31 = M 49 3 ∧ (2 ≤ M 49 3 ∧ M 49 3 ≤ 4) ∧ (∀ i : Nat, i < 4 → M 102 i = M 50 i ∧ 0 ≤ M 50 i ∧ M 50 i ≤ 99) ∧ (∀ i : Nat, i < 4 → M 103 i = M 51 i ∧ 0 ≤ M 51 i ∧ M 51 i ≤ 24) ∧ (∀ k : Nat, k < 5 → M 104 k = M 52 k ∧ 0 ≤ M 52 k ∧ M 52 k ≤ 999)
def RC (M : vM) : Prop := M 81 35 = M 53 2 ∧ (0 ≤ M 53 2 ∧ M 53 2 ≤ 999) ∧ (∀ i : Nat, i < 2 → M 105 i = M 54 i ∧ 1 ≤ M 54 i ∧ M 54 i ≤ 9) ∧ (∀ i : Nat, i < 2 → M 106 i = M 55 i ∧ 0 ≤ M 55 i ∧ M 55 i ≤ 9)
/-- a contract: its text in the class, its codes in the reference -/
def KTx (M : vM) (k : Nat) : Prop := (0 ≤ M 67 k ∧ M 67 k ≤ 120) ∧ ∃ c : List Int, kp_all (kp_g (M (59 + k)) (M 67 k).toNat) (M 67 k).toNat = .inr c ∧ c.length ≤ 120 ∧ M 107 k = c.length ∧ ∀ i : Nat, i < c.length → M 108 (120 * k + i) = c.getD i 0
def RK (M : vM) : Prop := M 81 42 = M 56 4 ∧ (0 ≤ M 56 4 ∧ M 56 4 ≤ 120) ∧ (∀ k : Nat, k < 120 → (k : Int) < M 56 4 → M 109 k = M 57 k % 256 ∧ -128 ≤ M 57 k ∧ M 57 k ≤ 127) ∧ M 81 38 = M 56 5 ∧ (0 ≤ M 56 5 ∧ M 56 5 ≤ 8) ∧ ∀ k : Nat, k < 8 → (k : Int) < M 56 5 → KTx M k
def RY (M : vM) : Prop := (0 ≤ M 70 6 ∧ M 70 6 ≤ 60) ∧ M 81 49 = M 70 6 ∧ (0 ≤ M 70 7 ∧ M 70 7 ≤ 65536) ∧ M 81 48 = M 70 7 ∧
  ∀ y : Nat, y < 60 → (y : Int) < M 70 6 → (M 112 y = M 71 y ∧ 0 ≤ M 71 y ∧ M 71 y < 4) ∧ (M 113 y = M 72 y ∧ -1 ≤ M 72 y ∧ M 72 y < M 1 0) ∧ (M 114 y = M 73 y ∧ 0 ≤ M 73 y ∧ M 73 y ≤ 999) ∧ (M 115 y = M 74 y ∧ -99 ≤ M 74 y ∧ M 74 y ≤ 99) ∧ (M 116 y = M 75 y ∧ 0 ≤ M 75 y ∧ M 75 y ≤ 65536) ∧ (M 117 y = M 76 y ∧ 0 ≤ M 76 y ∧ M 76 y ≤ 65536)
def R2 (M : vM) : Prop := (M 81 56 = M 77 0 ∧ 0 ≤ M 77 0 ∧ M 77 0 ≤ 9) ∧ (M 81 57 = M 77 1 ∧ 0 ≤ M 77 1 ∧ M 77 1 ≤ 99) ∧ (M 81 58 = M 77 2 ∧ 0 ≤ M 77 2 ∧ M 77 2 ≤ 99)
def Rel (M : vM) : Prop := vRefs M ∧ RA M ∧ RM M ∧ RP M ∧ RT M ∧ RC M ∧ RK M ∧ RY M ∧ R2 M
theorem j_idiv_eq {x y : Int} (hx : -2147483648 ≤ x ∧ x < 2147483648) (hy : 0 < y ∧ y < 2147483648) : j_idiv x y = x.tdiv y := by
  have e1 : (Int32.ofInt x).toInt = x := vm_small (by omega) (by omega)
  have e2 : (Int32.ofInt y).toInt = y := vm_small (by omega) (by omega)
  unfold j_idiv
  rw [Int32.toInt_div, e1, e2]
  have h1 : (x.tdiv y).natAbs ≤ x.natAbs := by
    rw [Int.natAbs_tdiv]
    exact Nat.div_le_self _ _
  have e : ((Int32.size : Nat) : Int) = 4294967296 := rfl
  by_cases hq : x.tdiv y = 2147483648
  · exfalso
    have : x.natAbs ≥ 2147483648 := by omega
    have hx2 : x = -2147483648 := by omega
    subst hx2
    have h3 : (-2147483648 : Int).tdiv y = -((2147483648 : Int).tdiv y) := Int.neg_tdiv 2147483648 y
    have h4 : 0 ≤ (2147483648 : Int).tdiv y := Int.tdiv_nonneg (by omega) (by omega)
    omega
  · first
      | exact Int.bmod_eq_of_le (by omega) (by omega)
      | (rw [w32_bmod]; exact w32_id (by omega) (by omega))
theorem j_irem_eq {x y : Int} (hx : -2147483648 ≤ x ∧ x < 2147483648) (hy : 0 < y ∧ y < 2147483648) : j_irem x y = x.tmod y := by
  have e1 : (Int32.ofInt x).toInt = x := vm_small (by omega) (by omega)
  have e2 : (Int32.ofInt y).toInt = y := vm_small (by omega) (by omega)
  unfold j_irem
  rw [rem_toInt, e1, e2]
theorem j_div10 {x : Int} (h0 : 0 ≤ x) (h1 : x < 2147483648) : j_idiv x 10 = x / 10 := by rw [j_idiv_eq (by omega) (by omega), Int.tdiv_eq_ediv_of_nonneg h0]
theorem j_rem10 {x : Int} (h0 : 0 ≤ x) (h1 : x < 2147483648) : j_irem x 10 = x % 10 := by rw [j_irem_eq (by omega) (by omega), Int.tmod_eq_emod_of_nonneg h0]
/-- where RA looks -/
def sRA (b j : Nat) : Prop := (b = 1 ∧ (j = 0 ∨ j = 4 ∨ j = 5)) ∨ (b = 81 ∧ (j = 0 ∨ j = 1 ∨ j = 6)) ∨ b = 2 ∨ b = 12 ∨ b = 78 ∨ b = 82 ∨ (b = 83 ∧ j % 12 < 8) ∨ b = 84 ∨ b = 85 ∨ (4 ≤ b ∧ b ≤ 11)
theorem RA_cong {M M2 : vM} (E : ∀ b j : Nat, sRA b j → M2 b j = M b j) (h : RA M) : RA M2 := by
  obtain ⟨q1, q2, q3, q4, q5, q6, q7, q8, q9, q10, q11⟩ := h
  have f0 := E 1 0 (by unfold sRA; omega)
  have f4 := E 1 4 (by unfold sRA; omega)
  have f5 := E 1 5 (by unfold sRA; omega)
  have g0 := E 81 0 (by unfold sRA; omega)
  have g1 := E 81 1 (by unfold sRA; omega)
  have g6 := E 81 6 (by unfold sRA; omega)
  refine ⟨by rw [f0]; exact q1, by rw [g0, f0]; exact q2, by rw [f4]; exact q3, by rw [g1, f4]; exact q4, by rw [f5]; exact q5, by rw [g6, f5]; exact q6, fun a ha => ?_, fun a ha => ?_, fun a ha => ?_, fun a w s ha hw hs => ?_, fun a w ha hw => ?_⟩
  · rw [E 82 a (by unfold sRA; omega), E 2 a (by unfold sRA; omega)]
    exact q7 a ha
  · rw [E 84 a (by unfold sRA; omega), E 12 a (by unfold sRA; omega)]
    exact q8 a ha
  · rw [E 85 a (by unfold sRA; omega), E 78 a (by unfold sRA; omega)]
    exact q9 a ha
  · rw [E 83 _ (by unfold sRA; omega), E (4 + (2 * a + w)) s (by unfold sRA; omega), f4, f0]
    exact q10 a w s ha hw hs
  · rw [f4] at ha
    have h4 : a < 4 := by omega
    rw [E (4 + (2 * a + w)) 0 (by unfold sRA; omega), E (4 + (2 * a + w)) 1 (by unfold sRA; omega), E (4 + (2 * a + w)) 2 (by unfold sRA; omega), E (4 + (2 * a + w)) 3 (by unfold sRA; omega)]
    exact q11 a w ha hw
theorem RA_up {M : vM} {a k : Nat} {x : Int} (h : RA M) (ha : ¬ sRA a k) : RA (vm_up M a k x) := RA_cong (fun b j hb => by
  unfold vm_up
  rw [if_neg]
  rintro ⟨rfl, rfl⟩
  exact ha hb) h
def sRP (b j : Nat) : Prop := (30 ≤ b ∧ b ≤ 48) ∨ b = 98 ∨ b = 99 ∨ (b = 81 ∧ j = 28)
theorem RP_cong {M M2 : vM} (E : ∀ b j : Nat, sRP b j → M2 b j = M b j) (h : RP M) : RP M2 := by
  obtain ⟨q1, q2, q3, q4, q5, q6⟩ := h
  have f4 := E 30 4 (by unfold sRP; omega)
  have f5 := E 30 5 (by unfold sRP; omega)
  have eP : pr_P M2 = pr_P M := by
    unfold pr_P
    rw [E 31 0 (by unfold sRP; omega), E 31 1 (by unfold sRP; omega), E 32 0 (by unfold sRP; omega), E 32 1 (by unfold sRP; omega), f4]
  refine ⟨fun e he => ?_, fun e he => ?_, ?_, by rw [f4]; exact q4, by rw [f5]; exact q5, fun hk t w ht hw => ?_⟩
  · rw [E 98 e (by unfold sRP; omega), E 31 e (by unfold sRP; omega)]
    exact q1 e he
  · rw [E 99 e (by unfold sRP; omega), E 32 e (by unfold sRP; omega)]
    exact q2 e he
  · rw [E 81 28 (by unfold sRP; omega), f4]
    exact q3
  · rw [f5] at hk
    rw [eP, E (34 + t) w (by unfold sRP; omega)]
    refine ⟨(q6 hk t w ht hw).1, fun h1 h2 i hi => ?_⟩
    rw [E (42 + t) _ (by unfold sRP; omega)]
    exact (q6 hk t w ht hw).2 h1 h2 i hi
theorem RP_up {M : vM} {a k : Nat} {x : Int} (h : RP M) (ha : ¬ sRP a k) : RP (vm_up M a k x) := RP_cong (fun b j hb => by
  unfold vm_up
  rw [if_neg]
  rintro ⟨rfl, rfl⟩
  exact ha hb) h
def sRK (b j : Nat) : Prop := (b = 81 ∧ (j = 42 ∨ j = 38)) ∨ (b = 56 ∧ (j = 4 ∨ j = 5)) ∨ b = 57 ∨ (59 ≤ b ∧ b ≤ 67) ∨ b = 107 ∨ b = 108 ∨ b = 109
theorem RK_cong {M M2 : vM} (E : ∀ b j : Nat, sRK b j → M2 b j = M b j) (h : RK M) : RK M2 := by
  obtain ⟨q1, q2, q3, q4, q5, q6⟩ := h
  have f4 := E 56 4 (by unfold sRK; omega)
  have f5 := E 56 5 (by unfold sRK; omega)
  refine ⟨by rw [E 81 42 (by unfold sRK; omega), f4]; exact q1, by rw [f4]; exact q2, fun k hk hk2 => ?_, by rw [E 81 38 (by unfold sRK; omega), f5]; exact q4, by rw [f5]; exact q5, fun k hk hk2 => ?_⟩
  · rw [f4] at hk2
    rw [E 109 k (by unfold sRK; omega), E 57 k (by unfold sRK; omega)]
    exact q3 k hk hk2
  · rw [f5] at hk2
    have f : M2 (59 + k) = M (59 + k) := funext (fun i => E (59 + k) i (by unfold sRK; omega))
    obtain ⟨r1, c, r2, r3, r4, r5⟩ := q6 k hk hk2
    unfold KTx
    rw [f, E 67 k (by unfold sRK; omega), E 107 k (by unfold sRK; omega)]
    exact ⟨r1, c, r2, r3, r4, fun i hi => by rw [E 108 _ (by unfold sRK; omega)]; exact r5 i hi⟩
theorem RK_up {M : vM} {a k : Nat} {x : Int} (h : RK M) (ha : ¬ sRK a k) : RK (vm_up M a k x) := RK_cong (fun b j hb => by
  unfold vm_up
  rw [if_neg]
  rintro ⟨rfl, rfl⟩
  exact ha hb) h
/-- what both use for a while only -/
def sTmp (b j : Nat) : Prop := (b = 13 ∧ 1 ≤ j) ∨ (15 ≤ b ∧ b ≤ 27) ∨ b = 68 ∨ b = 79 ∨ b = 80 ∨ (b = 81 ∧ (j = 9 ∨ j = 14 ∨ j = 15 ∨ j = 18 ∨ j = 19 ∨ j = 22 ∨ j = 23 ∨ j = 44 ∨ j = 45 ∨ j = 46)) ∨ (b = 83 ∧ 8 ≤ j % 12) ∨ (86 ≤ b ∧ b ≤ 95) ∨ b = 97 ∨ b = 100 ∨ b = 101 ∨ b = 110 ∨ b = 111
/-- all but the cells of S stay -/
def Fr (S : Nat → Nat → Prop) (M M2 : vM) : Prop := ∀ b j : Nat, ¬ S b j → M2 b j = M b j
theorem Fr.refl {S : Nat → Nat → Prop} {M : vM} : Fr S M M := fun _ _ _ => rfl
theorem Fr.trans {S : Nat → Nat → Prop} {M M1 M2 : vM} (h1 : Fr S M M1) (h2 : Fr S M1 M2) : Fr S M M2 := fun b j h => (h2 b j h).trans (h1 b j h)
theorem Fr.mono {S S' : Nat → Nat → Prop} {M M2 : vM} (h : Fr S M M2) (hS : ∀ b j, S b j → S' b j) : Fr S' M M2 := fun b j hb => h b j (fun q => hb (hS b j q))
theorem Fr.up {S : Nat → Nat → Prop} {M M2 : vM} {a k : Nat} {x : Int} (h : Fr S M M2) (hS : S a k) : Fr S M (vm_up M2 a k x) := fun b j hb => by
  unfold vm_up
  rw [if_neg]
  · exact h b j hb
  · rintro ⟨rfl, rfl⟩
    exact hb hS
theorem vRefs_fr {M M2 : vM} (h : Fr sTmp M M2) (hR : vRefs M) : vRefs M2 := by
  have hd : ∀ q ∈ vRefT, ¬ sTmp q.1 q.2.1 := by unfold sTmp; decide +kernel
  obtain ⟨r0, r1, r2, r3, r4, r5⟩ := hR
  refine ⟨fun q hq => by rw [h _ _ (hd q hq)]; exact r0 q hq, fun i hi => ?_, fun i hi => ?_, fun i hi => ?_, fun i hi => ?_, fun i hi => ?_⟩
  · rw [h _ _ (by unfold sTmp; omega)]; exact r1 i hi
  · rw [h _ _ (by unfold sTmp; omega)]; exact r2 i hi
  · rw [h _ _ (by unfold sTmp; omega)]; exact r3 i hi
  · rw [h _ _ (by unfold sTmp; omega)]; exact r4 i hi
  · rw [h _ _ (by unfold sTmp; omega)]; exact r5 i hi
theorem Rel_fr {M M2 : vM} (E : Fr sTmp M M2) (h : Rel M) : Rel M2 := by
  obtain ⟨hR, hRA, hRM, hRP, hRT, hRC, hRK, hRY, hR2⟩ := h
  have e : ∀ b j : Nat, ¬ sTmp b j → M2 b j = M b j := E
  refine ⟨vRefs_fr E hR, RA_cong (fun b j hb => E b j (by unfold sRA at hb; unfold sTmp; omega)) hRA, ⟨?_, fun q hq => ?_⟩, RP_cong (fun b j hb => E b j (by unfold sRP at hb; unfold sTmp; omega)) hRP, ⟨?_, ?_, fun q hq => ?_, fun q hq => ?_, fun q hq => ?_⟩, ⟨?_, ?_, fun q hq => ?_, fun q hq => ?_⟩, RK_cong (fun b j hb => E b j (by unfold sRK at hb; unfold sTmp; omega)) hRK, ⟨?_, ?_, ?_, ?_, fun y hy hy2 => ?_⟩, ?_⟩
  · rw [e 29 0 (by unfold sTmp; omega)]; exact hRM.1
  · rw [e 29 q (by unfold sTmp; omega), e 96 q (by unfold sTmp; omega)]; exact hRM.2 q hq
  · rw [e 81 31 (by unfold sTmp; omega), e 49 3 (by unfold sTmp; omega)]; exact hRT.1
  · rw [e 49 3 (by unfold sTmp; omega)]; exact hRT.2.1
  · rw [e 102 q (by unfold sTmp; omega), e 50 q (by unfold sTmp; omega)]; exact hRT.2.2.1 q hq
  · rw [e 103 q (by unfold sTmp; omega), e 51 q (by unfold sTmp; omega)]; exact hRT.2.2.2.1 q hq
  · rw [e 104 q (by unfold sTmp; omega), e 52 q (by unfold sTmp; omega)]; exact hRT.2.2.2.2 q hq
  · rw [e 81 35 (by unfold sTmp; omega), e 53 2 (by unfold sTmp; omega)]; exact hRC.1
  · rw [e 53 2 (by unfold sTmp; omega)]; exact hRC.2.1
  · rw [e 105 q (by unfold sTmp; omega), e 54 q (by unfold sTmp; omega)]; exact hRC.2.2.1 q hq
  · rw [e 106 q (by unfold sTmp; omega), e 55 q (by unfold sTmp; omega)]; exact hRC.2.2.2 q hq
  · rw [e 70 6 (by unfold sTmp; omega)]; exact hRY.1
  · rw [e 81 49 (by unfold sTmp; omega), e 70 6 (by unfold sTmp; omega)]; exact hRY.2.1
  · rw [e 70 7 (by unfold sTmp; omega)]; exact hRY.2.2.1
  · rw [e 81 48 (by unfold sTmp; omega), e 70 7 (by unfold sTmp; omega)]; exact hRY.2.2.2.1
  · rw [e 70 6 (by unfold sTmp; omega)] at hy2
    rw [e 71 y (by unfold sTmp; omega), e 72 y (by unfold sTmp; omega), e 73 y (by unfold sTmp; omega), e 74 y (by unfold sTmp; omega), e 75 y (by unfold sTmp; omega), e 76 y (by unfold sTmp; omega), e 112 y (by unfold sTmp; omega), e 113 y (by unfold sTmp; omega), e 114 y (by unfold sTmp; omega), e 115 y (by unfold sTmp; omega), e 116 y (by unfold sTmp; omega), e 117 y (by unfold sTmp; omega), e 1 0 (by unfold sTmp; omega)]
    exact hRY.2.2.2.2 y hy hy2
  · unfold R2
    rw [e 77 0 (by unfold sTmp; omega), e 77 1 (by unfold sTmp; omega), e 77 2 (by unfold sTmp; omega), e 81 56 (by unfold sTmp; omega), e 81 57 (by unfold sTmp; omega), e 81 58 (by unfold sTmp; omega)]
    exact hR2
/-- a pair written in both -/
theorem vm_2 {P : Nat → Int → Int → Prop} {M : vM} {a b n k : Nat} {x : Int} (hab : a ≠ b) (h : ∀ i, i < n → P i (M b i) (M a i)) (hx : P k x x) : ∀ i, i < n → P i (vm_up (vm_up M a k x) b k x b i) (vm_up (vm_up M a k x) b k x a i) := by
  intro i hi
  unfold vm_up
  by_cases e : i = k
  · subst e
    simp [hab]
    exact hx
  · simp [e]
    exact h i hi
theorem lf_cost {M : vM} {a0 a1 : Int} (hr : Rel M) (h0 : 0 ≤ a0 ∧ a0 < 4) (h1 : 0 ≤ a1 ∧ a1 ≤ 99) : some (vI ((vm_up M 2 a0.toNat a1) 82 a0.toNat)) = some (vI (M 2 a0.toNat)) ∧ Rel (vm_up (vm_up M 2 a0.toNat a1) 82 a0.toNat a1) := by
  obtain ⟨hR, hRA, hRM, hRP, hRT, hRC, hRK, hRY, hR2⟩ := hr
  obtain ⟨q1, q2, q3, q4, q5, q6, q7, q8, q9, q10, q11⟩ := hRA
  refine ⟨?_, vRefs_free (vRefs_free hR ⟨by decide, by decide⟩) ⟨by decide, by decide⟩, ?_, by simpa [RM, vm_up] using hRM, RP_up (RP_up (hRP) (by unfold sRP; omega)) (by unfold sRP; omega), by simpa [RT, vm_up] using hRT, by simpa [RC, vm_up] using hRC, RK_up (RK_up (hRK) (by unfold sRK; omega)) (by unfold sRK; omega), by simpa [RY, vm_up] using hRY, by simpa [R2, vm_up] using hR2⟩
  · have := (q7 a0.toNat (by omega)).1
    simpa [vm_up] using this
  · refine ⟨by simpa [vm_up] using q1, by simpa [vm_up] using q2, by simpa [vm_up] using q3, by simpa [vm_up] using q4, by simpa [vm_up] using q5, by simpa [vm_up] using q6, ?_, by simpa [vm_up] using q8, by simpa [vm_up] using q9, ?_, ?_⟩
    · exact vm_2 (P := fun _ y x => y = x ∧ 0 ≤ x ∧ x ≤ 99) (by decide) q7 ⟨rfl, h1⟩
    · intro a w s ha hw hs
      have := q10 a w s ha hw hs
      have e1 : 4 + (2 * a + w) ≠ 82 := by omega
      have e2 : 4 + (2 * a + w) ≠ 2 := by omega
      simpa [vm_up, e1, e2] using this
    · intro a w ha hw
      have ha' : (a : Int) < M 1 4 := by simpa [vm_up] using ha
      have := q11 a w ha' hw
      have e1 : 4 + (2 * a + w) ≠ 82 := by omega
      have e2 : 4 + (2 * a + w) ≠ 2 := by omega
      simpa [vm_up, e1, e2] using this
theorem lf_value {M : vM} {a0 a1 : Int} (hr : Rel M) (h0 : 0 ≤ a0 ∧ a0 < 4) (h1 : -99 ≤ a1 ∧ a1 ≤ 99) : some (vI ((vm_up M 12 a0.toNat a1) 84 a0.toNat)) = some (vI (M 12 a0.toNat)) ∧ Rel (vm_up (vm_up M 12 a0.toNat a1) 84 a0.toNat a1) := by
  obtain ⟨hR, hRA, hRM, hRP, hRT, hRC, hRK, hRY, hR2⟩ := hr
  obtain ⟨q1, q2, q3, q4, q5, q6, q7, q8, q9, q10, q11⟩ := hRA
  refine ⟨?_, vRefs_free (vRefs_free hR ⟨by decide, by decide⟩) ⟨by decide, by decide⟩, ?_, by simpa [RM, vm_up] using hRM, RP_up (RP_up (hRP) (by unfold sRP; omega)) (by unfold sRP; omega), by simpa [RT, vm_up] using hRT, by simpa [RC, vm_up] using hRC, RK_up (RK_up (hRK) (by unfold sRK; omega)) (by unfold sRK; omega), by simpa [RY, vm_up] using hRY, by simpa [R2, vm_up] using hR2⟩
  · have := (q8 a0.toNat (by omega)).1
    simpa [vm_up] using this
  · refine ⟨by simpa [vm_up] using q1, by simpa [vm_up] using q2, by simpa [vm_up] using q3, by simpa [vm_up] using q4, by simpa [vm_up] using q5, by simpa [vm_up] using q6, by simpa [vm_up] using q7, ?_, by simpa [vm_up] using q9, ?_, ?_⟩
    · exact vm_2 (P := fun _ y x => y = x ∧ -99 ≤ x ∧ x ≤ 99) (by decide) q8 ⟨rfl, h1⟩
    · intro a w s ha hw hs
      have := q10 a w s ha hw hs
      have e1 : 4 + (2 * a + w) ≠ 84 := by omega
      have e2 : 4 + (2 * a + w) ≠ 12 := by omega
      simpa [vm_up, e1, e2] using this
    · intro a w ha hw
      have ha' : (a : Int) < M 1 4 := by simpa [vm_up] using ha
      have := q11 a w ha' hw
      have e1 : 4 + (2 * a + w) ≠ 84 := by omega
      have e2 : 4 + (2 * a + w) ≠ 12 := by omega
      simpa [vm_up, e1, e2] using this
theorem lf_pay {M : vM} {a0 a1 : Int} (hr : Rel M) (h0 : 0 ≤ a0 ∧ a0 < 4) (h1 : 0 ≤ a1 ∧ a1 ≤ 999) : some (vI ((vm_up M 78 a0.toNat a1) 85 a0.toNat)) = some (vI (M 78 a0.toNat)) ∧ Rel (vm_up (vm_up M 78 a0.toNat a1) 85 a0.toNat a1) := by
  obtain ⟨hR, hRA, hRM, hRP, hRT, hRC, hRK, hRY, hR2⟩ := hr
  obtain ⟨q1, q2, q3, q4, q5, q6, q7, q8, q9, q10, q11⟩ := hRA
  refine ⟨?_, vRefs_free (vRefs_free hR ⟨by decide, by decide⟩) ⟨by decide, by decide⟩, ?_, by simpa [RM, vm_up] using hRM, RP_up (RP_up (hRP) (by unfold sRP; omega)) (by unfold sRP; omega), by simpa [RT, vm_up] using hRT, by simpa [RC, vm_up] using hRC, RK_up (RK_up (hRK) (by unfold sRK; omega)) (by unfold sRK; omega), by simpa [RY, vm_up] using hRY, by simpa [R2, vm_up] using hR2⟩
  · have := (q9 a0.toNat (by omega)).1
    simpa [vm_up] using this
  · refine ⟨by simpa [vm_up] using q1, by simpa [vm_up] using q2, by simpa [vm_up] using q3, by simpa [vm_up] using q4, by simpa [vm_up] using q5, by simpa [vm_up] using q6, by simpa [vm_up] using q7, by simpa [vm_up] using q8, ?_, ?_, ?_⟩
    · exact vm_2 (P := fun _ y x => y = x ∧ 0 ≤ x ∧ x ≤ 999) (by decide) q9 ⟨rfl, h1⟩
    · intro a w s ha hw hs
      have := q10 a w s ha hw hs
      have e1 : 4 + (2 * a + w) ≠ 85 := by omega
      have e2 : 4 + (2 * a + w) ≠ 78 := by omega
      simpa [vm_up, e1, e2] using this
    · intro a w ha hw
      have ha' : (a : Int) < M 1 4 := by simpa [vm_up] using ha
      have := q11 a w ha' hw
      have e1 : 4 + (2 * a + w) ≠ 85 := by omega
      have e2 : 4 + (2 * a + w) ≠ 78 := by omega
      simpa [vm_up, e1, e2] using this
theorem lf_work {M : vM} {a0 a1 : Int} (hr : Rel M) (h0 : 1 ≤ a0 ∧ a0 ≤ 9) (h1 : 0 ≤ a1 ∧ a1 ≤ 9999) : some (vI ((vm_up M 29 a0.toNat a1) 96 a0.toNat)) = some (vI (M 29 a0.toNat)) ∧ Rel (vm_up (vm_up M 29 a0.toNat a1) 96 a0.toNat a1) := by
  obtain ⟨hR, hRA, hRM, hRP, hRT, hRC, hRK, hRY, hR2⟩ := hr
  refine ⟨?_, vRefs_free (vRefs_free hR ⟨by decide, by decide⟩) ⟨by decide, by decide⟩, RA_up (RA_up hRA (by unfold sRA; omega)) (by unfold sRA; omega), ?_, RP_up (RP_up (hRP) (by unfold sRP; omega)) (by unfold sRP; omega), by simpa [RT, vm_up] using hRT, by simpa [RC, vm_up] using hRC, RK_up (RK_up (hRK) (by unfold sRK; omega)) (by unfold sRK; omega), by simpa [RY, vm_up] using hRY, by simpa [R2, vm_up] using hR2⟩
  · have := (hRM.2 a0.toNat (by omega)).1
    simpa [vm_up] using this
  · refine ⟨?_, vm_2 (P := fun _ y x => y = x ∧ 0 ≤ x ∧ x ≤ 9999) (by decide) hRM.2 ⟨rfl, h1⟩⟩
    have e : ¬ (0 = a0.toNat) := by omega
    simpa [vm_up, e] using hRM.1
theorem lf_all {M : vM} {a0 a1 : Int} (hr : Rel M) (h0 : 0 ≤ a0 ∧ a0 ≤ 4) (h1 : 0 ≤ a1 ∧ a1 ≤ 999) : some (vI ((vm_up M 52 a0.toNat a1) 104 a0.toNat)) = some (vI (M 52 a0.toNat)) ∧ Rel (vm_up (vm_up M 52 a0.toNat a1) 104 a0.toNat a1) := by
  obtain ⟨hR, hRA, hRM, hRP, hRT, hRC, hRK, hRY, hR2⟩ := hr
  obtain ⟨q1, q2, q3, q4, q5⟩ := hRT
  refine ⟨?_, vRefs_free (vRefs_free hR ⟨by decide, by decide⟩) ⟨by decide, by decide⟩, RA_up (RA_up hRA (by unfold sRA; omega)) (by unfold sRA; omega), by simpa [RM, vm_up] using hRM, RP_up (RP_up (hRP) (by unfold sRP; omega)) (by unfold sRP; omega), ?_, by simpa [RC, vm_up] using hRC, RK_up (RK_up (hRK) (by unfold sRK; omega)) (by unfold sRK; omega), by simpa [RY, vm_up] using hRY, by simpa [R2, vm_up] using hR2⟩
  · have := (q5 a0.toNat (by omega)).1
    simpa [vm_up] using this
  · refine ⟨by simpa [vm_up] using q1, by simpa [vm_up] using q2, by simpa [vm_up] using q3, by simpa [vm_up] using q4, ?_⟩
    exact vm_2 (P := fun _ y x => y = x ∧ 0 ≤ x ∧ x ≤ 999) (by decide) q5 ⟨rfl, h1⟩
theorem lf_reserve {M : vM} {a0 : Int} (hr : Rel M) (h1 : 0 ≤ a0 ∧ a0 ≤ 99) : some (vI ((vm_up M 1 5 a0) 81 6)) = some (vI (M 1 5)) ∧ Rel (vm_up (vm_up M 1 5 a0) 81 6 a0) := by
  obtain ⟨hR, hRA, hRM, hRP, hRT, hRC, hRK, hRY, hR2⟩ := hr
  obtain ⟨q1, q2, q3, q4, q5, q6, q7, q8, q9, q10, q11⟩ := hRA
  refine ⟨?_, vRefs_up (vRefs_up hR ⟨by decide, by decide⟩) ⟨by decide, by decide⟩, ?_, by simpa [RM, vm_up] using hRM, RP_up (RP_up (hRP) (by unfold sRP; omega)) (by unfold sRP; omega), by simpa [RT, vm_up] using hRT, by simpa [RC, vm_up] using hRC, RK_up (RK_up (hRK) (by unfold sRK; omega)) (by unfold sRK; omega), by simpa [RY, vm_up] using hRY, by simpa [R2, vm_up] using hR2⟩
  · simpa [vm_up] using q6
  · refine ⟨by simpa [vm_up] using q1, by simpa [vm_up] using q2, by simpa [vm_up] using q3, by simpa [vm_up] using q4, by simpa [vm_up] using h1, by simp [vm_up], by simpa [vm_up] using q7, by simpa [vm_up] using q8, by simpa [vm_up] using q9, ?_, ?_⟩
    · intro a w s ha hw hs
      have := q10 a w s ha hw hs
      have e1 : 4 + (2 * a + w) ≠ 81 := by omega
      have e2 : 4 + (2 * a + w) ≠ 1 := by omega
      simpa [vm_up, e1, e2] using this
    · intro a w ha hw
      have ha' : (a : Int) < M 1 4 := by simpa [vm_up] using ha
      have := q11 a w ha' hw
      have e1 : 4 + (2 * a + w) ≠ 81 := by omega
      have e2 : 4 + (2 * a + w) ≠ 1 := by omega
      simpa [vm_up, e1, e2] using this
theorem lf_lot {M : vM} {a0 : Int} (hr : Rel M) (h1 : 0 ≤ a0 ∧ a0 ≤ 65536) : some (vI ((vm_up M 70 7 a0) 81 48)) = some (vI (M 70 7)) ∧ Rel (vm_up (vm_up M 70 7 a0) 81 48 a0) := by
  obtain ⟨hR, hRA, hRM, hRP, hRT, hRC, hRK, hRY, hR2⟩ := hr
  obtain ⟨q1, q2, q3, q4, q5⟩ := hRY
  refine ⟨?_, vRefs_up (vRefs_up hR ⟨by decide, by decide⟩) ⟨by decide, by decide⟩, RA_up (RA_up hRA (by unfold sRA; omega)) (by unfold sRA; omega), by simpa [RM, vm_up] using hRM, RP_up (RP_up (hRP) (by unfold sRP; omega)) (by unfold sRP; omega), by simpa [RT, vm_up] using hRT, by simpa [RC, vm_up] using hRC, RK_up (RK_up (hRK) (by unfold sRK; omega)) (by unfold sRK; omega), ?_, by simpa [R2, vm_up] using hR2⟩
  · simpa [vm_up] using q4
  · exact ⟨by simpa [vm_up] using q1, by simpa [vm_up] using q2, by simpa [vm_up] using h1, by simp [vm_up], by simpa [vm_up] using q5⟩
theorem lf_tasks {M : vM} {a0 a1 a2 : Int} (hr : Rel M) (h0 : 0 ≤ a0 ∧ a0 ≤ 9) (h1 : 0 ≤ a1 ∧ a1 ≤ 99) (h2 : 0 ≤ a2 ∧ a2 ≤ 99) : some (vI 0) = some (vI 0) ∧ Rel (vm_up (vm_up (vm_up (vm_up (vm_up (vm_up M 77 0 a0) 77 1 a1) 77 2 a2) 81 56 a0) 81 57 a1) 81 58 a2) := by
  obtain ⟨hR, hRA, hRM, hRP, hRT, hRC, hRK, hRY, hR2⟩ := hr
  refine ⟨?_, vRefs_up (vRefs_up (vRefs_up (vRefs_up (vRefs_up (vRefs_up hR ⟨by decide, by decide⟩) ⟨by decide, by decide⟩) ⟨by decide, by decide⟩) ⟨by decide, by decide⟩) ⟨by decide, by decide⟩) ⟨by decide, by decide⟩, RA_up (RA_up (RA_up (RA_up (RA_up (RA_up hRA (by unfold sRA; omega)) (by unfold sRA; omega)) (by unfold sRA; omega)) (by unfold sRA; omega)) (by unfold sRA; omega)) (by unfold sRA; omega), by simpa [RM, vm_up] using hRM, RP_up (RP_up (RP_up (RP_up (RP_up (RP_up (hRP) (by unfold sRP; omega)) (by unfold sRP; omega)) (by unfold sRP; omega)) (by unfold sRP; omega)) (by unfold sRP; omega)) (by unfold sRP; omega), by simpa [RT, vm_up] using hRT, by simpa [RC, vm_up] using hRC, RK_up (RK_up (RK_up (RK_up (RK_up (RK_up (hRK) (by unfold sRK; omega)) (by unfold sRK; omega)) (by unfold sRK; omega)) (by unfold sRK; omega)) (by unfold sRK; omega)) (by unfold sRK; omega), by simpa [RY, vm_up] using hRY, ?_⟩
  · rfl
  · exact ⟨by simpa [vm_up] using h0, by simpa [vm_up] using h1, by simpa [vm_up] using h2⟩
