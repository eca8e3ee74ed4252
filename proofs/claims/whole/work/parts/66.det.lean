/-! DETERMINANTS as the reference works them out -/
def pad (n : Nat) (F : Nat → Nat → Int) (r s : Nat) : Int := if r < n ∧ s < n then F r s else if r = s then 1 else 0
def detp (n : Nat) (F : Nat → Nat → Int) : Int := det4 (pad n F)
/-- column c is v -/
def colr (F : Nat → Nat → Int) (c : Nat) (v : Nat → Int) (r s : Nat) : Int := if s = c then v r else F r s
theorem det_col (P : Nat → Nat → Int) (v : Nat → Int) {c : Nat} (hc : c < 4) : det4 (colr P c v) = s4 (fun r => v r * cof P r c) := by
  rcases lt4 hc with rfl | rfl | rfl | rfl <;> simp [s4, det4, cof, sk, d3, sg4, colr] <;> grind
theorem pad_col {n : Nat} {F : Nat → Nat → Int} {v : Nat → Int} {c : Nat} (hc : c < n) : pad n (colr F c v) = colr (pad n F) c (fun r => if r < n then v r else 0) := by
  funext r s
  unfold pad colr
  by_cases h1 : r < n <;> by_cases h2 : s < n <;> by_cases h3 : s = c <;> simp [h1, h2, h3] <;> omega
/-- what the determinants solve -/
theorem cramer {n : Nat} {F : Nat → Nat → Int} {v : Nat → Int} (hn : n ≤ 4) {x : Nat → Int} (hx : ∀ s, s < n → x s = detp n (colr F s v)) (hx0 : ∀ s, n ≤ s → x s = 0) {r : Nat} (hr : r < n) : s4 (fun s => pad n F r s * x s) = v r * detp n F := by
  have e : ∀ s, s < 4 → pad n F r s * x s = pad n F r s * s4 (fun r' => (if r' < n then v r' else 0) * cof (pad n F) r' s) := fun s hs => by
    by_cases h : s < n
    · rw [hx s h, detp, pad_col h, det_col _ _ hs]
    · have : pad n F r s = 0 := by unfold pad; rw [if_neg (by omega), if_neg (by omega)]
      rw [this, Int.zero_mul, Int.zero_mul]
  have c : ∀ j', j' < 4 → s4 (fun s => pad n F r s * cof (pad n F) j' s) = if r = j' then det4 (pad n F) else 0 := fun j' hj' => cof_r _ (by omega) hj'
  have c0 := c 0 (by omega); have c1 := c 1 (by omega); have c2 := c 2 (by omega); have c3 := c 3 (by omega)
  simp only [s4] at c0 c1 c2 c3 e ⊢
  rw [e 0 (by omega), e 1 (by omega), e 2 (by omega), e 3 (by omega)]
  have hv : v r * detp n F = (if 0 < n then v 0 else 0) * (if r = 0 then det4 (pad n F) else 0) + (if 1 < n then v 1 else 0) * (if r = 1 then det4 (pad n F) else 0) + (if 2 < n then v 2 else 0) * (if r = 2 then det4 (pad n F) else 0) + (if 3 < n then v 3 else 0) * (if r = 3 then det4 (pad n F) else 0) := by
    unfold detp
    rcases lt4 (show r < 4 by omega) with rfl | rfl | rfl | rfl <;> simp [hr]
  rw [hv, ← c0, ← c1, ← c2, ← c3]
  clear hv c0 c1 c2 c3 c e hx
  generalize (if 0 < n then v 0 else 0) = v0; generalize (if 1 < n then v 1 else 0) = v1; generalize (if 2 < n then v 2 else 0) = v2; generalize (if 3 < n then v 3 else 0) = v3
  grind
/-- the minors of the first k rows and columns, row r, column s -/
def mn (G : Nat → Nat → Int) (k r s : Nat) : Int :=
  if k = 0 then G r s
  else if k = 1 then G r s * G 0 0 - G r 0 * G 0 s
  else if k = 2 then d3 (G 0 0) (G 0 1) (G 0 s) (G 1 0) (G 1 1) (G 1 s) (G r 0) (G r 1) (G r s)
  else G r s * d3 (G 0 0) (G 0 1) (G 0 2) (G 1 0) (G 1 1) (G 1 2) (G 2 0) (G 2 1) (G 2 2) - G 2 s * d3 (G 0 0) (G 0 1) (G 0 2) (G 1 0) (G 1 1) (G 1 2) (G r 0) (G r 1) (G r 2) + G 1 s * d3 (G 0 0) (G 0 1) (G 0 2) (G 2 0) (G 2 1) (G 2 2) (G r 0) (G r 1) (G r 2) - G 0 s * d3 (G 1 0) (G 1 1) (G 1 2) (G 2 0) (G 2 1) (G 2 2) (G r 0) (G r 1) (G r 2)
def mb (G : Nat → Nat → Int) (k : Nat) : Int := if k = 0 then 1 else mn G (k - 1) (k - 1) (k - 1)
theorem mn_step (G : Nat → Nat → Int) {k : Nat} (hk : k < 3) (r s : Nat) : mn G k r s * mn G k k k - mn G k r k * mn G k k s = mb G k * mn G (k + 1) r s := by
  have : k = 0 ∨ k = 1 ∨ k = 2 := by omega
  rcases this with rfl | rfl | rfl <;> simp [mn, mb, d3]
  · grind
  · generalize G 0 0 = a00; generalize G 0 1 = a01; generalize G 0 2 = a02; generalize G 0 s = a0s; generalize G 1 0 = a10; generalize G 1 1 = a11; generalize G 1 2 = a12; generalize G 1 s = a1s; generalize G 2 0 = a20; generalize G 2 1 = a21; generalize G 2 2 = a22; generalize G 2 s = a2s; generalize G r 0 = r0; generalize G r 1 = r1; generalize G r 2 = r2; generalize G r s = rs
    grind
theorem mn_last (G : Nat → Nat → Int) {n : Nat} (hn : 1 ≤ n ∧ n ≤ 4) : mn G (n - 1) (n - 1) (n - 1) = detp n G := by
  have : n = 1 ∨ n = 2 ∨ n = 3 ∨ n = 4 := by omega
  rcases this with rfl | rfl | rfl | rfl <;> simp [mn, detp, det4, s4, cof, sk, d3, sg4, pad] <;> grind
/-- nothing to go on with: the determinant is 0 -/
theorem mn_zero (G : Nat → Nat → Int) {n k : Nat} (hn : n ≤ 4) (hk : k + 1 < n) (hz : ∀ r, k ≤ r → r < n → mn G k r k = 0) (hb : mb G k ≠ 0) : detp n G = 0 := by
  have c : (n = 2 ∧ k = 0) ∨ (n = 3 ∧ k = 0) ∨ (n = 3 ∧ k = 1) ∨ (n = 4 ∧ k = 0) ∨ (n = 4 ∧ k = 1) ∨ (n = 4 ∧ k = 2) := by omega
  have fin : ∀ {a b : Int}, a ≠ 0 → a * b = 0 → b = 0 := fun h1 h2 => (Int.mul_eq_zero.mp h2).resolve_left h1
  rcases c with ⟨rfl, rfl⟩ | ⟨rfl, rfl⟩ | ⟨rfl, rfl⟩ | ⟨rfl, rfl⟩ | ⟨rfl, rfl⟩ | ⟨rfl, rfl⟩
  · have z0 := hz 0 (by omega) (by omega); have z1 := hz 1 (by omega) (by omega)
    simp [mn, detp, det4, s4, cof, sk, d3, sg4, pad] at *
    grind
  · have z0 := hz 0 (by omega) (by omega); have z1 := hz 1 (by omega) (by omega); have z2 := hz 2 (by omega) (by omega)
    simp [mn, detp, det4, s4, cof, sk, d3, sg4, pad] at *
    grind
  · have z1 := hz 1 (by omega) (by omega); have z2 := hz 2 (by omega) (by omega)
    refine fin hb ?_
    rw [← mn_last G (n := 3) (by omega)]
    have := mn_step G (k := 1) (by omega) 2 2
    rw [z1, z2] at this
    show mb G 1 * mn G 2 2 2 = 0
    rw [← this]
    omega
  · have z0 := hz 0 (by omega) (by omega); have z1 := hz 1 (by omega) (by omega); have z2 := hz 2 (by omega) (by omega); have z3 := hz 3 (by omega) (by omega)
    simp [mn, detp, det4, s4, cof, sk, d3, sg4, pad] at *
    grind
  · have z1 := hz 1 (by omega) (by omega); have z2 := hz 2 (by omega) (by omega); have z3 := hz 3 (by omega) (by omega)
    have y22 := mn_step G (k := 1) (by omega) 2 2
    have y23 := mn_step G (k := 1) (by omega) 2 3
    rw [z1, z2] at y22 y23
    have q22 : mn G 2 2 2 = 0 := fin hb (by rw [← y22]; omega)
    have q23 : mn G 2 2 3 = 0 := fin hb (by rw [← y23]; omega)
    have y33 := mn_step G (k := 2) (by omega) 3 3
    have s1 : G 1 1 * G 0 0 - G 1 0 * G 0 1 = 0 := by simpa [mn] using z1
    have s2 : G 2 1 * G 0 0 - G 2 0 * G 0 1 = 0 := by simpa [mn] using z2
    have s3 : G 3 1 * G 0 0 - G 3 0 * G 0 1 = 0 := by simpa [mn] using z3
    have sb : G 0 0 ≠ 0 := by simpa [mb, mn] using hb
    refine fin sb ?_
    simp [detp, det4, s4, cof, sk, d3, sg4, pad]
    generalize G 0 0 = a00 at *; generalize G 0 1 = a01 at *; generalize G 1 0 = a10 at *; generalize G 1 1 = a11 at *; generalize G 2 0 = a20 at *; generalize G 2 1 = a21 at *; generalize G 3 0 = a30 at *; generalize G 3 1 = a31 at *
    clear y33 q22 q23 y22 y23 z1 z2 z3 hz hb
    grind
  · have z2 := hz 2 (by omega) (by omega); have z3 := hz 3 (by omega) (by omega)
    refine fin hb ?_
    rw [← mn_last G (n := 4) (by omega)]
    have := mn_step G (k := 2) (by omega) 3 3
    rw [z2, z3] at this
    show mb G 2 * mn G 3 3 3 = 0
    rw [← this]
    omega
/-- two rows change places -/
def swp (k p : Nat) (G : Nat → Nat → Int) (r s : Nat) : Int := G (if r = p then k else if r = k then p else r) s
theorem swp_mn {G : Nat → Nat → Int} {k p j r s : Nat} (hj : j ≤ k) (hp : k ≤ p) : mn (swp k p G) j r s = mn G j (if r = p then k else if r = k then p else r) s ∨ 3 < j := by
  by_cases h3 : 3 < j
  · exact Or.inr h3
  · refine Or.inl ?_
    have e : ∀ i, i < j → ∀ s, swp k p G i s = G i s := fun i hi s => by unfold swp; rw [if_neg (by omega), if_neg (by omega)]
    have er : ∀ s, swp k p G r s = G (if r = p then k else if r = k then p else r) s := fun s => rfl
    have : j = 0 ∨ j = 1 ∨ j = 2 ∨ j = 3 := by omega
    rcases this with rfl | rfl | rfl | rfl
    · rfl
    · simp [mn, er, e 0 (by omega)]
    · simp [mn, er, e 0 (by omega), e 1 (by omega)]
    · simp [mn, er, e 0 (by omega), e 1 (by omega), e 2 (by omega)]
theorem swp_mb {G : Nat → Nat → Int} {k p : Nat} (hk : k ≤ 3) (hp : k ≤ p) : mb (swp k p G) k = mb G k := by
  unfold mb
  by_cases h0 : k = 0
  · rw [if_pos h0, if_pos h0]
  · rw [if_neg h0, if_neg h0]
    rcases swp_mn (G := G) (k := k) (p := p) (j := k - 1) (r := k - 1) (s := k - 1) (by omega) hp with h | h
    · rw [h, if_neg (by omega), if_neg (by omega)]
    · omega
theorem swp_det {G : Nat → Nat → Int} {n k p : Nat} (hn : n ≤ 4) (hk : k < n) (hp : p < n) (hkp : k ≠ p) : detp n (swp k p G) = - detp n G := by
  have c : (n = 2 ∨ n = 3 ∨ n = 4) := by omega
  have ck := lt4 (show k < 4 by omega)
  have cp := lt4 (show p < 4 by omega)
  rcases c with rfl | rfl | rfl <;> rcases ck with rfl | rfl | rfl | rfl <;> rcases cp with rfl | rfl | rfl | rfl <;> first
    | (exfalso; omega)
    | (simp [detp, det4, s4, cof, sk, d3, sg4, pad, swp]; grind)
/-! how large -/
def cb (c s : Nat) : Int := if s = c then 2376 else 12
theorem mnr_b {G : Nat → Nat → Int} {c k r s n : Nat} (hn : n ≤ 4) (hG : ∀ r s, r < n → s < n → bd (cb c s) (G r s)) (hk : k < n) (hr : k ≤ r ∧ r < n) (hs : k ≤ s ∧ s < n) : bd 100000000 (mn G k r s) := by
  have g : ∀ r s, r < n → s < n → bd (cb c s) (G r s) := hG
  have t : k = 0 ∨ k = 1 ∨ k = 2 ∨ k = 3 := by omega
  rcases t with rfl | rfl | rfl | rfl
  · refine bd_l (g r s hr.2 hs.2) ?_
    unfold cb; split <;> decide
  · have e := bd_s (bd_m (g r s hr.2 hs.2) (g 0 0 (by omega) (by omega))) (bd_m (g r 0 hr.2 (by omega)) (g 0 s (by omega) hs.2))
    refine bd_l (show bd _ (mn G 1 r s) from e) ?_
    unfold cb; split <;> split <;> omega
  · have m2 : ∀ a b, a < n → b < n → bd (2 * (cb c 0 * cb c 1)) (G a 0 * G b 1 - G a 1 * G b 0) := fun a b ha hb => bd_l (bd_s (bd_m (g a 0 ha (by omega)) (g b 1 hb (by omega))) (bd_m (g a 1 ha (by omega)) (g b 0 hb (by omega)))) (by rw [Int.mul_comm (cb c 1)]; omega)
    have e := bd_a (bd_s (bd_m (m2 0 1 (by omega) (by omega)) (g r s hr.2 hs.2)) (bd_m (m2 0 r (by omega) (by omega)) (g 1 s (by omega) hs.2))) (bd_m (m2 1 r (by omega) (by omega)) (g 0 s (by omega) hs.2))
    have e2 : mn G 2 r s = (G 0 0 * G 1 1 - G 0 1 * G 1 0) * G r s - (G 0 0 * G r 1 - G 0 1 * G r 0) * G 1 s + (G 1 0 * G r 1 - G 1 1 * G r 0) * G 0 s := by simp [mn, d3]; grind
    rw [e2]
    refine bd_l e ?_
    unfold cb
    by_cases h0 : 0 = c <;> by_cases h1 : 1 = c <;> by_cases h2 : s = c <;> simp [h0, h1, h2] <;> omega
  · have m3 : ∀ a b f, a < n → b < n → f < n → bd (6 * (cb c 0 * (cb c 1 * cb c 2))) (d3 (G a 0) (G a 1) (G a 2) (G b 0) (G b 1) (G b 2) (G f 0) (G f 1) (G f 2)) := fun a b f ha hb hf => by
      have m2 : ∀ a b, a < n → b < n → bd (2 * (cb c 0 * cb c 1)) (G a 0 * G b 1 - G a 1 * G b 0) := fun a b ha hb => bd_l (bd_s (bd_m (g a 0 ha (by omega)) (g b 1 hb (by omega))) (bd_m (g a 1 ha (by omega)) (g b 0 hb (by omega)))) (by rw [Int.mul_comm (cb c 1)]; omega)
      have e := bd_a (bd_s (bd_m (m2 a b ha hb) (g f 2 hf (by omega))) (bd_m (m2 a f ha hf) (g b 2 hb (by omega)))) (bd_m (m2 b f hb hf) (g a 2 ha (by omega)))
      have e2 : d3 (G a 0) (G a 1) (G a 2) (G b 0) (G b 1) (G b 2) (G f 0) (G f 1) (G f 2) = (G a 0 * G b 1 - G a 1 * G b 0) * G f 2 - (G a 0 * G f 1 - G a 1 * G f 0) * G b 2 + (G b 0 * G f 1 - G b 1 * G f 0) * G a 2 := by simp [d3]; grind
      rw [e2]
      refine bd_l e (Int.le_of_eq ?_)
      grind
    have e := bd_s (bd_a (bd_s (bd_m (g r s hr.2 hs.2) (m3 0 1 2 (by omega) (by omega) (by omega))) (bd_m (g 2 s (by omega) hs.2) (m3 0 1 r (by omega) (by omega) hr.2))) (bd_m (g 1 s (by omega) hs.2) (m3 0 2 r (by omega) (by omega) hr.2))) (bd_m (g 0 s (by omega) hs.2) (m3 1 2 r (by omega) (by omega) hr.2))
    refine bd_l (show bd _ (mn G 3 r s) from e) ?_
    unfold cb
    by_cases h0 : 0 = c <;> by_cases h1 : 1 = c <;> by_cases h2 : 2 = c <;> by_cases h3 : s = c <;> simp [h0, h1, h2, h3] <;> omega
