/-! LINES OVER FOUR UNKNOWNS: determinants, a table over a basis -/
def sk (j i : Nat) : Nat := if i < j then i else i + 1
def d3 (a b c d e f g h i : Int) : Int := a*(e*i - f*h) - b*(d*i - f*g) + c*(d*h - e*g)
def sg4 (k : Nat) : Int := if k % 2 = 0 then 1 else -1
def cof (P : Nat → Nat → Int) (j s : Nat) : Int := sg4 (j + s) * d3 (P (sk j 0) (sk s 0)) (P (sk j 0) (sk s 1)) (P (sk j 0) (sk s 2)) (P (sk j 1) (sk s 0)) (P (sk j 1) (sk s 1)) (P (sk j 1) (sk s 2)) (P (sk j 2) (sk s 0)) (P (sk j 2) (sk s 1)) (P (sk j 2) (sk s 2))
def s4 (f : Nat → Int) : Int := f 0 + f 1 + f 2 + f 3
def det4 (P : Nat → Nat → Int) : Int := s4 (fun s => P 0 s * cof P 0 s)
theorem lt4 {j : Nat} (h : j < 4) : j = 0 ∨ j = 1 ∨ j = 2 ∨ j = 3 := by omega
theorem cof_r (P : Nat → Nat → Int) {j j' : Nat} (hj : j < 4) (hj' : j' < 4) : s4 (fun s => P j s * cof P j' s) = if j = j' then det4 P else 0 := by
  rcases lt4 hj with rfl | rfl | rfl | rfl <;> rcases lt4 hj' with rfl | rfl | rfl | rfl <;> simp [s4, det4, cof, sk, d3, sg4] <;> grind
theorem cof_c (P : Nat → Nat → Int) {s s' : Nat} (hs : s < 4) (hs' : s' < 4) : s4 (fun j => cof P j s' * P j s) = if s' = s then det4 P else 0 := by
  rcases lt4 hs with rfl | rfl | rfl | rfl <;> rcases lt4 hs' with rfl | rfl | rfl | rfl <;> simp [s4, det4, cof, sk, d3, sg4] <;> grind
/-- a row that the cofactor doesn't see -/
theorem cof_u (P : Nat → Nat → Int) (c s : Nat) (v : Nat → Int) : cof (fun j => if j = c then v else P j) c s = cof P c s := by
  have h : ∀ i, sk c i ≠ c := fun i => by unfold sk; split <;> omega
  simp [cof, h]
section
variable (A : Nat → Nat → Int) (C : Nat → Int) (B : Nat → Nat)
def lpP (j s : Nat) : Int := A (B j) s
def lpD : Int := det4 (lpP A B)
def lpV (k j : Nat) : Int := cof (lpP A B) j k
def lpT (i j : Nat) : Int := s4 (fun k => A i k * lpV A B k j)
def lp0 (i : Nat) : Int := C i * lpD A B - s4 (fun j => lpT A B i j * C (B j))
def lpL (i : Nat) (t : Int) (x : Nat → Int) : Int := C i * t + s4 (fun k => A i k * x k)
def lpX (r c : Nat) : Nat → Nat := fun j => if j = c then r else B j
end
section
variable {A : Nat → Nat → Int} {C : Nat → Int} {B : Nat → Nat} {i j k c r s : Nat}
theorem lp_VP (hk : k < 4) (hs : s < 4) : s4 (fun j => lpV A B k j * A (B j) s) = if k = s then lpD A B else 0 := cof_c (lpP A B) hs hk
theorem lp_TB (hj : j < 4) (hk : k < 4) : lpT A B (B j) k = if j = k then lpD A B else 0 := cof_r (lpP A B) hj hk
theorem lp_TA (hs : s < 4) : s4 (fun j => lpT A B i j * A (B j) s) = A i s * lpD A B := by
  have h0 := lp_VP (A := A) (B := B) (k := 0) (s := s) (by omega) hs
  have h1 := lp_VP (A := A) (B := B) (k := 1) (s := s) (by omega) hs
  have h2 := lp_VP (A := A) (B := B) (k := 2) (s := s) (by omega) hs
  have h3 := lp_VP (A := A) (B := B) (k := 3) (s := s) (by omega) hs
  unfold lpT
  generalize lpD A B = D at *
  rcases lt4 hs with rfl | rfl | rfl | rfl <;> simp [s4] at * <;> grind
theorem lp_id (t : Int) (x : Nat → Int) : lpD A B * lpL A C i t x = lp0 A C B i * t + s4 (fun j => lpT A B i j * lpL A C (B j) t x) := by
  have h0 := lp_TA (A := A) (B := B) (i := i) (s := 0) (by omega)
  have h1 := lp_TA (A := A) (B := B) (i := i) (s := 1) (by omega)
  have h2 := lp_TA (A := A) (B := B) (i := i) (s := 2) (by omega)
  have h3 := lp_TA (A := A) (B := B) (i := i) (s := 3) (by omega)
  unfold lp0 lpL
  generalize lpD A B = D at *
  generalize lpT A B = T at *
  simp [s4] at *
  grind
theorem lp_0B (hj : j < 4) : lp0 A C B (B j) = 0 := by
  unfold lp0
  have h : ∀ k, k < 4 → lpT A B (B j) k = if j = k then lpD A B else 0 := fun k hk => lp_TB hj hk
  simp only [s4, h 0 (by omega), h 1 (by omega), h 2 (by omega), h 3 (by omega)]
  rcases lt4 hj with rfl | rfl | rfl | rfl <;> simp <;> grind
theorem lpX_P : lpP A (lpX B r c) = fun j => if j = c then A r else lpP A B j := by
  funext j s
  unfold lpP lpX
  split <;> rfl
theorem lp_XV : lpV A (lpX B r c) k c = lpV A B k c := by
  unfold lpV
  rw [lpX_P]
  exact cof_u _ _ _ _
theorem lp_XT : lpT A (lpX B r c) i c = lpT A B i c := by
  unfold lpT
  simp only [lp_XV]
theorem lp_XD (hc : c < 4) : lpD A (lpX B r c) = lpT A B r c := by
  have h := lp_TB (A := A) (B := lpX B r c) hc hc
  rw [if_pos rfl] at h
  rw [← h, lp_XT]
  unfold lpX
  rw [if_pos rfl]
/-- what both a row's multiples and the new entries solve -/
theorem lp_lin {D E v0 v1 v2 v3 t0 t1 t2 t3 u0 u1 u2 u3 : Int} {p0 p1 p2 p3 a w1 : Nat → Int} {e : Nat → Int} (hE : E ≠ 0)
    (h1 : ∀ s, s < 4 → v0 * p0 s + v1 * p1 s + v2 * p2 s + v3 * p3 s = D * e s) (h2 : ∀ s, s < 4 → t0 * p0 s + t1 * p1 s + t2 * p2 s + t3 * p3 s = a s * D)
    (h3 : ∀ s, s < 4 → u0 * a s + u1 * p1 s + u2 * p2 s + u3 * p3 s = E * e s) (hw : E = t0)
    (g0 : s4 (fun s => a s * w1 s) = 0) (g1 : s4 (fun s => p1 s * w1 s) = E) (g2 : s4 (fun s => p2 s * w1 s) = 0) (g3 : s4 (fun s => p3 s * w1 s) = 0) : D * u1 = v1 * t0 - v0 * t1 := by
  have q : ∀ s, s < 4 → (D * v0 - D * u0) * a s + (v1 * t0 - v0 * t1 - D * u1) * p1 s + (v2 * t0 - v0 * t2 - D * u2) * p2 s + (v3 * t0 - v0 * t3 - D * u3) * p3 s = 0 := fun s hs => by
    have a1 := h1 s hs
    have a2 := h2 s hs
    have a3 := h3 s hs
    generalize p0 s = b0 at *; generalize p1 s = b1 at *; generalize p2 s = b2 at *; generalize p3 s = b3 at *; generalize a s = b4 at *; generalize e s = b5 at *
    subst hw
    grind
  have q0 := q 0 (by omega)
  have q1 := q 1 (by omega)
  have q2 := q 2 (by omega)
  have q3 := q 3 (by omega)
  have z : (v1 * t0 - v0 * t1 - D * u1) * E = 0 := by
    simp only [s4] at g0 g1 g2 g3
    generalize v1 * t0 - v0 * t1 - D * u1 = y1 at *; generalize v2 * t0 - v0 * t2 - D * u2 = y2 at *; generalize v3 * t0 - v0 * t3 - D * u3 = y3 at *; generalize D * v0 - D * u0 = y0 at *
    have k0 := congrArg (· * w1 0) q0
    have k1 := congrArg (· * w1 1) q1
    have k2 := congrArg (· * w1 2) q2
    have k3 := congrArg (· * w1 3) q3
    have m0 := congrArg (y0 * ·) g0
    have m1 := congrArg (y1 * ·) g1
    have m2 := congrArg (y2 * ·) g2
    have m3 := congrArg (y3 * ·) g3
    grind
  rcases Int.mul_eq_zero.mp z with y | y
  · omega
  · exact absurd y hE

theorem lpX_at {j : Nat} : lpX B r c j = if j = c then r else B j := rfl
/-- the new entries -/
theorem lp_XVj (hc : c < 4) (hj : j < 4) (hjc : j ≠ c) (hk : k < 4) (hE : lpT A B r c ≠ 0) : lpD A B * lpV A (lpX B r c) k j = lpV A B k j * lpT A B r c - lpV A B k c * lpT A B r j := by
  have h1 : ∀ s, s < 4 → _ := fun s (hs : s < 4) => lp_VP (A := A) (B := B) (k := k) (s := s) hk hs
  have h2 : ∀ s, s < 4 → _ := fun s (hs : s < 4) => lp_TA (A := A) (B := B) (i := r) (s := s) hs
  have h3 : ∀ s, s < 4 → _ := fun s (hs : s < 4) => lp_VP (A := A) (B := lpX B r c) (k := k) (s := s) hk hs
  have h4 : ∀ i, i < 4 → _ := fun i (hi : i < 4) => lp_TB (A := A) (B := lpX B r c) (j := i) (k := j) hi hj
  unfold lpT at h4
  rw [lp_XD hc] at h3 h4
  have eE : ∀ s : Nat, (if k = s then lpD A B else 0) = lpD A B * (if k = s then 1 else 0) := fun s => by split <;> omega
  have eE2 : ∀ s : Nat, (if k = s then lpT A B r c else 0) = lpT A B r c * (if k = s then 1 else 0) := fun s => by split <;> omega
  simp only [eE] at h1
  simp only [eE2] at h3
  generalize hT : lpT A B = T at *
  generalize lpV A (lpX B r c) = U at *
  generalize hV : lpV A B = V at *
  simp only [s4] at h1 h2 h3
  rcases lt4 hc with rfl | rfl | rfl | rfl <;> rcases lt4 hj with rfl | rfl | rfl | rfl <;> first
    | exact absurd rfl hjc
    | skip
  · exact lp_lin (D := lpD A B) (e := fun s => if k = s then 1 else 0) (a := A r) hE (v0 := V k 0) (v1 := V k 1) (v2 := V k 2) (v3 := V k 3) (t0 := T r 0) (t1 := T r 1) (t2 := T r 2) (t3 := T r 3) (u0 := U k 0) (u1 := U k 1) (u2 := U k 2) (u3 := U k 3) (p0 := A (B 0)) (p1 := A (B 1)) (p2 := A (B 2)) (p3 := A (B 3)) (w1 := fun s => U s 1) (fun s hs => by have := h1 s hs; omega) (fun s hs => by have := h2 s hs; omega) (fun s hs => by have := h3 s hs; simp [lpX] at this ⊢; omega) rfl (by have := h4 0 (by omega); simpa [lpX] using this) (by have := h4 1 (by omega); simpa [lpX] using this) (by have := h4 2 (by omega); simpa [lpX] using this) (by have := h4 3 (by omega); simpa [lpX] using this)
  · exact lp_lin (D := lpD A B) (e := fun s => if k = s then 1 else 0) (a := A r) hE (v0 := V k 0) (v1 := V k 2) (v2 := V k 1) (v3 := V k 3) (t0 := T r 0) (t1 := T r 2) (t2 := T r 1) (t3 := T r 3) (u0 := U k 0) (u1 := U k 2) (u2 := U k 1) (u3 := U k 3) (p0 := A (B 0)) (p1 := A (B 2)) (p2 := A (B 1)) (p3 := A (B 3)) (w1 := fun s => U s 2) (fun s hs => by have := h1 s hs; omega) (fun s hs => by have := h2 s hs; omega) (fun s hs => by have := h3 s hs; simp [lpX] at this ⊢; omega) rfl (by have := h4 0 (by omega); simpa [lpX] using this) (by have := h4 2 (by omega); simpa [lpX] using this) (by have := h4 1 (by omega); simpa [lpX] using this) (by have := h4 3 (by omega); simpa [lpX] using this)
  · exact lp_lin (D := lpD A B) (e := fun s => if k = s then 1 else 0) (a := A r) hE (v0 := V k 0) (v1 := V k 3) (v2 := V k 1) (v3 := V k 2) (t0 := T r 0) (t1 := T r 3) (t2 := T r 1) (t3 := T r 2) (u0 := U k 0) (u1 := U k 3) (u2 := U k 1) (u3 := U k 2) (p0 := A (B 0)) (p1 := A (B 3)) (p2 := A (B 1)) (p3 := A (B 2)) (w1 := fun s => U s 3) (fun s hs => by have := h1 s hs; omega) (fun s hs => by have := h2 s hs; omega) (fun s hs => by have := h3 s hs; simp [lpX] at this ⊢; omega) rfl (by have := h4 0 (by omega); simpa [lpX] using this) (by have := h4 3 (by omega); simpa [lpX] using this) (by have := h4 1 (by omega); simpa [lpX] using this) (by have := h4 2 (by omega); simpa [lpX] using this)
  · exact lp_lin (D := lpD A B) (e := fun s => if k = s then 1 else 0) (a := A r) hE (v0 := V k 1) (v1 := V k 0) (v2 := V k 2) (v3 := V k 3) (t0 := T r 1) (t1 := T r 0) (t2 := T r 2) (t3 := T r 3) (u0 := U k 1) (u1 := U k 0) (u2 := U k 2) (u3 := U k 3) (p0 := A (B 1)) (p1 := A (B 0)) (p2 := A (B 2)) (p3 := A (B 3)) (w1 := fun s => U s 0) (fun s hs => by have := h1 s hs; omega) (fun s hs => by have := h2 s hs; omega) (fun s hs => by have := h3 s hs; simp [lpX] at this ⊢; omega) rfl (by have := h4 1 (by omega); simpa [lpX] using this) (by have := h4 0 (by omega); simpa [lpX] using this) (by have := h4 2 (by omega); simpa [lpX] using this) (by have := h4 3 (by omega); simpa [lpX] using this)
  · exact lp_lin (D := lpD A B) (e := fun s => if k = s then 1 else 0) (a := A r) hE (v0 := V k 1) (v1 := V k 2) (v2 := V k 0) (v3 := V k 3) (t0 := T r 1) (t1 := T r 2) (t2 := T r 0) (t3 := T r 3) (u0 := U k 1) (u1 := U k 2) (u2 := U k 0) (u3 := U k 3) (p0 := A (B 1)) (p1 := A (B 2)) (p2 := A (B 0)) (p3 := A (B 3)) (w1 := fun s => U s 2) (fun s hs => by have := h1 s hs; omega) (fun s hs => by have := h2 s hs; omega) (fun s hs => by have := h3 s hs; simp [lpX] at this ⊢; omega) rfl (by have := h4 1 (by omega); simpa [lpX] using this) (by have := h4 2 (by omega); simpa [lpX] using this) (by have := h4 0 (by omega); simpa [lpX] using this) (by have := h4 3 (by omega); simpa [lpX] using this)
  · exact lp_lin (D := lpD A B) (e := fun s => if k = s then 1 else 0) (a := A r) hE (v0 := V k 1) (v1 := V k 3) (v2 := V k 0) (v3 := V k 2) (t0 := T r 1) (t1 := T r 3) (t2 := T r 0) (t3 := T r 2) (u0 := U k 1) (u1 := U k 3) (u2 := U k 0) (u3 := U k 2) (p0 := A (B 1)) (p1 := A (B 3)) (p2 := A (B 0)) (p3 := A (B 2)) (w1 := fun s => U s 3) (fun s hs => by have := h1 s hs; omega) (fun s hs => by have := h2 s hs; omega) (fun s hs => by have := h3 s hs; simp [lpX] at this ⊢; omega) rfl (by have := h4 1 (by omega); simpa [lpX] using this) (by have := h4 3 (by omega); simpa [lpX] using this) (by have := h4 0 (by omega); simpa [lpX] using this) (by have := h4 2 (by omega); simpa [lpX] using this)
  · exact lp_lin (D := lpD A B) (e := fun s => if k = s then 1 else 0) (a := A r) hE (v0 := V k 2) (v1 := V k 0) (v2 := V k 1) (v3 := V k 3) (t0 := T r 2) (t1 := T r 0) (t2 := T r 1) (t3 := T r 3) (u0 := U k 2) (u1 := U k 0) (u2 := U k 1) (u3 := U k 3) (p0 := A (B 2)) (p1 := A (B 0)) (p2 := A (B 1)) (p3 := A (B 3)) (w1 := fun s => U s 0) (fun s hs => by have := h1 s hs; omega) (fun s hs => by have := h2 s hs; omega) (fun s hs => by have := h3 s hs; simp [lpX] at this ⊢; omega) rfl (by have := h4 2 (by omega); simpa [lpX] using this) (by have := h4 0 (by omega); simpa [lpX] using this) (by have := h4 1 (by omega); simpa [lpX] using this) (by have := h4 3 (by omega); simpa [lpX] using this)
  · exact lp_lin (D := lpD A B) (e := fun s => if k = s then 1 else 0) (a := A r) hE (v0 := V k 2) (v1 := V k 1) (v2 := V k 0) (v3 := V k 3) (t0 := T r 2) (t1 := T r 1) (t2 := T r 0) (t3 := T r 3) (u0 := U k 2) (u1 := U k 1) (u2 := U k 0) (u3 := U k 3) (p0 := A (B 2)) (p1 := A (B 1)) (p2 := A (B 0)) (p3 := A (B 3)) (w1 := fun s => U s 1) (fun s hs => by have := h1 s hs; omega) (fun s hs => by have := h2 s hs; omega) (fun s hs => by have := h3 s hs; simp [lpX] at this ⊢; omega) rfl (by have := h4 2 (by omega); simpa [lpX] using this) (by have := h4 1 (by omega); simpa [lpX] using this) (by have := h4 0 (by omega); simpa [lpX] using this) (by have := h4 3 (by omega); simpa [lpX] using this)
  · exact lp_lin (D := lpD A B) (e := fun s => if k = s then 1 else 0) (a := A r) hE (v0 := V k 2) (v1 := V k 3) (v2 := V k 0) (v3 := V k 1) (t0 := T r 2) (t1 := T r 3) (t2 := T r 0) (t3 := T r 1) (u0 := U k 2) (u1 := U k 3) (u2 := U k 0) (u3 := U k 1) (p0 := A (B 2)) (p1 := A (B 3)) (p2 := A (B 0)) (p3 := A (B 1)) (w1 := fun s => U s 3) (fun s hs => by have := h1 s hs; omega) (fun s hs => by have := h2 s hs; omega) (fun s hs => by have := h3 s hs; simp [lpX] at this ⊢; omega) rfl (by have := h4 2 (by omega); simpa [lpX] using this) (by have := h4 3 (by omega); simpa [lpX] using this) (by have := h4 0 (by omega); simpa [lpX] using this) (by have := h4 1 (by omega); simpa [lpX] using this)
  · exact lp_lin (D := lpD A B) (e := fun s => if k = s then 1 else 0) (a := A r) hE (v0 := V k 3) (v1 := V k 0) (v2 := V k 1) (v3 := V k 2) (t0 := T r 3) (t1 := T r 0) (t2 := T r 1) (t3 := T r 2) (u0 := U k 3) (u1 := U k 0) (u2 := U k 1) (u3 := U k 2) (p0 := A (B 3)) (p1 := A (B 0)) (p2 := A (B 1)) (p3 := A (B 2)) (w1 := fun s => U s 0) (fun s hs => by have := h1 s hs; omega) (fun s hs => by have := h2 s hs; omega) (fun s hs => by have := h3 s hs; simp [lpX] at this ⊢; omega) rfl (by have := h4 3 (by omega); simpa [lpX] using this) (by have := h4 0 (by omega); simpa [lpX] using this) (by have := h4 1 (by omega); simpa [lpX] using this) (by have := h4 2 (by omega); simpa [lpX] using this)
  · exact lp_lin (D := lpD A B) (e := fun s => if k = s then 1 else 0) (a := A r) hE (v0 := V k 3) (v1 := V k 1) (v2 := V k 0) (v3 := V k 2) (t0 := T r 3) (t1 := T r 1) (t2 := T r 0) (t3 := T r 2) (u0 := U k 3) (u1 := U k 1) (u2 := U k 0) (u3 := U k 2) (p0 := A (B 3)) (p1 := A (B 1)) (p2 := A (B 0)) (p3 := A (B 2)) (w1 := fun s => U s 1) (fun s hs => by have := h1 s hs; omega) (fun s hs => by have := h2 s hs; omega) (fun s hs => by have := h3 s hs; simp [lpX] at this ⊢; omega) rfl (by have := h4 3 (by omega); simpa [lpX] using this) (by have := h4 1 (by omega); simpa [lpX] using this) (by have := h4 0 (by omega); simpa [lpX] using this) (by have := h4 2 (by omega); simpa [lpX] using this)
  · exact lp_lin (D := lpD A B) (e := fun s => if k = s then 1 else 0) (a := A r) hE (v0 := V k 3) (v1 := V k 2) (v2 := V k 0) (v3 := V k 1) (t0 := T r 3) (t1 := T r 2) (t2 := T r 0) (t3 := T r 1) (u0 := U k 3) (u1 := U k 2) (u2 := U k 0) (u3 := U k 1) (p0 := A (B 3)) (p1 := A (B 2)) (p2 := A (B 0)) (p3 := A (B 1)) (w1 := fun s => U s 2) (fun s hs => by have := h1 s hs; omega) (fun s hs => by have := h2 s hs; omega) (fun s hs => by have := h3 s hs; simp [lpX] at this ⊢; omega) rfl (by have := h4 3 (by omega); simpa [lpX] using this) (by have := h4 2 (by omega); simpa [lpX] using this) (by have := h4 0 (by omega); simpa [lpX] using this) (by have := h4 1 (by omega); simpa [lpX] using this)
theorem lp_XTj (hc : c < 4) (hj : j < 4) (hjc : j ≠ c) (hE : lpT A B r c ≠ 0) : lpD A B * lpT A (lpX B r c) i j = lpT A B i j * lpT A B r c - lpT A B i c * lpT A B r j := by
  have h0 := lp_XVj (A := A) (B := B) (r := r) (k := 0) hc hj hjc (by omega) hE
  have h1 := lp_XVj (A := A) (B := B) (r := r) (k := 1) hc hj hjc (by omega) hE
  have h2 := lp_XVj (A := A) (B := B) (r := r) (k := 2) hc hj hjc (by omega) hE
  have h3 := lp_XVj (A := A) (B := B) (r := r) (k := 3) hc hj hjc (by omega) hE
  generalize lpT A B r c = x at *
  generalize lpT A B r j = y at *
  unfold lpT s4
  grind
theorem lp_X0 (hc : c < 4) (hE : lpT A B r c ≠ 0) : lpD A B * lp0 A C (lpX B r c) i = lp0 A C B i * lpT A B r c - lpT A B i c * lp0 A C B r := by
  have hj : ∀ j, j < 4 → j ≠ c → _ := fun j (h1 : j < 4) (h2 : j ≠ c) => lp_XTj (A := A) (B := B) (r := r) (i := i) hc h1 h2 hE
  have hd := lp_XD (A := A) (B := B) (r := r) hc
  have ht := lp_XT (A := A) (B := B) (r := r) (i := i) (c := c)
  unfold lp0
  rw [hd]
  generalize lpT A (lpX B r c) i = U at *
  generalize lpT A B = T at *
  generalize lpD A B = D at *
  rcases lt4 hc with rfl | rfl | rfl | rfl
  · have a := hj 1 (by omega) (by omega); have b := hj 2 (by omega) (by omega); have e := hj 3 (by omega) (by omega)
    simp [s4, lpX]; clear hj; grind
  · have a := hj 0 (by omega) (by omega); have b := hj 2 (by omega) (by omega); have e := hj 3 (by omega) (by omega)
    simp [s4, lpX]; clear hj; grind
  · have a := hj 0 (by omega) (by omega); have b := hj 1 (by omega) (by omega); have e := hj 3 (by omega) (by omega)
    simp [s4, lpX]; clear hj; grind
  · have a := hj 0 (by omega) (by omega); have b := hj 1 (by omega) (by omega); have e := hj 2 (by omega) (by omega)
    simp [s4, lpX]; clear hj; grind
end
/-! first differences -/
def lxp (f : Nat → Int) : Nat → Nat → Prop
  | 0, _ => False
  | m + 1, i => 0 < f i ∨ (f i = 0 ∧ lxp f m (i + 1))
def lxn (f : Nat → Int) : Nat → Nat → Prop
  | 0, _ => True
  | m + 1, i => 0 < f i ∨ (f i = 0 ∧ lxn f m (i + 1))
theorem lxp_n {f : Nat → Int} : ∀ {m i : Nat}, lxp f m i → lxn f m i
  | 0, _, h => h.elim
  | m + 1, i, h => h.elim Or.inl (fun z => Or.inr ⟨z.1, lxp_n z.2⟩)
theorem lxn_z {f : Nat → Int} : ∀ {m i : Nat}, (∀ k, i ≤ k → k < i + m → f k = 0) → lxn f m i
  | 0, _, _ => trivial
  | m + 1, i, h => Or.inr ⟨h i (by omega) (by omega), lxn_z (fun k h1 h2 => h k (by omega) (by omega))⟩
theorem lxn_or {f : Nat → Int} : ∀ {m i : Nat}, lxn f m i → lxp f m i ∨ ∀ k, i ≤ k → k < i + m → f k = 0
  | 0, _, _ => Or.inr (fun k h1 h2 => by omega)
  | m + 1, i, h => by
    rcases h with h | ⟨h1, h2⟩
    · exact Or.inl (Or.inl h)
    · rcases lxn_or h2 with z | z
      · exact Or.inl (Or.inr ⟨h1, z⟩)
      · refine Or.inr (fun k y1 y2 => ?_)
        by_cases e : k = i
        · rw [e]; exact h1
        · exact z k (by omega) (by omega)
theorem lxp_c {f g : Nat → Int} : ∀ {m i : Nat}, (∀ k, i ≤ k → k < i + m → g k = f k) → lxp f m i → lxp g m i
  | 0, _, _, h => h
  | m + 1, i, e, h => by
    have e0 := e i (by omega) (by omega)
    rcases h with h | ⟨h1, h2⟩
    · exact Or.inl (by rw [e0]; exact h)
    · exact Or.inr ⟨by rw [e0]; exact h1, lxp_c (fun k y1 y2 => e k (by omega) (by omega)) h2⟩
theorem lxn_c {f g : Nat → Int} : ∀ {m i : Nat}, (∀ k, i ≤ k → k < i + m → g k = f k) → lxn f m i → lxn g m i
  | 0, _, _, h => h
  | m + 1, i, e, h => by
    have e0 := e i (by omega) (by omega)
    rcases h with h | ⟨h1, h2⟩
    · exact Or.inl (by rw [e0]; exact h)
    · exact Or.inr ⟨by rw [e0]; exact h1, lxn_c (fun k y1 y2 => e k (by omega) (by omega)) h2⟩
theorem lxp_m {f : Nat → Int} {a : Int} (ha : 0 < a) : ∀ {m i : Nat}, lxp f m i → lxp (fun k => a * f k) m i
  | 0, _, h => h
  | m + 1, i, h => by
    rcases h with h | ⟨h1, h2⟩
    · exact Or.inl (Int.mul_pos ha h)
    · exact Or.inr ⟨by show a * f i = 0; rw [h1, Int.mul_zero], lxp_m ha h2⟩
theorem lxp_d {f : Nat → Int} {a : Int} (ha : 0 < a) : ∀ {m i : Nat}, lxp (fun k => a * f k) m i → lxp f m i
  | 0, _, h => h
  | m + 1, i, h => by
    rcases h with h | ⟨h1, h2⟩
    · exact Or.inl (Int.lt_of_mul_lt_mul_left (by rw [Int.mul_zero]; exact h) (Int.le_of_lt ha))
    · refine Or.inr ⟨?_, lxp_d ha h2⟩
      rcases Int.mul_eq_zero.mp h1 with z | z
      · omega
      · exact z
theorem lxn_d {f : Nat → Int} {a : Int} (ha : 0 < a) : ∀ {m i : Nat}, lxn (fun k => a * f k) m i → lxn f m i
  | 0, _, h => h
  | m + 1, i, h => by
    rcases h with h | ⟨h1, h2⟩
    · exact Or.inl (Int.lt_of_mul_lt_mul_left (by rw [Int.mul_zero]; exact h) (Int.le_of_lt ha))
    · refine Or.inr ⟨?_, lxn_d ha h2⟩
      rcases Int.mul_eq_zero.mp h1 with z | z
      · omega
      · exact z
theorem lxn_m {f : Nat → Int} {a : Int} (ha : 0 ≤ a) {m i : Nat} (h : lxn f m i) : lxn (fun k => a * f k) m i := by
  by_cases h0 : a = 0
  · exact lxn_z (fun k _ _ => by show a * f k = 0; rw [h0, Int.zero_mul])
  · rcases lxn_or h with z | z
    · exact lxp_n (lxp_m (by omega) z)
    · exact lxn_z (fun k y1 y2 => by show a * f k = 0; rw [z k y1 y2, Int.mul_zero])
theorem lxp_a {f g : Nat → Int} : ∀ {m i : Nat}, lxp f m i → lxn g m i → lxp (fun k => f k + g k) m i
  | 0, _, h, _ => h
  | m + 1, i, h, q => by
    show 0 < f i + g i ∨ (f i + g i = 0 ∧ _)
    rcases h with h | ⟨h1, h2⟩
    · rcases q with q | ⟨q1, _⟩
      · exact Or.inl (by omega)
      · exact Or.inl (by omega)
    · rcases q with q | ⟨q1, q2⟩
      · exact Or.inl (by omega)
      · exact Or.inr ⟨by omega, lxp_a h2 q2⟩
theorem lxn_a {f g : Nat → Int} {m i : Nat} (h : lxn f m i) (q : lxn g m i) : lxn (fun k => f k + g k) m i := by
  rcases lxn_or h with z | z
  · exact lxp_n (lxp_a z q)
  · exact lxn_c (fun k y1 y2 => by show f k + g k = g k; rw [z k y1 y2, Int.zero_add]) q
theorem lxp_irr {f : Nat → Int} : ∀ {m i : Nat}, lxp f m i → (∀ k, i ≤ k → k < i + m → f k = 0) → False
  | 0, _, h, _ => h
  | m + 1, i, h, z => by
    have := z i (by omega) (by omega)
    rcases h with h | ⟨h1, h2⟩
    · omega
    · exact lxp_irr h2 (fun k y1 y2 => z k (by omega) (by omega))
theorem lxn_anti {f g : Nat → Int} {m i : Nat} (h : lxn f m i) (q : lxn g m i) (e : ∀ k, i ≤ k → k < i + m → g k = - f k) : ∀ k, i ≤ k → k < i + m → f k = 0 := by
  rcases lxn_or h with z | z
  · exact (lxp_irr (lxp_a z q) (fun k y1 y2 => by show f k + g k = 0; rw [e k y1 y2]; omega)).elim
  · exact z
/-! the least point -/
/-- a real line: the goal, an unknown, a row -/
def rl (n m i : Nat) : Prop := i ≤ n ∨ (5 ≤ i ∧ i < 5 + m)
def LpA (n m : Nat) (A : Nat → Nat → Int) (C : Nat → Int) : Prop := n ≤ 4 ∧ m ≤ 8 ∧ (∀ k s : Nat, k < 4 → s < 4 → A (k + 1) s = if k = s then 1 else 0) ∧ (∀ k : Nat, k < 5 → C k = 0) ∧ (∀ i s : Nat, rl n m i → n ≤ s → s < 4 → A i s = 0)
def LpS (n m : Nat) (A : Nat → Nat → Int) (B : Nat → Nat) : Prop := 0 < lpD A B ∧ (∀ j : Nat, j < n → 1 ≤ B j ∧ rl n m (B j)) ∧ (∀ j : Nat, n ≤ j → j < 4 → B j = j + 1) ∧ (∀ j : Nat, 4 ≤ j → B j = 0) ∧ ∀ j : Nat, j < n → lxp (fun i => lpT A B i j) (n + 1) 0
section
variable {A : Nat → Nat → Int} {C : Nat → Int} {B : Nat → Nat} {n m i j k c r s : Nat} {t : Int} {x : Nat → Int}
theorem lp_TV (hA : LpA n m A C) (hk : k < 4) : lpT A B (k + 1) j = lpV A B k j := by
  unfold lpT
  simp only [s4, hA.2.2.1 k _ hk (show 0 < 4 by omega), hA.2.2.1 k _ hk (show 1 < 4 by omega), hA.2.2.1 k _ hk (show 2 < 4 by omega), hA.2.2.1 k _ hk (show 3 < 4 by omega)]
  rcases lt4 hk with rfl | rfl | rfl | rfl <;> simp
theorem lp_vj (hA : LpA n m A C) (hB : ∀ j : Nat, n ≤ j → j < 4 → B j = j + 1) (hk : n ≤ k) (hk4 : k < 4) (hj : j < 4) : lpV A B k j = if k = j then lpD A B else 0 := by
  have h := lp_TB (A := A) (B := B) hk4 hj
  rw [hB k hk hk4, lp_TV hA hk4] at h
  exact h
theorem lp_vk (hA : LpA n m A C) (hS : ∀ j : Nat, j < n → 1 ≤ B j ∧ rl n m (B j)) (hB : ∀ j : Nat, n ≤ j → j < 4 → B j = j + 1) (hj : n ≤ j) (hj4 : j < 4) (hk : k < 4) : lpV A B k j = if k = j then lpD A B else 0 := by
  have h := lp_VP (A := A) (B := B) hk hj4
  rw [← h]
  have e : ∀ j', j' < 4 → A (B j') j = if j' = j then 1 else 0 := fun j' h4 => by
    by_cases z : j' < n
    · rw [hA.2.2.2.2 _ _ (hS j' z).2 hj hj4, if_neg (by omega)]
    · rw [hB j' (by omega) h4]; exact hA.2.2.1 _ _ h4 hj4
  simp only [s4, e 0 (by omega), e 1 (by omega), e 2 (by omega), e 3 (by omega)]
  rcases lt4 hj4 with rfl | rfl | rfl | rfl <;> simp
theorem lp_Tz (hA : LpA n m A C) (hS : ∀ j : Nat, j < n → 1 ≤ B j ∧ rl n m (B j)) (hB : ∀ j : Nat, n ≤ j → j < 4 → B j = j + 1) (hi : rl n m i) (hj : n ≤ j) (hj4 : j < 4) : lpT A B i j = 0 := by
  have e : ∀ k, k < 4 → lpV A B k j = if k = j then lpD A B else 0 := fun k hk => lp_vk hA hS hB hj hj4 hk
  have z := hA.2.2.2.2 i j hi hj hj4
  unfold lpT
  simp only [s4, e 0 (by omega), e 1 (by omega), e 2 (by omega), e 3 (by omega)]
  rcases lt4 hj4 with rfl | rfl | rfl | rfl <;> simp [z]
/-- no feasible point comes before the one of B -/
theorem lp_opt (hA : LpA n m A C) (hS : LpS n m A B) (hx : ∀ i, 1 ≤ i → rl n m i → 0 ≤ lpL A C i t x) : lxn (fun i => lpD A B * lpL A C i t x - lp0 A C B i * t) (n + 1) 0 := by
  obtain ⟨s1, s2, s3, s4', s5⟩ := hS
  have hy : ∀ j, j < 4 → ∃ z : Int, 0 ≤ z ∧ (n ≤ j → z = 0) ∧ ∀ i, rl n m i → lpT A B i j * lpL A C (B j) t x = z * lpT A B i j := fun j hj => by
    by_cases h : j < n
    · exact ⟨lpL A C (B j) t x, hx _ (s2 j h).1 (s2 j h).2, fun z => by omega, fun i _ => Int.mul_comm _ _⟩
    · exact ⟨0, by omega, fun _ => rfl, fun i hi => by rw [lp_Tz hA s2 s3 hi (by omega) hj]; omega⟩
  obtain ⟨z0, a0, b0, c0⟩ := hy 0 (by omega)
  obtain ⟨z1, a1, b1, c1⟩ := hy 1 (by omega)
  obtain ⟨z2, a2, b2, c2⟩ := hy 2 (by omega)
  obtain ⟨z3, a3, b3, c3⟩ := hy 3 (by omega)
  have col : ∀ (j : Nat) (z : Int), 0 ≤ z → (n ≤ j → z = 0) → lxn (fun i => z * lpT A B i j) (n + 1) 0 := fun j z h1 h2 => by
    by_cases h : j < n
    · exact lxn_m h1 (lxp_n (s5 j h))
    · exact lxn_z (fun k _ _ => by show z * _ = 0; rw [h2 (by omega), Int.zero_mul])
  refine lxn_c (fun k _ hk => ?_) (lxn_a (lxn_a (lxn_a (col 0 z0 a0 b0) (col 1 z1 a1 b1)) (col 2 z2 a2 b2)) (col 3 z3 a3 b3))
  have hr : rl n m k := Or.inl (by omega)
  have := lp_id (A := A) (C := C) (B := B) (i := k) t x
  rw [this]
  simp only [s4]
  rw [c0 k hr, c1 k hr, c2 k hr, c3 k hr]
  omega
/-- a broken line that nothing mends -/
theorem lp_inf (hA : LpA n m A C) (hS : LpS n m A B) (hr : rl n m r) (hr1 : 1 ≤ r) (h0 : lp0 A C B r < 0) (hT : ∀ j, j < n → lpT A B r j ≤ 0) (ht : 0 < t) (hx : ∀ i, 1 ≤ i → rl n m i → 0 ≤ lpL A C i t x) : False := by
  obtain ⟨s1, s2, s3, s4', s5⟩ := hS
  have hy : ∀ j, j < 4 → lpT A B r j * lpL A C (B j) t x ≤ 0 := fun j hj => by
    by_cases h : j < n
    · exact Int.mul_nonpos_of_nonpos_of_nonneg (hT j h) (hx _ (s2 j h).1 (s2 j h).2)
    · rw [lp_Tz hA s2 s3 hr (by omega) hj]; omega
  have y0 := hy 0 (by omega)
  have y1 := hy 1 (by omega)
  have y2 := hy 2 (by omega)
  have y3 := hy 3 (by omega)
  have := lp_id (A := A) (C := C) (B := B) (i := r) t x
  simp only [s4] at this
  have p1 : 0 ≤ lpD A B * lpL A C r t x := Int.mul_nonneg (by omega) (hx r hr1 hr)
  have p2 : lp0 A C B r * t < 0 := Int.mul_neg_of_neg_of_pos h0 ht
  omega
/-- the point of B -/
theorem lp_at (hz : ∀ j, j < 4 → lpL A C (B j) t x = 0) : lpD A B * lpL A C i t x = lp0 A C B i * t := by
  have := lp_id (A := A) (C := C) (B := B) (i := i) t x
  simp only [s4, hz 0 (by omega), hz 1 (by omega), hz 2 (by omega), hz 3 (by omega)] at this
  omega
theorem lpX_S (hc : c < n) (hr : rl n m r) (hr1 : 1 ≤ r) (hS : ∀ j : Nat, j < n → 1 ≤ B j ∧ rl n m (B j)) (j : Nat) (hj : j < n) : 1 ≤ lpX B r c j ∧ rl n m (lpX B r c j) := by
  unfold lpX
  split
  · exact ⟨hr1, hr⟩
  · exact hS j hj
/-- no ties -/
theorem lp_tie (hA : LpA n m A C) (hS : LpS n m A B) (hc : c < n) (hj : j < n) (hjc : j ≠ c) (hp : 0 < lpT A B r c) (h : lxn (fun i => lpT A B i j * lpT A B r c - lpT A B i c * lpT A B r j) (n + 1) 0) : lxp (fun i => lpT A B i j * lpT A B r c - lpT A B i c * lpT A B r j) (n + 1) 0 := by
  rcases lxn_or h with z | z
  · exact z
  · exfalso
    have hn := hA.1
    have s3 : ∀ j : Nat, n ≤ j → j < 4 → lpX B r c j = j + 1 := fun j h1 h2 => by
      unfold lpX
      rw [if_neg (by omega)]
      exact hS.2.2.1 j h1 h2
    have hV : ∀ k, k < 4 → lpV A (lpX B r c) k j = 0 := fun k hk => by
      by_cases hkn : k < n
      · have e := lp_XVj (A := A) (B := B) (r := r) (show c < 4 by omega) (show j < 4 by omega) hjc hk (by omega)
        have e2 := z (k + 1) (by omega) (by omega)
        rw [lp_TV hA hk, lp_TV hA hk] at e2
        rw [e2] at e
        rcases Int.mul_eq_zero.mp e with y | y
        · have := hS.1; omega
        · exact y
      · rw [lp_vj hA s3 (by omega) hk (by omega), if_neg (by omega)]
    have e := lp_TB (A := A) (B := lpX B r c) (show j < 4 by omega) (show j < 4 by omega)
    rw [if_pos rfl, lp_XD (show c < 4 by omega)] at e
    have e3 : lpT A (lpX B r c) (lpX B r c j) j = 0 := by
      unfold lpT
      simp only [s4, hV 0 (by omega), hV 1 (by omega), hV 2 (by omega), hV 3 (by omega)]
      omega
    omega
/-- one turn -/
theorem lp_exch (hA : LpA n m A C) (hS : LpS n m A B) (hc : c < n) (hr : rl n m r) (hr1 : 1 ≤ r) (h0 : lp0 A C B r < 0) (hp : 0 < lpT A B r c) (hm : ∀ j, j < n → j ≠ c → 0 < lpT A B r j → lxn (fun i => lpT A B i j * lpT A B r c - lpT A B i c * lpT A B r j) (n + 1) 0) : LpS n m A (lpX B r c) ∧ lxp (fun i => lp0 A C (lpX B r c) i * lpD A B - lp0 A C B i * lpD A (lpX B r c)) (n + 1) 0 := by
  have hn := hA.1
  obtain ⟨s1, s2, s3, s4', s5⟩ := hS
  have hne : lpT A B r c ≠ 0 := by omega
  refine ⟨⟨?_, lpX_S hc hr hr1 s2, fun j h1 h2 => ?_, fun j h => ?_, fun j hj => ?_⟩, ?_⟩
  · rw [lp_XD (by omega)]; exact hp
  · unfold lpX; rw [if_neg (by omega)]; exact s3 j h1 h2
  · unfold lpX; rw [if_neg (by omega)]; exact s4' j h
  · by_cases e : j = c
    · rw [e]
      exact lxp_c (fun k _ _ => lp_XT) (s5 c hc)
    · refine lxp_d s1 (lxp_c (fun k _ _ => lp_XTj (by omega) (by omega) e hne) ?_)
      by_cases hq : 0 < lpT A B r j
      · exact lp_tie hA ⟨s1, s2, s3, s4', s5⟩ hc hj e hp (hm j hj e hq)
      · refine lxp_c (fun k _ _ => ?_) (lxp_a (lxp_m hp (s5 j hj)) (lxn_m (a := - lpT A B r j) (by omega) (lxp_n (s5 c hc))))
        show lpT A B k j * lpT A B r c - lpT A B k c * lpT A B r j = lpT A B r c * lpT A B k j + -lpT A B r j * lpT A B k c
        grind
  · refine lxp_c (fun k _ _ => ?_) (lxp_m (a := - lp0 A C B r) (by omega) (s5 c hc))
    have := lp_X0 (A := A) (C := C) (B := B) (r := r) (i := k) (show c < 4 by omega) hne
    rw [lp_XD (by omega)]
    grind
/-- the start -/
def lpB0 : Nat → Nat := fun j => if j < 4 then j + 1 else 0
theorem lp_V0 (hA : LpA n m A C) (hj : j < 4) (hk : k < 4) : lpV A lpB0 k j = if k = j then 1 else 0 := by
  have e : ∀ j s, j < 4 → s < 4 → lpP A lpB0 j s = if j = s then 1 else 0 := fun j s h1 h2 => by
    unfold lpP lpB0
    rw [if_pos h1]
    exact hA.2.2.1 j s h1 h2
  unfold lpV
  rcases lt4 hk with rfl | rfl | rfl | rfl <;> rcases lt4 hj with rfl | rfl | rfl | rfl <;> simp [cof, sk, d3, sg4, e]
theorem lp_D0 (hA : LpA n m A C) : lpD A lpB0 = 1 := by
  have e : ∀ j s, j < 4 → s < 4 → lpP A lpB0 j s = if j = s then 1 else 0 := fun j s h1 h2 => by
    unfold lpP lpB0
    rw [if_pos h1]
    exact hA.2.2.1 j s h1 h2
  unfold lpD
  simp [det4, s4, cof, sk, d3, sg4, e]
theorem lp_T0 (hA : LpA n m A C) (hj : j < 4) : lpT A lpB0 i j = A i j := by
  unfold lpT
  simp only [s4, lp_V0 hA hj (show 0 < 4 by omega), lp_V0 hA hj (show 1 < 4 by omega), lp_V0 hA hj (show 2 < 4 by omega), lp_V0 hA hj (show 3 < 4 by omega)]
  rcases lt4 hj with rfl | rfl | rfl | rfl <;> simp
theorem lp_00 (hA : LpA n m A C) : lp0 A C lpB0 i = C i := by
  have e : ∀ j, j < 4 → C (lpB0 j) = 0 := fun j hj => by unfold lpB0; rw [if_pos hj]; exact hA.2.2.2.1 _ (by omega)
  unfold lp0
  rw [lp_D0 hA]
  simp only [s4, e 0 (by omega), e 1 (by omega), e 2 (by omega), e 3 (by omega)]
  omega
theorem lp_S0 (hA : LpA n m A C) (hg : ∀ j, j < n → 0 ≤ A 0 j) : LpS n m A lpB0 := by
  have hn := hA.1
  refine ⟨by rw [lp_D0 hA]; decide, fun j hj => ?_, fun j h1 h2 => ?_, fun j h => ?_, fun j hj => ?_⟩
  · unfold lpB0; rw [if_pos (by omega)]; exact ⟨by omega, Or.inl (by omega)⟩
  · unfold lpB0; rw [if_pos h2]
  · unfold lpB0; rw [if_neg (by omega)]
  · have u : ∀ w k : Nat, k + w = n → k ≤ j → lxp (fun i => lpT A lpB0 i j) w (k + 1)
        := fun w => by
      induction w with
      | zero => intro k h1 h2; omega
      | succ w ih =>
        intro k h1 h2
        have e : lpT A lpB0 (k + 1) j = if k = j then 1 else 0 := by rw [lp_T0 hA (by omega)]; exact hA.2.2.1 k j (by omega) (by omega)
        by_cases z : k = j
        · exact Or.inl (by show 0 < lpT A lpB0 (k + 1) j; rw [e, if_pos z]; decide)
        · exact Or.inr ⟨by show lpT A lpB0 (k + 1) j = 0; rw [e, if_neg z], ih (k + 1) (by omega) (by omega)⟩
    have e0 := lp_T0 (i := 0) hA (show j < 4 by omega)
    have g0 := hg j hj
    show 0 < lpT A lpB0 0 j ∨ (lpT A lpB0 0 j = 0 ∧ _)
    rw [e0]
    by_cases z : A 0 j = 0
    · exact Or.inr ⟨z, u n 0 (by omega) (by omega)⟩
    · exact Or.inl (by omega)
/-- a basis' number -/
def lpN (B : Nat → Nat) : Nat := B 0 + 13 * (B 1 + 13 * (B 2 + 13 * B 3))
theorem lpN_lt (hA : LpA n m A C) (hS : LpS n m A B) : lpN B < 28561 := by
  have h : ∀ j, j < 4 → B j < 13 := fun j hj => by
    have := hA.1
    have := hA.2.1
    by_cases z : j < n
    · rcases (hS.2.1 j z).2 with y | y <;> omega
    · rw [hS.2.2.1 j (by omega) hj]; omega
  have h0 := h 0 (by omega)
  have h1 := h 1 (by omega)
  have h2 := h 2 (by omega)
  have h3 := h 3 (by omega)
  unfold lpN
  omega
theorem lpN_eq {B' : Nat → Nat} (hA : LpA n m A C) (hS : LpS n m A B) (hS' : LpS n m A B') (e : lpN B = lpN B') : B = B' := by
  have h : ∀ {B : Nat → Nat}, LpS n m A B → ∀ j, j < 4 → B j < 13 := fun hS j hj => by
    have := hA.1
    have := hA.2.1
    by_cases z : j < n
    · rcases (hS.2.1 j z).2 with y | y <;> omega
    · rw [hS.2.2.1 j (by omega) hj]; omega
  have h0 := h hS 0 (by omega); have h1 := h hS 1 (by omega); have h2 := h hS 2 (by omega); have h3 := h hS 3 (by omega)
  have g0 := h hS' 0 (by omega); have g1 := h hS' 1 (by omega); have g2 := h hS' 2 (by omega); have g3 := h hS' 3 (by omega)
  unfold lpN at e
  funext j
  by_cases hj : j < 4
  · rcases lt4 hj with rfl | rfl | rfl | rfl <;> omega
  · rw [hS.2.2.2.1 j (by omega), hS'.2.2.2.1 j (by omega)]
/-- how many numbers below N are not yet marked -/
def lpU (v : Nat → Bool) : Nat → Nat
  | 0 => 0
  | N + 1 => lpU v N + (if v N = true then 0 else 1)
theorem lpU_le (v : Nat → Bool) : ∀ N, lpU v N ≤ N
  | 0 => by unfold lpU; omega
  | N + 1 => by unfold lpU; have := lpU_le v N; split <;> omega
theorem lpU_up {v : Nat → Bool} {b : Nat} : ∀ N, (N ≤ b → lpU (fun k => v k || k == b) N = lpU v N) ∧ (b < N → v b = false → lpU (fun k => v k || k == b) N + 1 = lpU v N)
  | 0 => ⟨fun _ => rfl, fun h => by omega⟩
  | N + 1 => by
    obtain ⟨h1, h2⟩ := lpU_up (v := v) (b := b) N
    refine ⟨fun h => ?_, fun h hv => ?_⟩
    · unfold lpU
      rw [h1 (by omega)]
      have : (N == b) = false := by rw [beq_eq_false_iff_ne]; omega
      simp only [this, Bool.or_false]
    · unfold lpU
      by_cases e : N = b
      · subst e
        rw [h1 (by omega)]
        simp [hv]
      · have e2 := h2 (by omega) hv
        have : (N == b) = false := by rw [beq_eq_false_iff_ne]; exact e
        simp only [this, Bool.or_false]
        omega
/-- all marked points lie before that of B -/
def LpM (n m : Nat) (A : Nat → Nat → Int) (C : Nat → Int) (B : Nat → Nat) (v : Nat → Bool) : Prop := ∀ B', LpS n m A B' → v (lpN B') = true → lxp (fun i => lp0 A C B i * lpD A B' - lp0 A C B' i * lpD A B) (n + 1) 0
theorem lpM_new (hA : LpA n m A C) (hS : LpS n m A B) {v : Nat → Bool} (h : LpM n m A C B v) : v (lpN B) = false := by
  by_cases e : v (lpN B) = true
  · exact (lxp_irr (h B hS e) (fun k _ _ => by show lp0 A C B k * lpD A B - lp0 A C B k * lpD A B = 0; omega)).elim
  · simpa using e
theorem lpM_up (hA : LpA n m A C) (hS : LpS n m A B) {B2 : Nat → Nat} (hS2 : LpS n m A B2) {v : Nat → Bool} (h : LpM n m A C B v) (g : lxp (fun i => lp0 A C B2 i * lpD A B - lp0 A C B i * lpD A B2) (n + 1) 0) : LpM n m A C B2 (fun k => v k || k == lpN B) := fun B' hS' hv => by
  simp only [Bool.or_eq_true, beq_iff_eq] at hv
  rcases hv with hv | hv
  · refine lxp_d hS.1 (lxp_c (fun k _ _ => ?_) (lxp_a (lxp_m hS'.1 g) (lxn_m (Int.le_of_lt hS2.1) (lxp_n (h B' hS' hv)))))
    show lpD A B * (lp0 A C B2 k * lpD A B' - lp0 A C B' k * lpD A B2) = lpD A B' * (lp0 A C B2 k * lpD A B - lp0 A C B k * lpD A B2) + lpD A B2 * (lp0 A C B k * lpD A B' - lp0 A C B' k * lpD A B)
    grind
  · have := lpN_eq hA hS' hS hv
    rw [this]
    exact g
/-! how large they can be -/
def bd (b x : Int) : Prop := -b ≤ x ∧ x ≤ b
theorem bd_m {a b x y : Int} (h1 : bd a x) (h2 : bd b y) : bd (a * b) (x * y) := by
  unfold bd at *
  have ha : 0 ≤ a := by omega
  have hb : 0 ≤ b := by omega
  have p1 := Int.mul_nonneg (show 0 ≤ a - x by omega) (show 0 ≤ b - y by omega)
  have p2 := Int.mul_nonneg (show 0 ≤ a + x by omega) (show 0 ≤ b + y by omega)
  have p3 := Int.mul_nonneg (show 0 ≤ a - x by omega) (show 0 ≤ b + y by omega)
  have p4 := Int.mul_nonneg (show 0 ≤ a + x by omega) (show 0 ≤ b - y by omega)
  rw [Int.sub_mul, Int.mul_sub, Int.mul_sub] at p1
  rw [Int.add_mul, Int.mul_add, Int.mul_add] at p2
  rw [Int.sub_mul, Int.mul_add, Int.mul_add] at p3
  rw [Int.add_mul, Int.mul_sub, Int.mul_sub] at p4
  omega
theorem bd_a {a b x y : Int} (h1 : bd a x) (h2 : bd b y) : bd (a + b) (x + y) := by unfold bd at *; omega
theorem bd_s {a b x y : Int} (h1 : bd a x) (h2 : bd b y) : bd (a + b) (x - y) := by unfold bd at *; omega
theorem bd_l {a b x : Int} (h : bd a x) (q : a ≤ b) : bd b x := by unfold bd at *; omega
theorem bd_d3 {b0 b1 b2 : Int} {p q r u v w f g h : Int} (h1 : bd b0 p) (h2 : bd b0 q) (h3 : bd b0 r) (h4 : bd b1 u) (h5 : bd b1 v) (h6 : bd b1 w) (h7 : bd b2 f) (h8 : bd b2 g) (h9 : bd b2 h) : bd (6 * (b0 * (b1 * b2))) (d3 p q r u v w f g h) := by
  have e := bd_a (bd_s (bd_m h1 (bd_s (bd_m h5 h9) (bd_m h6 h8))) (bd_m h2 (bd_s (bd_m h4 h9) (bd_m h6 h7)))) (bd_m h3 (bd_s (bd_m h4 h8) (bd_m h5 h7)))
  refine bd_l e (Int.le_of_eq ?_)
  grind
theorem lp_bV (hB : ∀ j s, j < 4 → s < 4 → bd 12 (A (B j) s)) (hj : j < 4) (hk : k < 4) : bd 10368 (lpV A B k j) := by
  have h : ∀ i s, i < 3 → s < 3 → bd 12 (lpP A B (sk j i) (sk k s)) := fun i s h1 h2 => hB _ _ (by unfold sk; split <;> omega) (by unfold sk; split <;> omega)
  have e := bd_d3 (h 0 0 (by omega) (by omega)) (h 0 1 (by omega) (by omega)) (h 0 2 (by omega) (by omega)) (h 1 0 (by omega) (by omega)) (h 1 1 (by omega) (by omega)) (h 1 2 (by omega) (by omega)) (h 2 0 (by omega) (by omega)) (h 2 1 (by omega) (by omega)) (h 2 2 (by omega) (by omega))
  unfold lpV cof
  generalize d3 _ _ _ _ _ _ _ _ _ = y at *
  unfold bd at *
  unfold sg4
  split <;> omega
theorem lp_bT {a : Int} (hB : ∀ j s, j < 4 → s < 4 → bd 12 (A (B j) s)) (hj : j < 4) (hi : ∀ s, s < 4 → bd a (A i s)) : bd (41472 * a) (lpT A B i j) := by
  have e := bd_a (bd_a (bd_a (bd_m (hi 0 (by omega)) (lp_bV hB hj (show 0 < 4 by omega))) (bd_m (hi 1 (by omega)) (lp_bV hB hj (show 1 < 4 by omega)))) (bd_m (hi 2 (by omega)) (lp_bV hB hj (show 2 < 4 by omega)))) (bd_m (hi 3 (by omega)) (lp_bV hB hj (show 3 < 4 by omega)))
  exact bd_l e (by omega)
theorem lp_bD (hB : ∀ j s, j < 4 → s < 4 → bd 12 (A (B j) s)) : bd 497664 (lpD A B) := by
  have e := lp_TB (A := A) (B := B) (j := 0) (k := 0) (by omega) (by omega)
  rw [if_pos rfl] at e
  rw [← e]
  exact bd_l (lp_bT hB (by omega) (fun s hs => hB 0 s (by omega) hs)) (by decide)
theorem lp_b0 {a : Int} (hB : ∀ j s, j < 4 → s < 4 → bd 12 (A (B j) s)) (hi : ∀ s, s < 4 → bd a (A i s)) (hC : ∀ j, j < 4 → bd 2376 (C (B j))) (hCi : bd 2376 (C i)) : bd (2376 * 497664 + 394149888 * a) (lp0 A C B i) := by
  have t := fun j (hj : j < 4) => bd_m (lp_bT (i := i) hB hj hi) (hC j hj)
  have e := bd_s (bd_m hCi (lp_bD hB)) (bd_a (bd_a (bd_a (t 0 (by omega)) (t 1 (by omega))) (t 2 (by omega))) (t 3 (by omega)))
  exact bd_l e (by omega)
end
