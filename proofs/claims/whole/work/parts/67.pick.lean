/-! which rows: in the order of their places -/
/-- rows of R at the places a, b, c, d -/
def rw4 (R : Nat → Nat → Int) (a b c d : Nat) (j s : Nat) : Int := R (if j = 0 then a else if j = 1 then b else if j = 2 then c else d) s
def NZ (R : Nat → Nat → Int) (S : Nat → Nat → Nat → Nat → Prop) (a b c d : Nat) : Prop := det4 (rw4 R a b c d) ≠ 0 ∧ S a b c d
section
variable {R : Nat → Nat → Int} {S : Nat → Nat → Nat → Nat → Prop} {a b c d : Nat}
theorem NZ_01 (h1 : ∀ a b c d, S a b c d → S b a c d) (h : NZ R S a b c d) : NZ R S b a c d := ⟨fun z => h.1 (by simp [det4, s4, cof, sk, d3, sg4, rw4] at z ⊢; grind), h1 _ _ _ _ h.2⟩
theorem NZ_12 (h2 : ∀ a b c d, S a b c d → S a c b d) (h : NZ R S a b c d) : NZ R S a c b d := ⟨fun z => h.1 (by simp [det4, s4, cof, sk, d3, sg4, rw4] at z ⊢; grind), h2 _ _ _ _ h.2⟩
theorem NZ_23 (h3 : ∀ a b c d, S a b c d → S a b d c) (h : NZ R S a b c d) : NZ R S a b d c := ⟨fun z => h.1 (by simp [det4, s4, cof, sk, d3, sg4, rw4] at z ⊢; grind), h3 _ _ _ _ h.2⟩
theorem NZ_ne (h : NZ R S a a c d) : False := h.1 (by simp [det4, s4, cof, sk, d3, sg4, rw4]; grind)
theorem NZ_s2 (h1 : ∀ a b c d, S a b c d → S b a c d) (h : NZ R S a b c d) : ∃ a b, a < b ∧ NZ R S a b c d := by
  rcases Nat.lt_trichotomy a b with z | z | z
  · exact ⟨a, b, z, h⟩
  · rw [z] at h; exact (NZ_ne h).elim
  · exact ⟨b, a, z, NZ_01 h1 h⟩
theorem NZ_s3 (h1 : ∀ a b c d, S a b c d → S b a c d) (h2 : ∀ a b c d, S a b c d → S a c b d) (h : NZ R S a b c d) : ∃ a b c, a < b ∧ b < c ∧ NZ R S a b c d := by
  obtain ⟨a, b, hab, h⟩ := NZ_s2 h1 h
  rcases Nat.lt_trichotomy b c with z | z | z
  · exact ⟨a, b, c, hab, z, h⟩
  · rw [z] at h; exact (NZ_ne (NZ_01 h1 (NZ_12 h2 (NZ_01 h1 h)))).elim
  · rcases Nat.lt_trichotomy a c with y | y | y
    · exact ⟨a, c, b, y, z, NZ_12 h2 h⟩
    · rw [y] at h; exact (NZ_ne (NZ_12 h2 h)).elim
    · exact ⟨c, a, b, y, hab, NZ_01 h1 (NZ_12 h2 h)⟩
theorem NZ_s4 (h1 : ∀ a b c d, S a b c d → S b a c d) (h2 : ∀ a b c d, S a b c d → S a c b d) (h3 : ∀ a b c d, S a b c d → S a b d c) (h : NZ R S a b c d) : ∃ a b c d, a < b ∧ b < c ∧ c < d ∧ NZ R S a b c d := by
  obtain ⟨a, b, c, hab, hbc, h⟩ := NZ_s3 h1 h2 h
  rcases Nat.lt_trichotomy c d with z | z | z
  · exact ⟨a, b, c, d, hab, hbc, z, h⟩
  · rw [z] at h; exact (NZ_ne (NZ_12 h2 (NZ_01 h1 (NZ_23 h3 (NZ_12 h2 h))))).elim
  · rcases Nat.lt_trichotomy b d with y | y | y
    · exact ⟨a, b, d, c, hab, y, z, NZ_23 h3 h⟩
    · rw [y] at h; exact (NZ_ne (NZ_12 h2 (NZ_01 h1 (NZ_23 h3 h)))).elim
    · rcases Nat.lt_trichotomy a d with x | x | x
      · exact ⟨a, d, b, c, x, y, hbc, NZ_12 h2 (NZ_23 h3 h)⟩
      · rw [x] at h; exact (NZ_ne (NZ_12 h2 (NZ_23 h3 h))).elim
      · exact ⟨d, a, b, c, x, hab, hbc, NZ_01 h1 (NZ_12 h2 (NZ_23 h3 h))⟩
end
theorem det_c {P P' : Nat → Nat → Int} (h : ∀ j s, j < 4 → s < 4 → P j s = P' j s) : det4 P = det4 P' := by
  have g0 := fun s (hs : s < 4) => h 0 s (by omega) hs
  have g1 := fun s (hs : s < 4) => h 1 s (by omega) hs
  have g2 := fun s (hs : s < 4) => h 2 s (by omega) hs
  have g3 := fun s (hs : s < 4) => h 3 s (by omega) hs
  simp [det4, s4, cof, sk, d3, sg4, g0, g1, g2, g3]
/-- the places whose bits are set -/
def bl (set : Nat) : Nat → List Nat
  | 0 => []
  | i + 1 => bl set i ++ (if set / 2 ^ i % 2 = 1 then [i] else [])
theorem bl_2 : ∀ N, N < 13 → ∀ b, b < N → ∀ a, a < b → bl (2 ^ a + 2 ^ b) N = [a, b] ∧ 2 ^ a + 2 ^ b < 2 ^ N := by decide +kernel
theorem bl_3 : ∀ N, N < 13 → ∀ c, c < N → ∀ b, b < c → ∀ a, a < b → bl (2 ^ a + 2 ^ b + 2 ^ c) N = [a, b, c] ∧ 2 ^ a + 2 ^ b + 2 ^ c < 2 ^ N := by decide +kernel
theorem bl_4 : ∀ N, N < 13 → ∀ d, d < N → ∀ c, c < d → ∀ b, b < c → ∀ a, a < b → bl (2 ^ a + 2 ^ b + 2 ^ c + 2 ^ d) N = [a, b, c, d] ∧ 2 ^ a + 2 ^ b + 2 ^ c + 2 ^ d < 2 ^ N := by
  have h : ((List.range 13).all fun N => (List.range N).all fun d => (List.range d).all fun c => (List.range c).all fun b => (List.range b).all fun a => bl (2 ^ a + 2 ^ b + 2 ^ c + 2 ^ d) N == [a, b, c, d] && decide (2 ^ a + 2 ^ b + 2 ^ c + 2 ^ d < 2 ^ N)) = true := by decide +kernel
  intro N hN d hd c hc b hb a ha
  have h1 := List.all_eq_true.mp h N (List.mem_range.mpr hN)
  have h2 := List.all_eq_true.mp h1 d (List.mem_range.mpr hd)
  have h3 := List.all_eq_true.mp h2 c (List.mem_range.mpr hc)
  have h4 := List.all_eq_true.mp h3 b (List.mem_range.mpr hb)
  have h5 := List.all_eq_true.mp h4 a (List.mem_range.mpr ha)
  simp only [Bool.and_eq_true, beq_iff_eq, decide_eq_true_eq] at h5
  exact h5
