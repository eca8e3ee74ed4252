/-! WHAT A METHOD ANSWERS IS OF ITS TYPE; the first memory -/
def vTy (t : Option FieldType) (r : Option vV) : Prop := (t = some .int → ∃ x, r = some (vI x)) ∧ (t = some .long → ∃ x, r = some (vL x)) ∧ (t = some .boolean → ∃ x, r = some (vI x))
theorem vm_ret_ty {j t : Nat} {st : List vV} {hp : vH} {r : Option vV} (h : vm_ret j st hp t = some (.inl r)) : vTy (vm_rt j) r := by
  unfold vm_ret at h
  split at h
  · split at h
    · next e => cases h; rw [e]; exact ⟨fun _ => ⟨_, rfl⟩, fun q => (by cases q), fun q => (by cases q)⟩
    · split at h
      · next e =>
        split at h
        · cases h; rw [e]; exact ⟨fun q => (by cases q), fun q => (by cases q), fun _ => ⟨_, rfl⟩⟩
        · cases h
      · cases h
  · split at h
    · next e => cases h; rw [e]; exact ⟨fun q => (by cases q), fun _ => ⟨_, rfl⟩, fun q => (by cases q)⟩
    · cases h
  · split at h
    · next e => cases h; rw [e]; exact ⟨fun q => (nomatch q), fun q => (nomatch q), fun q => (nomatch q)⟩
    · cases h
  · cases h
theorem vm_do_ty {xs : Nat → Int} {L j pc : Nat} {ls st : List vV} {hp : vH} {r : Option vV} (h : vm_do xs L j pc ls st hp = some (.inl r)) : vTy (vm_rt j) r := by
  unfold vm_do at h
  split at h
  · next i len _ =>
    split at h
    · generalize hq : vm_i xs L j pc ls st hp i len = q at h
      unfold vm_go at h
      split at h
      · next r1 =>
        split at h
        · cases h; exact vm_ret_ty (t := 0) (hp := hp) hq
        · cases h; exact vm_ret_ty (t := 1) (hp := hp) hq
        · cases h; exact vm_ret_ty (t := 2) (hp := hp) hq
        · cases h
      · split at h
        · cases h
        · cases h
        · cases h
        · cases h
      · next hn _ => exact absurd h (hn _)
    · cases h
  · cases h
theorem vm_run_ty {xs : Nat → Int} {L : Nat} {o : vO} {r : Option vV} {hp1 : vH} : ∀ (n j pc : Nat) (ls st : List vV) (hp : vH), vm_run xs L o n j pc ls st hp = some (r, hp1) → vTy (vm_rt j) r
  | 0, _, _, _, _, _, h => by cases h
  | n + 1, j, pc, ls, st, hp, h => by
    unfold vm_run at h
    split at h
    · cases h
    · next e => cases h; exact vm_do_ty e
    · split at h
      · cases h
      · split at h
        · exact vm_run_ty n _ _ _ _ _ h
        · cases h
    · split at h
      · exact vm_run_ty n _ _ _ _ _ h
      · cases h
theorem cq.ty {X : vX} {d j : Nat} {as : List vV} {M : vM} {Q : Option vV → vM → Prop} (h : cq X d j as M Q) : cq X d j as M (fun r M1 => Q r M1 ∧ vTy (vm_rt j) r) := by
  obtain ⟨n, r, hp1, h1, M1, h2, h3⟩ := h
  refine ⟨n, r, hp1, h1, M1, h2, h3, ?_⟩
  cases d with
  | zero => cases h1
  | succ d =>
    unfold vm_call at h1
    split at h1
    · exact vm_run_ty _ _ _ _ _ _ h1
    · cases h1
def vMi (c : Int) : vM := vM_R_init (vm_new (vM_X_init (vm_new (fun _ _ => 0) 0 (.inl 10)) c) 81 (.inl 11)) c
theorem vMi_of {c c' n : Int} (e1 : w32 (2 + c % 3) = n) (e2 : w32 (2 + j_irem (w32 (j_irem c 3 + 3)) 3) = n) (e1' : w32 (2 + c' % 3) = n) (e2' : w32 (2 + j_irem (w32 (j_irem c' 3 + 3)) 3) = n) : vMi c = vMi c' := by
  unfold vMi vM_R_init vM_X_init
  rw [e1, e2, e1', e2']
theorem tm3n {x : Int} (h : x < 0) : x.tmod 3 = -((-x) % 3) := by
  rw [← Int.tmod_eq_emod_of_nonneg (show 0 ≤ -x by omega), Int.neg_tmod]
  omega
theorem vMi_s {c : Int} (hx : -2147483648 ≤ c ∧ c < 2147483648) : w32 (2 + c % 3) = 2 + c % 3 ∧ w32 (2 + j_irem (w32 (j_irem c 3 + 3)) 3) = 2 + c % 3 := by
  have t := tm3 c
  have e := j_rem3 hx
  refine ⟨w32_id (by omega) (by omega), ?_⟩
  have hb : -3 < c.tmod 3 ∧ c.tmod 3 < 3 := by
    by_cases h : 0 ≤ c
    · rw [t.1 h]; omega
    · have := tm3n (x := c) (by omega); omega
  have e3 : w32 (j_irem c 3 + 3) = c.tmod 3 + 3 := by rw [e]; exact w32_id (by omega) (by omega)
  have e4 : j_irem (c.tmod 3 + 3) 3 = (c.tmod 3 + 3) % 3 := by rw [j_rem3 (by omega), (tm3 _).1 (by omega)]
  rw [e3, e4, w32_id (by omega) (by omega)]
  by_cases h : 0 ≤ c
  · rw [t.1 h]; omega
  · have := tm3n (x := c) (by omega); omega
theorem vRefs_i0 : vRefs (vMi 0) := ⟨(by decide +kernel), (by decide +kernel), (by decide +kernel), (by decide +kernel), (by decide +kernel), (by decide +kernel)⟩
theorem RA_i0 : RA (vMi 0) := ⟨(by decide +kernel), (by decide +kernel), (by decide +kernel), (by decide +kernel), (by decide +kernel), (by decide +kernel), (by decide +kernel), (by decide +kernel), (by decide +kernel), fun a w s ha hw hs => (fun (z : vMi 0 83 (12 * a + 4 * w + s) = vMi 0 (4 + (2 * a + w)) s ∧ vMi 0 (4 + (2 * a + w)) s = 0) => ⟨z.1, by rw [z.2]; decide, by rw [z.2]; decide, fun _ => z.2⟩) (((by decide +kernel) : ∀ a, a < 4 → ∀ w, w < 2 → ∀ s, s < 4 → vMi 0 83 (12 * a + 4 * w + s) = vMi 0 (4 + (2 * a + w)) s ∧ vMi 0 (4 + (2 * a + w)) s = 0) a ha w hw s hs), fun a w ha hw => absurd ha (by rw [show vMi 0 1 4 = 0 by decide +kernel]; omega)⟩
theorem RM_i0 : RM (vMi 0) := ⟨(by decide +kernel), (by decide +kernel)⟩
theorem RP_i0 : RP (vMi 0) := ⟨(by decide +kernel), (by decide +kernel), (by decide +kernel), (by decide +kernel), Or.inl ((by decide +kernel)), fun h => absurd h ((by decide +kernel))⟩
theorem RT_i0 : RT (vMi 0) := ⟨(by decide +kernel), (by decide +kernel), (by decide +kernel), (by decide +kernel), (by decide +kernel)⟩
theorem RC_i0 : RC (vMi 0) := ⟨(by decide +kernel), (by decide +kernel), (by decide +kernel), (by decide +kernel)⟩
theorem RK_i0 : RK (vMi 0) := ⟨(by decide +kernel), (by decide +kernel), fun k _ hk => absurd hk (by rw [show vMi 0 56 4 = 0 by decide +kernel]; omega), (by decide +kernel), (by decide +kernel), fun k _ hk => absurd hk (by rw [show vMi 0 56 5 = 0 by decide +kernel]; omega)⟩
theorem RY_i0 : RY (vMi 0) := ⟨(by decide +kernel), (by decide +kernel), (by decide +kernel), (by decide +kernel), fun y _ hy => absurd hy (by rw [show vMi 0 70 6 = 0 by decide +kernel]; omega)⟩
theorem R2_i0 : R2 (vMi 0) := ⟨(by decide +kernel), (by decide +kernel), (by decide +kernel)⟩
theorem Rel_0 : Rel (vMi 0) := ⟨vRefs_i0, RA_i0, RM_i0, RP_i0, RT_i0, RC_i0, RK_i0, RY_i0, R2_i0⟩
theorem vRefs_i1 : vRefs (vMi 1) := ⟨(by decide +kernel), (by decide +kernel), (by decide +kernel), (by decide +kernel), (by decide +kernel), (by decide +kernel)⟩
theorem RA_i1 : RA (vMi 1) := ⟨(by decide +kernel), (by decide +kernel), (by decide +kernel), (by decide +kernel), (by decide +kernel), (by decide +kernel), (by decide +kernel), (by decide +kernel), (by decide +kernel), fun a w s ha hw hs => (fun (z : vMi 1 83 (12 * a + 4 * w + s) = vMi 1 (4 + (2 * a + w)) s ∧ vMi 1 (4 + (2 * a + w)) s = 0) => ⟨z.1, by rw [z.2]; decide, by rw [z.2]; decide, fun _ => z.2⟩) (((by decide +kernel) : ∀ a, a < 4 → ∀ w, w < 2 → ∀ s, s < 4 → vMi 1 83 (12 * a + 4 * w + s) = vMi 1 (4 + (2 * a + w)) s ∧ vMi 1 (4 + (2 * a + w)) s = 0) a ha w hw s hs), fun a w ha hw => absurd ha (by rw [show vMi 1 1 4 = 0 by decide +kernel]; omega)⟩
theorem RM_i1 : RM (vMi 1) := ⟨(by decide +kernel), (by decide +kernel)⟩
theorem RP_i1 : RP (vMi 1) := ⟨(by decide +kernel), (by decide +kernel), (by decide +kernel), (by decide +kernel), Or.inl ((by decide +kernel)), fun h => absurd h ((by decide +kernel))⟩
theorem RT_i1 : RT (vMi 1) := ⟨(by decide +kernel), (by decide +kernel), (by decide +kernel), (by decide +kernel), (by decide +kernel)⟩
theorem RC_i1 : RC (vMi 1) := ⟨(by decide +kernel), (by decide +kernel), (by decide +kernel), (by decide +kernel)⟩
theorem RK_i1 : RK (vMi 1) := ⟨(by decide +kernel), (by decide +kernel), fun k _ hk => absurd hk (by rw [show vMi 1 56 4 = 0 by decide +kernel]; omega), (by decide +kernel), (by decide +kernel), fun k _ hk => absurd hk (by rw [show vMi 1 56 5 = 0 by decide +kernel]; omega)⟩
theorem RY_i1 : RY (vMi 1) := ⟨(by decide +kernel), (by decide +kernel), (by decide +kernel), (by decide +kernel), fun y _ hy => absurd hy (by rw [show vMi 1 70 6 = 0 by decide +kernel]; omega)⟩
theorem R2_i1 : R2 (vMi 1) := ⟨(by decide +kernel), (by decide +kernel), (by decide +kernel)⟩
theorem Rel_1 : Rel (vMi 1) := ⟨vRefs_i1, RA_i1, RM_i1, RP_i1, RT_i1, RC_i1, RK_i1, RY_i1, R2_i1⟩
theorem vRefs_i2 : vRefs (vMi 2) := ⟨(by decide +kernel), (by decide +kernel), (by decide +kernel), (by decide +kernel), (by decide +kernel), (by decide +kernel)⟩
theorem RA_i2 : RA (vMi 2) := ⟨(by decide +kernel), (by decide +kernel), (by decide +kernel), (by decide +kernel), (by decide +kernel), (by decide +kernel), (by decide +kernel), (by decide +kernel), (by decide +kernel), fun a w s ha hw hs => (fun (z : vMi 2 83 (12 * a + 4 * w + s) = vMi 2 (4 + (2 * a + w)) s ∧ vMi 2 (4 + (2 * a + w)) s = 0) => ⟨z.1, by rw [z.2]; decide, by rw [z.2]; decide, fun _ => z.2⟩) (((by decide +kernel) : ∀ a, a < 4 → ∀ w, w < 2 → ∀ s, s < 4 → vMi 2 83 (12 * a + 4 * w + s) = vMi 2 (4 + (2 * a + w)) s ∧ vMi 2 (4 + (2 * a + w)) s = 0) a ha w hw s hs), fun a w ha hw => absurd ha (by rw [show vMi 2 1 4 = 0 by decide +kernel]; omega)⟩
theorem RM_i2 : RM (vMi 2) := ⟨(by decide +kernel), (by decide +kernel)⟩
theorem RP_i2 : RP (vMi 2) := ⟨(by decide +kernel), (by decide +kernel), (by decide +kernel), (by decide +kernel), Or.inl ((by decide +kernel)), fun h => absurd h ((by decide +kernel))⟩
theorem RT_i2 : RT (vMi 2) := ⟨(by decide +kernel), (by decide +kernel), (by decide +kernel), (by decide +kernel), (by decide +kernel)⟩
theorem RC_i2 : RC (vMi 2) := ⟨(by decide +kernel), (by decide +kernel), (by decide +kernel), (by decide +kernel)⟩
theorem RK_i2 : RK (vMi 2) := ⟨(by decide +kernel), (by decide +kernel), fun k _ hk => absurd hk (by rw [show vMi 2 56 4 = 0 by decide +kernel]; omega), (by decide +kernel), (by decide +kernel), fun k _ hk => absurd hk (by rw [show vMi 2 56 5 = 0 by decide +kernel]; omega)⟩
theorem RY_i2 : RY (vMi 2) := ⟨(by decide +kernel), (by decide +kernel), (by decide +kernel), (by decide +kernel), fun y _ hy => absurd hy (by rw [show vMi 2 70 6 = 0 by decide +kernel]; omega)⟩
theorem R2_i2 : R2 (vMi 2) := ⟨(by decide +kernel), (by decide +kernel), (by decide +kernel)⟩
theorem Rel_2 : Rel (vMi 2) := ⟨vRefs_i2, RA_i2, RM_i2, RP_i2, RT_i2, RC_i2, RK_i2, RY_i2, R2_i2⟩
theorem Rel_i {c : Int} (hx : -2147483648 ≤ c ∧ c < 2147483648) : Rel (vMi c) := by
  obtain ⟨a1, a2⟩ := vMi_s hx
  rcases (show c % 3 = 0 ∨ c % 3 = 1 ∨ c % 3 = 2 by omega) with h | h | h
  · obtain ⟨b1, b2⟩ := vMi_s (c := 0) (by omega)
    rw [vMi_of (c' := 0) a1 a2 (by rw [b1, h]; rfl) (by rw [b2, h]; rfl)]
    exact Rel_0
  · obtain ⟨b1, b2⟩ := vMi_s (c := 1) (by omega)
    rw [vMi_of (c' := 1) a1 a2 (by rw [b1, h]; rfl) (by rw [b2, h]; rfl)]
    exact Rel_1
  · obtain ⟨b1, b2⟩ := vMi_s (c := 2) (by omega)
    rw [vMi_of (c' := 2) a1 a2 (by rw [b1, h]; rfl) (by rw [b2, h]; rfl)]
    exact Rel_2
