/-! THE CLASS'S LEAST POINT is the reference's -/
theorem dot_s4 {f x : Nat → Int} {n : Nat} (hn : n ≤ 4) (hx : ∀ s, n ≤ s → x s = 0) : dot f x n = s4 (fun k => f k * x k) := by
  have : n = 0 ∨ n = 1 ∨ n = 2 ∨ n = 3 ∨ n = 4 := by omega
  rcases this with e | e | e | e | e <;> subst e <;> simp [dot, s4]
  · rw [hx 0 (by omega), hx 1 (by omega), hx 2 (by omega), hx 3 (by omega)]; simp
  · rw [hx 1 (by omega), hx 2 (by omega), hx 3 (by omega)]; simp
  · rw [hx 2 (by omega), hx 3 (by omega)]; simp
  · rw [hx 3 (by omega)]; simp
section AG
variable {n acts a P : Nat} {cw : Nat → Nat → Nat → Int} {co : Nat → Int} {re t : Int} {x : Nat → Int} {B : Nat → Nat}
abbrev gA (acts a P : Nat) (cw : Nat → Nat → Nat → Int) := pyA acts a (P * acts) cw
abbrev gC (acts a P : Nat) (co : Nat → Int) (re : Int) := pyC acts a (P * acts) co re
/-- the line of bound r -/
def lnr (acts a P r : Nat) : Nat := if r < P * acts then 5 + (r / acts * acts + qrow a (r % acts)) else r - P * acts + 1
def AgH (n acts a P : Nat) (cw : Nat → Nat → Nat → Int) : Prop := (2 ≤ n ∧ n ≤ 4) ∧ acts ≤ 4 ∧ a < acts ∧ (1 ≤ P ∧ P ≤ 2) ∧ ∀ p b s, n ≤ s → cw p b s = 0
theorem AgH_m (h : AgH n acts a P cw) : P * acts ≤ 8 := by
  have := Nat.mul_le_mul h.2.2.2.1.2 h.2.1
  omega
theorem lnr_r (h : AgH n acts a P cw) {r : Nat} (hr : r < P * acts + n) : 1 ≤ lnr acts a P r ∧ rl n (P * acts) (lnr acts a P r) := by
  unfold lnr
  by_cases e : r < P * acts
  · rw [if_pos e]
    have h0 : 0 < acts := by have := h.2.2.1; omega
    have h1 : r / acts < P := (Nat.div_lt_iff_lt_mul h0).mpr e
    have h2 : r % acts < acts := Nat.mod_lt _ h0
    have h3 : qrow a (r % acts) < acts := by have := h.2.2.1; unfold qrow; split <;> (try split) <;> omega
    have h4 : (r / acts + 1) * acts ≤ P * acts := Nat.mul_le_mul_right _ h1
    rw [Nat.succ_mul] at h4
    refine ⟨by omega, Or.inr ⟨by omega, by omega⟩⟩
  · rw [if_neg e]
    exact ⟨by omega, Or.inl (by omega)⟩
theorem lnr_A (h : AgH n acts a P cw) {r s : Nat} (hr : r < P * acts + n) (hs : s < 4) : gA acts a P cw (lnr acts a P r) s = rA acts a P cw r s ∧ gC acts a P co re (lnr acts a P r) = - rC acts a P co re r := by
  have hl := lnr_r h hr
  unfold gA gC pyA pyC rA rC
  by_cases e : r < P * acts
  · have h0 : 0 < acts := by have := h.2.2.1; omega
    have h2 : r % acts < acts := Nat.mod_lt _ h0
    have h3 : qrow a (r % acts) < acts := by have := h.2.2.1; unfold qrow; split <;> (try split) <;> omega
    have el : lnr acts a P r = 5 + (r / acts * acts + qrow a (r % acts)) := by unfold lnr; rw [if_pos e]
    obtain ⟨e1, e2⟩ := pq_d (p := r / acts) h3
    have hn := h.1
    have hlt : lnr acts a P r < 5 + P * acts := by
      clear e1 e2
      rcases hl.2 with z | z
      · omega
      · exact z.2
    have eq : (qrow a (r % acts) = 0) ↔ r % acts = a := by unfold qrow; split <;> (try split) <;> omega
    rw [el] at hlt ⊢
    rw [e1, e2, if_neg (by omega), if_neg (by omega), if_pos hlt, if_pos e, if_pos (show 5 ≤ 5 + (r / acts * acts + qrow a (r % acts)) ∧ 5 + (r / acts * acts + qrow a (r % acts)) < 5 + P * acts by omega), if_pos e]
    by_cases z : r % acts = a
    · rw [if_pos (eq.mpr z), if_pos z, if_pos (eq.mpr z), if_pos z]; exact ⟨rfl, rfl⟩
    · have z2 : ¬ qrow a (r % acts) = 0 := fun y => z (eq.mp y)
      rw [if_neg z2, if_neg z, if_neg z2, if_neg z, (prow_q z).1]; exact ⟨rfl, rfl⟩
  · have el : lnr acts a P r = r - P * acts + 1 := by unfold lnr; rw [if_neg e]
    have hn := h.1
    rw [el, if_neg (show ¬ r - P * acts + 1 = 0 by omega), if_pos (show r - P * acts + 1 ≤ 4 by omega), if_neg e, if_neg (show ¬ (5 ≤ r - P * acts + 1 ∧ r - P * acts + 1 < 5 + P * acts) by omega), if_neg e]
    refine ⟨?_, rfl⟩
    by_cases z : s = r - P * acts
    · rw [if_pos z, if_pos (by omega)]
    · rw [if_neg z, if_neg (by omega)]
theorem lnr_L (h : AgH n acts a P cw) (hx : ∀ s, n ≤ s → x s = 0) {r : Nat} (hr : r < P * acts + n) : lpL (gA acts a P cw) (gC acts a P co re) (lnr acts a P r) t x = dot (rA acts a P cw r) x n - rC acts a P co re r * t := by
  rw [dot_s4 h.1.2 hx]
  unfold lpL
  have g := fun s (hs : s < 4) => (lnr_A (co := co) (re := re) h hr hs).1
  rw [(lnr_A (co := co) (re := re) h hr (show 0 < 4 by omega)).2]
  simp only [s4, g 0 (by omega), g 1 (by omega), g 2 (by omega), g 3 (by omega)]
  rw [Int.neg_mul]
  omega
theorem lnr_i (h : AgH n acts a P cw) {i : Nat} (hi : rl n (P * acts) i) (h1 : 1 ≤ i) : ∃ r, r < P * acts + n ∧ lnr acts a P r = i := by
  have hn := h.1
  rcases hi with z | z
  · exact ⟨P * acts + (i - 1), by omega, by unfold lnr; rw [if_neg (by omega)]; omega⟩
  · obtain ⟨d1, d2, d3'⟩ := wr_d (m := P) z
    have ha := h.2.2.1
    have hm : (i - 5) / acts * acts + (i - 5) % acts = i - 5 := by rw [Nat.mul_comm]; exact Nat.div_add_mod _ _
    have hm2 : ((i - 5) / acts + 1) * acts ≤ P * acts := Nat.mul_le_mul_right _ d1
    rw [Nat.succ_mul] at hm2
    by_cases e : (i - 5) % acts = 0
    · obtain ⟨e1, e2⟩ := pq_e (p := (i - 5) / acts) ha
      refine ⟨(i - 5) / acts * acts + a, by omega, ?_⟩
      unfold lnr
      rw [if_pos (by omega), e1, e2, show qrow a a = 0 by unfold qrow; rw [if_pos rfl]]
      omega
    · have hp : prow a ((i - 5) % acts) < acts := by unfold prow; split <;> omega
      obtain ⟨e1, e2⟩ := pq_e (p := (i - 5) / acts) hp
      refine ⟨(i - 5) / acts * acts + prow a ((i - 5) % acts), by omega, ?_⟩
      unfold lnr
      rw [if_pos (by omega), e1, e2, (qrow_p e).1]
      omega
theorem cF_L (h : AgH n acts a P cw) (hx : ∀ s, n ≤ s → x s = 0) (hf : cF n (P * acts + n) (rA acts a P cw) (rC acts a P co re) x t) : ∀ i, 1 ≤ i → rl n (P * acts) i → 0 ≤ lpL (gA acts a P cw) (gC acts a P co re) i t x := fun i h1 hi => by
  obtain ⟨r, hr, e⟩ := lnr_i h hi h1
  rw [← e, lnr_L h hx hr]
  have := hf r hr
  omega
theorem co_L (h : AgH n acts a P cw) (hA : LpA n (P * acts) (gA acts a P cw) (gC acts a P co re)) (hx : ∀ s, n ≤ s → x s = 0) {i : Nat} (hi : i ≤ n) : lpL (gA acts a P cw) (gC acts a P co re) i t x = co0 (dot (cw 0 a) x n) x i := by
  have hn := h.1
  have hC : gC acts a P co re i = 0 := hA.2.2.2.1 i (by omega)
  unfold lpL
  rw [hC, Int.zero_mul, Int.zero_add]
  cases i with
  | zero =>
    show _ = dot (cw 0 a) x n
    rw [dot_s4 hn.2 hx]
    rfl
  | succ k =>
    show _ = x k
    have e := hA.2.2.1 k
    simp only [s4, e 0 (by omega) (by omega), e 1 (by omega) (by omega), e 2 (by omega) (by omega), e 3 (by omega) (by omega)]
    rcases lt4 (show k < 4 by omega) with rfl | rfl | rfl | rfl <;> simp
theorem agree_no (h : AgH n acts a P cw) (hA : LpA n (P * acts) (gA acts a P cw) (gC acts a P co re)) (hs : SvNo n (P * acts) (gA acts a P cw) (gC acts a P co re) B) (ht : 0 < t) (hf : cF n (P * acts + n) (rA acts a P cw) (rC acts a P co re) x t) (hx : ∀ s, n ≤ s → x s = 0) : False := by
  obtain ⟨hS, r, h1, h2, h3, h4⟩ := hs
  exact lp_inf hA hS h1 h2 h3 h4 ht (cF_L h hx hf)
/-- bounds' rows, and those of the unknowns that aren't there -/
def gR (acts a P : Nat) (cw : Nat → Nat → Nat → Int) (r s : Nat) : Int := if r < 100 then rA acts a P cw r s else if s = r - 100 then 1 else 0
theorem gR_det (h : AgH n acts a P cw) {pk : Nat → Nat} {i0 i1 i2 i3 : Nat} (hp : ∀ r, r < n → pk r < P * acts + n ∧ (if r = 0 then i0 else if r = 1 then i1 else if r = 2 then i2 else i3) = pk r) (hv : ∀ r, n ≤ r → r < 4 → (if r = 0 then i0 else if r = 1 then i1 else if r = 2 then i2 else i3) = 100 + r) : detp n (pF (rA acts a P cw) pk) = det4 (rw4 (gR acts a P cw) i0 i1 i2 i3) := by
  have hm := AgH_m h
  have hn := h.1
  refine det_c (fun r s hr hs => ?_)
  unfold rw4 pad gR
  by_cases e : r < n
  · obtain ⟨p1, p2⟩ := hp r e
    rw [p2, if_pos (show pk r < 100 by omega)]
    by_cases e2 : s < n
    · rw [if_pos ⟨e, e2⟩]
    · rw [if_neg (show ¬ (r < n ∧ s < n) by omega), if_neg (show ¬ r = s by omega)]
      unfold rA
      by_cases e3 : pk r < P * acts
      · rw [if_pos e3]
        split
        · exact (h.2.2.2.2 _ _ s (by omega)).symm
        · rw [h.2.2.2.2 _ _ s (by omega), h.2.2.2.2 _ _ s (by omega)]; rfl
      · rw [if_neg e3, if_neg (by omega)]
  · rw [hv r (by omega) hr, if_neg (show ¬ (r < n ∧ s < n) by omega), if_neg (show ¬ 100 + r < 100 by omega), Nat.add_sub_cancel_left]
    by_cases e3 : r = s
    · rw [if_pos e3, if_pos e3.symm]
    · rw [if_neg e3, if_neg (fun z => e3 z.symm)]
theorem agree_fin (h : AgH n acts a P cw) (hA : LpA n (P * acts) (gA acts a P cw) (gC acts a P co re)) (hs : SvYes n (P * acts) (gA acts a P cw) (gC acts a P co re) B) {id : Nat → Nat} (hid : ∀ j, j < n → id j < P * acts + n ∧ lnr acts a P (id j) = B j) {pk : Nat → Nat} (hpk : ∀ r, r < n → pk r < P * acts + n) (hd : detp n (pF (rA acts a P cw) pk) ≠ 0) (hall : ∀ H : Nat → Prop, (∀ r, r < n → H (pk r)) → ∀ j, j < n → H (id j)) : cF n (P * acts + n) (rA acts a P cw) (rC acts a P co re) (crn n (rA acts a P cw) (rC acts a P co re) pk) (crt n (rA acts a P cw) pk) ∧ ∀ i, i ≤ n → lpD (gA acts a P cw) B * co0 (dot (cw 0 a) (crn n (rA acts a P cw) (rC acts a P co re) pk) n) (crn n (rA acts a P cw) (rC acts a P co re) pk) i = lp0 (gA acts a P cw) (gC acts a P co re) B i * crt n (rA acts a P cw) pk := by
  have hn := h.1
  have ht := crt_p hd
  have hx : ∀ s, n ≤ s → crn n (rA acts a P cw) (rC acts a P co re) pk s = 0 := fun s hs => crn_z hs
  have z0 : ∀ r, r < n → lpL (gA acts a P cw) (gC acts a P co re) (lnr acts a P (pk r)) (crt n (rA acts a P cw) pk) (crn n (rA acts a P cw) (rC acts a P co re) pk) = 0 := fun r hr => by
    rw [lnr_L h hx (hpk r hr), dot_s4 hn.2 hx, crn_eq hn.2 hr (fun s h1 h2 => ?_)]
    · omega
    · have e := lnr_A (co := co) (re := re) h (hpk r hr) h2
      rw [← e.1]
      exact hA.2.2.2.2 _ _ (lnr_r h (hpk r hr)).2 h1 h2
  have zB : ∀ j, j < 4 → lpL (gA acts a P cw) (gC acts a P co re) (B j) (crt n (rA acts a P cw) pk) (crn n (rA acts a P cw) (rC acts a P co re) pk) = 0 := fun j hj => by
    by_cases e : j < n
    · rw [← (hid j e).2]
      exact hall (fun r => lpL (gA acts a P cw) (gC acts a P co re) (lnr acts a P r) (crt n (rA acts a P cw) pk) (crn n (rA acts a P cw) (rC acts a P co re) pk) = 0) z0 j e
    · rw [hs.1.2.2.1 j (by omega) hj]
      unfold lpL
      have e2 := hA.2.2.1 j
      rw [hA.2.2.2.1 (j + 1) (by omega), Int.zero_mul, Int.zero_add]
      simp only [s4, e2 0 hj (by omega), e2 1 hj (by omega), e2 2 hj (by omega), e2 3 hj (by omega)]
      have := hx j (by omega)
      rcases lt4 hj with rfl | rfl | rfl | rfl <;> simp [this]
  have at' := fun i => lp_at (A := gA acts a P cw) (C := gC acts a P co re) (B := B) (i := i) zB
  refine ⟨fun r hr => ?_, fun i hi => ?_⟩
  · have e := at' (lnr acts a P r)
    obtain ⟨l1, l2⟩ := lnr_r h hr
    have p := hs.2 _ l1 l2
    have q := Int.mul_nonneg p (Int.le_of_lt ht)
    rw [← e] at q
    have := Int.nonneg_of_mul_nonneg_right q hs.1.1
    rw [lnr_L h hx hr] at this
    omega
  · rw [← co_L (t := crt n (rA acts a P cw) pk) h hA hx hi]
    exact at' i
theorem agree_yes (h : AgH n acts a P cw) (hA : LpA n (P * acts) (gA acts a P cw) (gC acts a P co re)) (hs : SvYes n (P * acts) (gA acts a P cw) (gC acts a P co re) B) : OpH n (P * acts + n) (rA acts a P cw) (rC acts a P co re) (cw 0 a) (lpD (gA acts a P cw) B) (lp0 (gA acts a P cw) (gC acts a P co re) B) := by
  have hn := h.1
  have hm := AgH_m h
  refine ⟨hs.1.1, fun x t ht hf hx => lxn_c (fun k _ hk => ?_) (lp_opt hA hs.1 (cF_L h hx hf)), ?_⟩
  · show _ = lpD (gA acts a P cw) B * lpL (gA acts a P cw) (gC acts a P co re) k t x - _
    rw [co_L h hA hx (by omega)]
  · -- the places of B's lines
    have hid : ∃ id : Nat → Nat, (∀ j, j < n → id j < P * acts + n ∧ lnr acts a P (id j) = B j) ∧ ∀ j, n ≤ j → id j = 100 + j := by
      have : ∀ j : Nat, ∃ r, (j < n → r < P * acts + n ∧ lnr acts a P r = B j) ∧ (n ≤ j → r = 100 + j) := fun j => by
        by_cases e : j < n
        · obtain ⟨r, h1, h2⟩ := lnr_i h (hs.1.2.1 j e).2 (hs.1.2.1 j e).1
          exact ⟨r, fun _ => ⟨h1, h2⟩, fun z => by omega⟩
        · exact ⟨100 + j, fun z => absurd z e, fun _ => rfl⟩
      exact ⟨fun j => (this j).choose, fun j hj => (this j).choose_spec.1 hj, fun j hj => (this j).choose_spec.2 hj⟩
    obtain ⟨id, hid, hid2⟩ := hid
    have hdet : det4 (rw4 (gR acts a P cw) (id 0) (id 1) (id 2) (id 3)) = lpD (gA acts a P cw) B := by
      refine det_c (fun j s hj hs4 => ?_)
      have ej : (if j = 0 then id 0 else if j = 1 then id 1 else if j = 2 then id 2 else id 3) = id j := by rcases lt4 hj with rfl | rfl | rfl | rfl <;> simp
      unfold rw4 gR lpP
      rw [ej]
      by_cases e : j < n
      · obtain ⟨p1, p2⟩ := hid j e
        rw [if_pos (by omega), ← p2]
        exact (lnr_A (co := co) (re := re) h p1 hs4).1.symm
      · rw [hid2 j (by omega), if_neg (by omega), Nat.add_sub_cancel_left, hs.1.2.2.1 j (by omega) hj, hA.2.2.1 j s hj hs4]
        by_cases e3 : j = s
        · rw [if_pos e3, if_pos e3.symm]
        · rw [if_neg e3, if_neg (fun z => e3 z.symm)]
    have hne : det4 (rw4 (gR acts a P cw) (id 0) (id 1) (id 2) (id 3)) ≠ 0 := by rw [hdet]; have := hs.1.1; omega
    have fin : ∀ (L : List Nat) (s0 i0 i1 i2 i3 : Nat), bl s0 (P * acts + n) = L → s0 < 2 ^ (P * acts + n) → L.length = n → det4 (rw4 (gR acts a P cw) i0 i1 i2 i3) ≠ 0 → (∀ r, r < n → L.getD r 0 < P * acts + n ∧ (if r = 0 then i0 else if r = 1 then i1 else if r = 2 then i2 else i3) = L.getD r 0) → (∀ r, n ≤ r → r < 4 → (if r = 0 then i0 else if r = 1 then i1 else if r = 2 then i2 else i3) = 100 + r) → (∀ H : Nat → Prop, (∀ r, r < n → H (L.getD r 0)) → ∀ j, j < n → H (id j)) → ∃ s0, s0 < 2 ^ (P * acts + n) ∧ (bl s0 (P * acts + n)).length = n ∧ detp n (pF (rA acts a P cw) (pkl s0 (P * acts + n))) ≠ 0 ∧ cF n (P * acts + n) (rA acts a P cw) (rC acts a P co re) (crn n (rA acts a P cw) (rC acts a P co re) (pkl s0 (P * acts + n))) (crt n (rA acts a P cw) (pkl s0 (P * acts + n))) ∧ ∀ i, i ≤ n → lpD (gA acts a P cw) B * co0 (dot (cw 0 a) (crn n (rA acts a P cw) (rC acts a P co re) (pkl s0 (P * acts + n))) n) (crn n (rA acts a P cw) (rC acts a P co re) (pkl s0 (P * acts + n))) i = lp0 (gA acts a P cw) (gC acts a P co re) B i * crt n (rA acts a P cw) (pkl s0 (P * acts + n)) := fun L s0 i0 i1 i2 i3 e1 e2 e3 e4 e5 e6 e7 => by
      have ep : pkl s0 (P * acts + n) = fun r => L.getD r 0 := by funext r; rw [pkl, e1]
      have ed := gR_det (pk := fun r => L.getD r 0) h e5 e6
      have ed2 : detp n (pF (rA acts a P cw) (fun r => L.getD r 0)) ≠ 0 := by rw [ed]; exact e4
      refine ⟨s0, e2, by rw [e1]; exact e3, by rw [ep]; exact ed2, ?_⟩
      rw [ep]
      exact agree_fin h hA hs hid (fun r hr => (e5 r hr).1) ed2 e7
    have c : n = 2 ∨ n = 3 ∨ n = 4 := by omega
    have hi0 := hid 0 (by omega)
    have hi1 := hid 1 (by omega)
    rcases c with c | c | c
    · have v2 := hid2 2 (by omega); have v3 := hid2 3 (by omega)
      obtain ⟨i0, i1, l01, hz⟩ := NZ_s2 (R := gR acts a P cw) (S := fun x0 x1 x2 x3 => x2 = 102 ∧ x3 = 103 ∧ ∀ H : Nat → Prop, (H x0 ∧ H x1) ↔ (H (id 0) ∧ H (id 1))) (fun x0 x1 x2 x3 y => ⟨y.1, y.2.1, fun H => ⟨fun q => (y.2.2 H).mp ⟨q.2, q.1⟩, fun q => ⟨((y.2.2 H).mpr q).2, ((y.2.2 H).mpr q).1⟩⟩⟩) ⟨hne, v2, v3, fun H => Iff.rfl⟩
      obtain ⟨hz1, _, _, hz2⟩ := hz
      have hlt := (hz2 (fun r => r < P * acts + n)).mpr ⟨hi0.1, hi1.1⟩
      obtain ⟨b1, b2⟩ := bl_2 (P * acts + n) (by omega) i1 hlt.2 i0 l01
      refine fin [i0, i1] _ i0 i1 102 103 b1 b2 c.symm (by rw [v2, v3] at hz1; exact hz1) (fun r hr => ?_) (fun r h1 h2 => ?_) (fun H hH j hj => ?_)
      · have : r = 0 ∨ r = 1 := by omega
        rcases this with e | e <;> subst e
        · exact ⟨hlt.1, rfl⟩
        · exact ⟨hlt.2, rfl⟩
      · have : r = 2 ∨ r = 3 := by omega
        rcases this with e | e <;> subst e <;> rfl
      · have q := (hz2 H).mp ⟨hH 0 (by omega), hH 1 (by omega)⟩
        have : j = 0 ∨ j = 1 := by omega
        rcases this with e | e <;> subst e
        · exact q.1
        · exact q.2
    · have hi2 := hid 2 (by omega)
      have v3 := hid2 3 (by omega)
      obtain ⟨i0, i1, i2, l01, l12, hz⟩ := NZ_s3 (R := gR acts a P cw) (S := fun x0 x1 x2 x3 => x3 = 103 ∧ ∀ H : Nat → Prop, (H x0 ∧ H x1 ∧ H x2) ↔ (H (id 0) ∧ H (id 1) ∧ H (id 2))) (fun x0 x1 x2 x3 y => ⟨y.1, fun H => ⟨fun q => (y.2 H).mp ⟨q.2.1, q.1, q.2.2⟩, fun q => ⟨((y.2 H).mpr q).2.1, ((y.2 H).mpr q).1, ((y.2 H).mpr q).2.2⟩⟩⟩) (fun x0 x1 x2 x3 y => ⟨y.1, fun H => ⟨fun q => (y.2 H).mp ⟨q.1, q.2.2, q.2.1⟩, fun q => ⟨((y.2 H).mpr q).1, ((y.2 H).mpr q).2.2, ((y.2 H).mpr q).2.1⟩⟩⟩) ⟨hne, v3, fun H => Iff.rfl⟩
      obtain ⟨hz1, _, hz2⟩ := hz
      have hlt := (hz2 (fun r => r < P * acts + n)).mpr ⟨hi0.1, hi1.1, hi2.1⟩
      obtain ⟨b1, b2⟩ := bl_3 (P * acts + n) (by omega) i2 hlt.2.2 i1 l12 i0 l01
      refine fin [i0, i1, i2] _ i0 i1 i2 103 b1 b2 c.symm (by rw [v3] at hz1; exact hz1) (fun r hr => ?_) (fun r h1 h2 => ?_) (fun H hH j hj => ?_)
      · have : r = 0 ∨ r = 1 ∨ r = 2 := by omega
        rcases this with e | e | e <;> subst e
        · exact ⟨hlt.1, rfl⟩
        · exact ⟨hlt.2.1, rfl⟩
        · exact ⟨hlt.2.2, rfl⟩
      · have : r = 3 := by omega
        subst this
        rfl
      · have q := (hz2 H).mp ⟨hH 0 (by omega), hH 1 (by omega), hH 2 (by omega)⟩
        have : j = 0 ∨ j = 1 ∨ j = 2 := by omega
        rcases this with e | e | e <;> subst e
        · exact q.1
        · exact q.2.1
        · exact q.2.2
    · have hi2 := hid 2 (by omega)
      have hi3 := hid 3 (by omega)
      obtain ⟨i0, i1, i2, i3, l01, l12, l23, hz⟩ := NZ_s4 (R := gR acts a P cw) (S := fun x0 x1 x2 x3 => ∀ H : Nat → Prop, (H x0 ∧ H x1 ∧ H x2 ∧ H x3) ↔ (H (id 0) ∧ H (id 1) ∧ H (id 2) ∧ H (id 3))) (fun x0 x1 x2 x3 y H => ⟨fun q => (y H).mp ⟨q.2.1, q.1, q.2.2⟩, fun q => ⟨((y H).mpr q).2.1, ((y H).mpr q).1, ((y H).mpr q).2.2⟩⟩) (fun x0 x1 x2 x3 y H => ⟨fun q => (y H).mp ⟨q.1, q.2.2.1, q.2.1, q.2.2.2⟩, fun q => ⟨((y H).mpr q).1, ((y H).mpr q).2.2.1, ((y H).mpr q).2.1, ((y H).mpr q).2.2.2⟩⟩) (fun x0 x1 x2 x3 y H => ⟨fun q => (y H).mp ⟨q.1, q.2.1, q.2.2.2, q.2.2.1⟩, fun q => ⟨((y H).mpr q).1, ((y H).mpr q).2.1, ((y H).mpr q).2.2.2, ((y H).mpr q).2.2.1⟩⟩) ⟨hne, fun H => Iff.rfl⟩
      obtain ⟨hz1, hz2⟩ := hz
      have hlt := (hz2 (fun r => r < P * acts + n)).mpr ⟨hi0.1, hi1.1, hi2.1, hi3.1⟩
      obtain ⟨b1, b2⟩ := bl_4 (P * acts + n) (by omega) i3 hlt.2.2.2 i2 l23 i1 l12 i0 l01
      refine fin [i0, i1, i2, i3] _ i0 i1 i2 i3 b1 b2 c.symm hz1 (fun r hr => ?_) (fun r h1 h2 => by omega) (fun H hH j hj => ?_)
      · have : r = 0 ∨ r = 1 ∨ r = 2 ∨ r = 3 := by omega
        rcases this with e | e | e | e <;> subst e
        · exact ⟨hlt.1, rfl⟩
        · exact ⟨hlt.2.1, rfl⟩
        · exact ⟨hlt.2.2.1, rfl⟩
        · exact ⟨hlt.2.2.2, rfl⟩
      · have q := (hz2 H).mp ⟨hH 0 (by omega), hH 1 (by omega), hH 2 (by omega), hH 3 (by omega)⟩
        have : j = 0 ∨ j = 1 ∨ j = 2 ∨ j = 3 := by omega
        rcases this with e | e | e | e <;> subst e
        · exact q.1
        · exact q.2.1
        · exact q.2.2.1
        · exact q.2.2.2
end AG
