/-! THE CLASS'S LEAST SHARES: which acts, which sights -/
theorem bl_1 : ∀ N, N < 13 → ∀ a, a < N → bl (2 ^ a) N = [a] ∧ 2 ^ a < 2 ^ N := by decide +kernel
theorem det_sg {P P' : Nat → Nat → Int} (h : ∀ j, j < 4 → (∀ s, s < 4 → P j s = P' j s) ∨ ∀ s, s < 4 → P j s = - P' j s) (hd : det4 P ≠ 0) : det4 P' ≠ 0 := by
  have g : ∀ j, j < 4 → ∃ v : Int, ∀ s, s < 4 → P j s = v * P' j s := fun j hj => by
    rcases h j hj with z | z
    · exact ⟨1, fun s hs => by rw [z s hs]; omega⟩
    · exact ⟨-1, fun s hs => by rw [z s hs]; omega⟩
  obtain ⟨v0, g0⟩ := g 0 (by omega)
  obtain ⟨v1, g1⟩ := g 1 (by omega)
  obtain ⟨v2, g2⟩ := g 2 (by omega)
  obtain ⟨v3, g3⟩ := g 3 (by omega)
  have e : det4 P = v0 * v1 * v2 * v3 * det4 P' := by
    simp [det4, s4, cof, sk, d3, sg4, g0, g1, g2, g3]
    grind
  intro z
  rw [z, Int.mul_zero] at e
  exact hd e
theorem detp_c {q : Nat} {F G : Nat → Nat → Int} (h : ∀ r c, r < q → c < q → F r c = G r c) : detp q F = detp q G := det_c (fun j s _ _ => by
  unfold pad
  by_cases e : j < q ∧ s < q
  · rw [if_pos e, if_pos e]; exact h j s e.1 e.2
  · rw [if_neg e, if_neg e])
section SQ
variable {ss a n : Nat} {ch : Nat → Nat → Int} {co : Nat → Int} {B : Nat → Nat}
/-- a line's row: an unknown's, a sight's -/
def kR (n a : Nat) (ch : Nat → Nat → Int) (k v : Nat) : Int := if k < 10 then (if v = k then 1 else 0) else if v < n then ch (ib a v) (k - 10) else 0
abbrev ExS (n ss a : Nat) (ch : Nat → Nat → Int) (co : Nat → Int) (B : Nat → Nat) : Prop := ∃ s0 a0, (1 ≤ s0 ∧ s0 < 2 ^ (n + 1)) ∧ (1 ≤ a0 ∧ a0 < 2 ^ ss) ∧ Cnd a s0 a0 ∧ detp (bl s0 4).length (eF (gl s0) (gl a0) ch) ≠ 0 ∧ okS ss (n + 1) a (bl s0 4).length (gl s0) (gl a0) ch ∧ ∀ i, i ≤ n + 1 → lpD (mA n ss a ch co) B * co0 (ysu (n + 1) (bl s0 4).length a (gl s0) (gl a0) ch co) (yb (bl s0 4).length a (gl s0) (gl a0) ch) i = Zs a (lp0 (mA n ss a ch co) (mC ss a ch) B) i * ct (bl s0 4).length (gl s0) (gl a0) ch
theorem sm_yes (h : SmH n ss a ch) (hA : LpA n (2 * ss) (mA n ss a ch co) (mC ss a ch)) (hs : SvYes n (2 * ss) (mA n ss a ch co) (mC ss a ch) B) : OpS ss (n + 1) a ch co (lpD (mA n ss a ch co) B) (Zs a (lp0 (mA n ss a ch co) (mC ss a ch) B)) := by
  refine ⟨hs.1.1, fun y t hy => sm_opt h hA hs.1 hy, ?_⟩
  have hsm := h
  obtain ⟨hn, hss, ha, _⟩ := h
  -- keys
  have hk : ∃ key : Nat → Nat, (∀ j, j < n → (key j < n ∧ B j = key j + 1) ∨ ∃ e, e < 2 * ss ∧ B j = 5 + e ∧ key j = 10 + e / 2) ∧ ∀ j, n ≤ j → key j = j := by
    have : ∀ j : Nat, ∃ k, (j < n → (k < n ∧ B j = k + 1) ∨ ∃ e, e < 2 * ss ∧ B j = 5 + e ∧ k = 10 + e / 2) ∧ (n ≤ j → k = j) := fun j => by
      by_cases z : j < n
      · obtain ⟨b1, b2⟩ := hs.1.2.1 j z
        rcases b2 with b2 | b2
        · exact ⟨B j - 1, fun _ => Or.inl ⟨by omega, by omega⟩, fun y => by omega⟩
        · exact ⟨10 + (B j - 5) / 2, fun _ => Or.inr ⟨B j - 5, by omega, by omega, rfl⟩, fun y => by omega⟩
      · exact ⟨j, fun y => absurd y z, fun _ => rfl⟩
    exact ⟨fun j => (this j).choose, fun j hj => (this j).choose_spec.1 hj, fun j hj => (this j).choose_spec.2 hj⟩
  obtain ⟨key, hk1, hk2⟩ := hk
  have hdet : det4 (rw4 (kR n a ch) (key 0) (key 1) (key 2) (key 3)) ≠ 0 := by
    refine det_sg (P := lpP (mA n ss a ch co) B) (fun j hj => ?_) (by have := hs.1.1; unfold lpD at this; omega)
    have ej : (if j = 0 then key 0 else if j = 1 then key 1 else if j = 2 then key 2 else key 3) = key j := by rcases lt4 hj with rfl | rfl | rfl | rfl <;> simp
    unfold rw4 lpP
    rw [ej]
    by_cases z : j < n
    · rcases hk1 j z with ⟨k1, k2⟩ | ⟨e, k1, k2, k3⟩
      · refine Or.inl (fun s hs4 => ?_)
        rw [k2, hA.2.2.1 _ s (by omega) hs4]
        unfold kR
        rw [if_pos (show key j < 10 by omega)]
        by_cases y : key j = s
        · rw [if_pos y, if_pos y.symm]
        · rw [if_neg y, if_neg (fun q => y q.symm)]
      · have g : ∀ s, s < 4 → mA n ss a ch co (B j) s = sg2 e * kR n a ch (key j) s := fun s _ => by
          rw [k2, k3]
          unfold mA shA kR
          rw [Nat.add_sub_cancel_left, Nat.add_sub_cancel_left, if_neg (show ¬ 5 + e = 0 by omega), if_neg (show ¬ 5 + e ≤ 4 by omega), if_neg (show ¬ 10 + e / 2 < 10 by omega)]
          by_cases y : s < n
          · rw [if_pos ⟨by omega, y⟩, if_pos y]
          · rw [if_neg (by omega), if_neg y]; omega
        rcases sg2_r e with y | y
        · exact Or.inl (fun s h4 => by rw [g s h4, y]; omega)
        · exact Or.inr (fun s h4 => by rw [g s h4, y]; omega)
    · refine Or.inl (fun s hs4 => ?_)
      rw [hs.1.2.2.1 j (by omega) hj, hA.2.2.1 _ s hj hs4, hk2 j (by omega)]
      unfold kR
      rw [if_pos (show j < 10 by omega)]
      by_cases y : j = s
      · rw [if_pos y, if_pos y.symm]
      · rw [if_neg y, if_neg (fun q => y q.symm)]
  -- what holds of every key
  have kr : ∀ j, j < n → (key j < 10 → key j < n) ∧ (10 ≤ key j → key j - 10 < ss) := fun j hj => by
    rcases hk1 j hj with ⟨k1, _⟩ | ⟨e, k1, _, k3⟩
    · exact ⟨fun _ => k1, fun y => by omega⟩
    · exact ⟨fun y => by omega, fun _ => by omega⟩
  have kz : ∀ j, j < n → key j < 10 → lp0 (mA n ss a ch co) (mC ss a ch) B (key j + 1) = 0 := fun j hj hlt => by
    rcases hk1 j hj with ⟨k1, k2⟩ | ⟨e, k1, _, k3⟩
    · rw [← k2]; exact lp_0B (by omega)
    · omega
  have iblt : ∀ s, s < n → ib a s < n + 1 := fun s hs => by unfold ib; split <;> omega
  have p2n := p2_16 (N := n + 1) (by omega)
  have p2s := p2_16 hss.2
  have fin : ∀ (L1 L2 : List Nat) (s0 a0 q : Nat) (u : Nat → Nat), bl s0 4 = L1 → bl a0 4 = L2 → L1.length = q → L2.length = q → (1 ≤ q ∧ q ≤ 3) → s0 < 2 ^ (n + 1) → a0 < 2 ^ ss → (∀ c, c < q → u c < n ∧ L1.getD c 0 = ib a (u c)) → (∀ c c', c < c' → c' < q → u c ≠ u c') → detp q (fun r c => ch (ib a (u c)) (L2.getD r 0)) ≠ 0 → (∀ j, j < n → (key j < 10 → ∀ c, c < q → u c ≠ key j) ∧ (10 ≤ key j → ∃ r, r < q ∧ L2.getD r 0 = key j - 10)) → ExS n ss a ch co B := fun L1 L2 s0 a0 q u e1 e2 l1 l2 hq b1 b2 hu hi hd hB => by
    have el : (bl s0 4).length = q := by rw [e1]; exact l1
    have ep : ∀ x, x < 16 → 1 ≤ (bl x 4).length → 1 ≤ x := by decide +kernel
    have hd2 : detp q (eF (gl s0) (gl a0) ch) ≠ 0 := by
      rw [detp_c (G := fun r c => ch (ib a (u c)) (L2.getD r 0)) (fun r c hr hc => by show ch ((bl s0 4).getD c 0) ((bl a0 4).getD r 0) = _; rw [e1, e2, (hu c hc).2])]
      exact hd
    have cnd : Cnd a s0 a0 := ⟨bl_off s0 (by omega) a (by omega) (fun c hc => by rw [e1]; rw [el] at hc; rw [(hu c hc).2]; exact (pl_ib a _).2), by rw [e2, l2, el], by rw [el]; exact hq.2⟩
    refine ⟨s0, a0, ⟨ep s0 (by omega) (by rw [el]; exact hq.1), b1⟩, ⟨ep a0 (by omega) (by rw [e2, l2]; exact hq.1), b2⟩, cnd, ?_⟩
    rw [el]
    refine ⟨hd2, sm_fin (u := u) hsm hA hs hq.2 (fun c hc => ⟨(hu c hc).1, by show (bl s0 4).getD c 0 = _; rw [e1]; exact (hu c hc).2⟩) hi hd2 (fun j hj => ?_)⟩
    rcases hk1 j hj with ⟨k1, k2⟩ | ⟨e, k1, k2, k3⟩
    · exact Or.inl ⟨key j, k1, k2, (hB j hj).1 (by omega)⟩
    · obtain ⟨r, r1, r2⟩ := (hB j hj).2 (by omega)
      exact Or.inr ⟨e, k1, k2, r, r1, by show (bl a0 4).getD r 0 = _; rw [e2, r2]; omega⟩
  have one : ∀ (u k : Nat), u < n → k < ss → ch (ib a u) k ≠ 0 → (∀ j, j < n → (key j < 10 → u ≠ key j) ∧ (10 ≤ key j → k = key j - 10)) → ExS n ss a ch co B := fun u k hu hk4 hd hB => by
    refine fin [ib a u] [k] (2 ^ ib a u) (2 ^ k) 1 (fun _ => u) (bl_1 4 (by omega) _ (by have := iblt u hu; omega)).1 (bl_1 4 (by omega) _ (by omega)).1 rfl rfl (by omega) (bl_1 (n + 1) (by omega) _ (iblt u hu)).2 (bl_1 ss (by omega) _ hk4).2 (fun c hc => ⟨hu, ?_⟩) (fun c c' h1 h2 => by omega) (by rw [detp_1]; exact hd) (fun j hj => ⟨fun y c _ => (hB j hj).1 y, fun y => ⟨0, by omega, (hB j hj).2 y⟩⟩)
    have : c = 0 := by omega
    subst this
    rfl
  have two : ∀ (u0 u1 k0 k1 : Nat), u0 < u1 → u1 < n → k0 < k1 → k1 < ss → ch (ib a u0) k0 * ch (ib a u1) k1 - ch (ib a u1) k0 * ch (ib a u0) k1 ≠ 0 → (∀ j, j < n → (key j < 10 → u0 ≠ key j ∧ u1 ≠ key j) ∧ (10 ≤ key j → k0 = key j - 10 ∨ k1 = key j - 10)) → ExS n ss a ch co B := fun u0 u1 k0 k1 h01 hu h23 hk4 hd hB => by
    have hib : ib a u0 < ib a u1 := by unfold ib; split <;> split <;> omega
    have l1 := iblt u1 hu
    refine fin [ib a u0, ib a u1] [k0, k1] (2 ^ ib a u0 + 2 ^ ib a u1) (2 ^ k0 + 2 ^ k1) 2 (fun c => if c = 0 then u0 else u1) (bl_2 4 (by omega) _ (by omega) _ hib).1 (bl_2 4 (by omega) _ (by omega) _ h23).1 rfl rfl (by omega) (bl_2 (n + 1) (by omega) _ l1 _ hib).2 (bl_2 ss (by omega) _ hk4 _ h23).2 (fun c hc => ?_) (fun c c' h1 h2 => ?_) (by rw [detp_2]; exact hd) (fun j hj => ⟨fun y c _ => ?_, fun y => ?_⟩)
    · have : c = 0 ∨ c = 1 := by omega
      rcases this with rfl | rfl
      · exact ⟨by rw [if_pos rfl]; omega, rfl⟩
      · exact ⟨hu, rfl⟩
    · rw [if_pos (by omega), if_neg (by omega)]; omega
    · have := (hB j hj).1 y
      split
      · exact this.1
      · exact this.2
    · rcases (hB j hj).2 y with z | z
      · exact ⟨0, by omega, z⟩
      · exact ⟨1, by omega, z⟩
  have three : ∀ (k0 k1 k2 : Nat), n = 3 → k0 < k1 → k1 < k2 → k2 < ss → detp 3 (fun r c => ch (ib a c) ([k0, k1, k2].getD r 0)) ≠ 0 → (∀ j, j < n → 10 ≤ key j ∧ (k0 = key j - 10 ∨ k1 = key j - 10 ∨ k2 = key j - 10)) → ExS n ss a ch co B := fun k0 k1 k2 hn3 h01 h12 hk4 hd hB => by
    have i01 : ib a 0 < ib a 1 := by unfold ib; split <;> split <;> omega
    have i12 : ib a 1 < ib a 2 := by unfold ib; split <;> split <;> omega
    have l2 := iblt 2 (by omega)
    refine fin [ib a 0, ib a 1, ib a 2] [k0, k1, k2] (2 ^ ib a 0 + 2 ^ ib a 1 + 2 ^ ib a 2) (2 ^ k0 + 2 ^ k1 + 2 ^ k2) 3 (fun c => c) (bl_3 4 (by omega) _ (by omega) _ i12 _ i01).1 (bl_3 4 (by omega) _ (by omega) _ h12 _ h01).1 rfl rfl (by omega) (bl_3 (n + 1) (by omega) _ l2 _ i12 _ i01).2 (bl_3 ss (by omega) _ hk4 _ h12 _ h01).2 (fun c hc => ⟨by omega, ?_⟩) (fun c c' h1 h2 => by omega) hd (fun j hj => ⟨fun y => by have := (hB j hj).1; omega, fun y => ?_⟩)
    · have : c = 0 ∨ c = 1 ∨ c = 2 := by omega
      rcases this with rfl | rfl | rfl <;> rfl
    · rcases (hB j hj).2 with z | z | z
      · exact ⟨0, by omega, z⟩
      · exact ⟨1, by omega, z⟩
      · exact ⟨2, by omega, z⟩
  have kbig : ∀ k, 10 ≤ k → ∀ v, kR n a ch k v = if v < n then ch (ib a v) (k - 10) else 0 := fun k hk v => by unfold kR; rw [if_neg (by omega)]
  have ksml : ∀ k, k < 10 → ∀ v, kR n a ch k v = if v = k then 1 else 0 := fun k hk v => by unfold kR; rw [if_pos hk]
  have c : n = 0 ∨ n = 1 ∨ n = 2 ∨ n = 3 := by omega
  rcases c with c | c | c | c
  · exact (sm_zero hsm hA hs (fun k hk => by omega)).elim
  · have r0 := kr 0 (by omega)
    by_cases z0 : key 0 < 10
    · have e0 : key 0 = 0 := by omega
      have := kz 0 (by omega) z0
      rw [e0] at this
      exact (sm_zero hsm hA hs (fun k hk => by rw [show k = 0 by omega]; exact this)).elim
    · refine one 0 (key 0 - 10) (by omega) (by omega) (fun z => hdet ?_) (fun j hj => by
        have e : j = 0 := by omega
        rw [e]
        exact ⟨fun y => absurd y z0, fun _ => rfl⟩)
      rw [hk2 1 (by omega), hk2 2 (by omega), hk2 3 (by omega)]
      have b0 := kbig (key 0) (by omega)
      subst c
      simp [det4, s4, cof, sk, d3, sg4, rw4, b0, ksml, z]
  · obtain ⟨k0, k1, l01, hz⟩ := NZ_s2 (R := kR n a ch) (S := fun x0 x1 x2 x3 => x2 = 2 ∧ x3 = 3 ∧ ∀ H : Nat → Prop, (H x0 ∧ H x1) ↔ (H (key 0) ∧ H (key 1))) (fun x0 x1 x2 x3 y => ⟨y.1, y.2.1, fun H => ⟨fun q => (y.2.2 H).mp ⟨q.2, q.1⟩, fun q => ⟨((y.2.2 H).mpr q).2, ((y.2.2 H).mpr q).1⟩⟩⟩) ⟨hdet, hk2 2 (by omega), hk2 3 (by omega), fun H => Iff.rfl⟩
    obtain ⟨hz1, _, _, hz2⟩ := hz
    rw [hk2 2 (by omega), hk2 3 (by omega)] at hz1
    have rr := (hz2 (fun k => (k < 10 → k < n) ∧ (10 ≤ k → k - 10 < ss))).mpr ⟨kr 0 (by omega), kr 1 (by omega)⟩
    have back : ∀ H : Nat → Prop, H k0 → H k1 → ∀ j, j < n → H (key j) := fun H q0 q1 j hj => by
      have q := (hz2 H).mp ⟨q0, q1⟩
      have : j = 0 ∨ j = 1 := by omega
      rcases this with rfl | rfl
      · exact q.1
      · exact q.2
    by_cases z1 : k1 < 10
    · have zz := (hz2 (fun k => k < 10 → lp0 (mA n ss a ch co) (mC ss a ch) B (k + 1) = 0)).mpr ⟨kz 0 (by omega), kz 1 (by omega)⟩
      have e0 : k0 = 0 := by omega
      have e1 : k1 = 1 := by omega
      rw [e0, e1] at zz
      exact (sm_zero hsm hA hs (fun k hk => by
        have : k = 0 ∨ k = 1 := by omega
        rcases this with rfl | rfl
        · exact zz.1 (by omega)
        · exact zz.2 (by omega))).elim
    · have b1 := kbig k1 (by omega)
      by_cases z0 : k0 < 10
      · have e0 : k0 = 0 ∨ k0 = 1 := by omega
        subst c
        rcases e0 with e0 | e0 <;> subst e0
        · refine one 1 (k1 - 10) (by omega) (by omega) (fun z => hz1 ?_) (back (fun k => (k < 10 → 1 ≠ k) ∧ (10 ≤ k → k1 - 10 = k - 10)) ⟨fun _ => by omega, fun y => by omega⟩ ⟨fun y => by omega, fun _ => rfl⟩)
          simp [det4, s4, cof, sk, d3, sg4, rw4, b1, ksml, z]
        · refine one 0 (k1 - 10) (by omega) (by omega) (fun z => hz1 ?_) (back (fun k => (k < 10 → 0 ≠ k) ∧ (10 ≤ k → k1 - 10 = k - 10)) ⟨fun _ => by omega, fun y => by omega⟩ ⟨fun y => by omega, fun _ => rfl⟩)
          simp [det4, s4, cof, sk, d3, sg4, rw4, b1, ksml, z]
      · have b0 := kbig k0 (by omega)
        subst c
        refine two 0 1 (k0 - 10) (k1 - 10) (by omega) (by omega) (by omega) (by omega) (fun z => hz1 ?_) (back (fun k => (k < 10 → 0 ≠ k ∧ 1 ≠ k) ∧ (10 ≤ k → k0 - 10 = k - 10 ∨ k1 - 10 = k - 10)) ⟨fun y => by omega, fun _ => Or.inl rfl⟩ ⟨fun y => by omega, fun _ => Or.inr rfl⟩)
        simp [det4, s4, cof, sk, d3, sg4, rw4, b0, b1, ksml]
        grind
  · obtain ⟨k0, k1, k2, l01, l12, hz⟩ := NZ_s3 (R := kR n a ch) (S := fun x0 x1 x2 x3 => x3 = 3 ∧ ∀ H : Nat → Prop, (H x0 ∧ H x1 ∧ H x2) ↔ (H (key 0) ∧ H (key 1) ∧ H (key 2))) (fun x0 x1 x2 x3 y => ⟨y.1, fun H => ⟨fun q => (y.2 H).mp ⟨q.2.1, q.1, q.2.2⟩, fun q => ⟨((y.2 H).mpr q).2.1, ((y.2 H).mpr q).1, ((y.2 H).mpr q).2.2⟩⟩⟩) (fun x0 x1 x2 x3 y => ⟨y.1, fun H => ⟨fun q => (y.2 H).mp ⟨q.1, q.2.2, q.2.1⟩, fun q => ⟨((y.2 H).mpr q).1, ((y.2 H).mpr q).2.2, ((y.2 H).mpr q).2.1⟩⟩⟩) ⟨hdet, hk2 3 (by omega), fun H => Iff.rfl⟩
    obtain ⟨hz1, _, hz2⟩ := hz
    rw [hk2 3 (by omega)] at hz1
    have rr := (hz2 (fun k => (k < 10 → k < n) ∧ (10 ≤ k → k - 10 < ss))).mpr ⟨kr 0 (by omega), kr 1 (by omega), kr 2 (by omega)⟩
    have back : ∀ H : Nat → Prop, H k0 → H k1 → H k2 → ∀ j, j < n → H (key j) := fun H q0 q1 q2 j hj => by
      have q := (hz2 H).mp ⟨q0, q1, q2⟩
      have : j = 0 ∨ j = 1 ∨ j = 2 := by omega
      rcases this with rfl | rfl | rfl
      · exact q.1
      · exact q.2.1
      · exact q.2.2
    by_cases z2 : k2 < 10
    · have zz := (hz2 (fun k => k < 10 → lp0 (mA n ss a ch co) (mC ss a ch) B (k + 1) = 0)).mpr ⟨kz 0 (by omega), kz 1 (by omega), kz 2 (by omega)⟩
      have e0 : k0 = 0 := by omega
      have e1 : k1 = 1 := by omega
      have e2 : k2 = 2 := by omega
      rw [e0, e1, e2] at zz
      exact (sm_zero hsm hA hs (fun k hk => by
        have : k = 0 ∨ k = 1 ∨ k = 2 := by omega
        rcases this with rfl | rfl | rfl
        · exact zz.1 (by omega)
        · exact zz.2.1 (by omega)
        · exact zz.2.2 (by omega))).elim
    · have b2 := kbig k2 (by omega)
      by_cases z1 : k1 < 10
      · have e : (k0 = 0 ∧ k1 = 1) ∨ (k0 = 0 ∧ k1 = 2) ∨ (k0 = 1 ∧ k1 = 2) := by omega
        subst c
        rcases e with ⟨e0, e1⟩ | ⟨e0, e1⟩ | ⟨e0, e1⟩ <;> subst e0 <;> subst e1
        · refine one 2 (k2 - 10) (by omega) (by omega) (fun z => hz1 ?_) (back (fun k => (k < 10 → 2 ≠ k) ∧ (10 ≤ k → k2 - 10 = k - 10)) ⟨fun _ => by omega, fun y => by omega⟩ ⟨fun _ => by omega, fun y => by omega⟩ ⟨fun y => by omega, fun _ => rfl⟩)
          simp [det4, s4, cof, sk, d3, sg4, rw4, b2, ksml, z]
        · refine one 1 (k2 - 10) (by omega) (by omega) (fun z => hz1 ?_) (back (fun k => (k < 10 → 1 ≠ k) ∧ (10 ≤ k → k2 - 10 = k - 10)) ⟨fun _ => by omega, fun y => by omega⟩ ⟨fun _ => by omega, fun y => by omega⟩ ⟨fun y => by omega, fun _ => rfl⟩)
          simp [det4, s4, cof, sk, d3, sg4, rw4, b2, ksml, z]
        · refine one 0 (k2 - 10) (by omega) (by omega) (fun z => hz1 ?_) (back (fun k => (k < 10 → 0 ≠ k) ∧ (10 ≤ k → k2 - 10 = k - 10)) ⟨fun _ => by omega, fun y => by omega⟩ ⟨fun _ => by omega, fun y => by omega⟩ ⟨fun y => by omega, fun _ => rfl⟩)
          simp [det4, s4, cof, sk, d3, sg4, rw4, b2, ksml, z]
      · have b1 := kbig k1 (by omega)
        by_cases z0 : k0 < 10
        · have e : k0 = 0 ∨ k0 = 1 ∨ k0 = 2 := by omega
          subst c
          rcases e with e0 | e0 | e0 <;> subst e0
          · refine two 1 2 (k1 - 10) (k2 - 10) (by omega) (by omega) (by omega) (by omega) (fun z => hz1 ?_) (back (fun k => (k < 10 → 1 ≠ k ∧ 2 ≠ k) ∧ (10 ≤ k → k1 - 10 = k - 10 ∨ k2 - 10 = k - 10)) ⟨fun _ => by omega, fun y => by omega⟩ ⟨fun y => by omega, fun _ => Or.inl rfl⟩ ⟨fun y => by omega, fun _ => Or.inr rfl⟩)
            simp [det4, s4, cof, sk, d3, sg4, rw4, b1, b2, ksml]
            grind
          · refine two 0 2 (k1 - 10) (k2 - 10) (by omega) (by omega) (by omega) (by omega) (fun z => hz1 ?_) (back (fun k => (k < 10 → 0 ≠ k ∧ 2 ≠ k) ∧ (10 ≤ k → k1 - 10 = k - 10 ∨ k2 - 10 = k - 10)) ⟨fun _ => by omega, fun y => by omega⟩ ⟨fun y => by omega, fun _ => Or.inl rfl⟩ ⟨fun y => by omega, fun _ => Or.inr rfl⟩)
            simp [det4, s4, cof, sk, d3, sg4, rw4, b1, b2, ksml]
            grind
          · refine two 0 1 (k1 - 10) (k2 - 10) (by omega) (by omega) (by omega) (by omega) (fun z => hz1 ?_) (back (fun k => (k < 10 → 0 ≠ k ∧ 1 ≠ k) ∧ (10 ≤ k → k1 - 10 = k - 10 ∨ k2 - 10 = k - 10)) ⟨fun _ => by omega, fun y => by omega⟩ ⟨fun y => by omega, fun _ => Or.inl rfl⟩ ⟨fun y => by omega, fun _ => Or.inr rfl⟩)
            simp [det4, s4, cof, sk, d3, sg4, rw4, b1, b2, ksml]
            grind
        · have b0 := kbig k0 (by omega)
          have c3 := c
          subst c
          refine three (k0 - 10) (k1 - 10) (k2 - 10) rfl (by omega) (by omega) (by omega) (fun z => hz1 ?_) (back (fun k => 10 ≤ k ∧ (k0 - 10 = k - 10 ∨ k1 - 10 = k - 10 ∨ k2 - 10 = k - 10)) ⟨by omega, Or.inl rfl⟩ ⟨by omega, Or.inr (Or.inl rfl)⟩ ⟨by omega, Or.inr (Or.inr rfl)⟩)
          rw [detp_3] at z
          simp [det4, s4, cof, sk, d3, sg4, rw4, b0, b1, b2, ksml]
          simp at z
          grind
end SQ
