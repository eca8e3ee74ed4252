/-! A TEAM: what a member has -/
def t_pop (s : Int) : Int := s % 2 + s / 2 % 2 + s / 4 % 2 + s / 8 % 2
def t_bit (s i : Int) : Int := s / 2 ^ i.toNat % 2
def t_keep (M : vM) (s i : Int) : Int := M 51 i.toNat * M 52 (t_pop s).toNat / 24 - t_bit s i * M 50 i.toNat
theorem q_i {Q : Option vV → vM → Prop} {M : vM} {a b : Int} (k : Q (some (vI a)) M) (h : a = b) : Q (some (vI b)) M := h ▸ k
theorem c16 {P : Int → Prop} (h : ∀ n : Fin 16, P (n.val : Int)) {x : Int} (h0 : 0 ≤ x) (h1 : x < 16) : P x := by
  have := h ⟨x.toNat, by omega⟩
  simpa [Int.toNat_of_nonneg h0] using this
theorem c4 {P : Int → Prop} (h : ∀ n : Fin 4, P (n.val : Int)) {x : Int} (h0 : 0 ≤ x) (h1 : x < 4) : P x := by
  have := h ⟨x.toNat, by omega⟩
  simpa [Int.toNat_of_nonneg h0] using this
theorem t_pop_r {s : Int} : 0 ≤ t_pop s ∧ t_pop s < 5 := by unfold t_pop; omega
theorem t_bit_j {s i : Int} (hs : 0 ≤ s ∧ s < 16) (hi : 0 ≤ i ∧ i < 4) : j_iand (j_ishr s i) 1 = t_bit s i :=
  c16 (P := fun s => j_iand (j_ishr s i) 1 = t_bit s i) (fun n => c4 (P := fun i => j_iand (j_ishr (n.val : Int) i) 1 = t_bit (n.val : Int) i) (fun m => by revert n m; decide +kernel) hi.1 hi.2) hs.1 hs.2
theorem j_shl1 {n : Int} (h : 2 ≤ n ∧ n ≤ 4) : j_ishl 1 n = 2 ^ n.toNat ∧ 4 ≤ j_ishl 1 n ∧ j_ishl 1 n ≤ 16 := by
  rcases (show n = 2 ∨ n = 3 ∨ n = 4 by omega) with rfl | rfl | rfl <;> decide +kernel
section TM
variable {X : vX} {d : Nat} {M : vM} {Q : Option vV → vM → Prop} {l0 l1 l2 : Int}
theorem S_J_bitCount (h : 0 ≤ l0 ∧ l0 < 16) (k : Q (some (vI (t_pop l0))) M) : cq X (d + 1) 281 [vI l0] M Q := by
  refine E_J_bitCount (B_J_bitCount_0 (q_i k ?_))
  clear k
  obtain ⟨n, rfl⟩ : ∃ n : Fin 16, l0 = (n.val : Int) := ⟨⟨l0.toNat, by omega⟩, by simp only; omega⟩
  clear h
  revert n
  decide +kernel
theorem S_R_bits (h : 0 ≤ l0 ∧ l0 < 16) (k : Q (some (vI (t_pop l0))) M) : cq X (d + 1) 214 [vI l0] M Q := by
  refine E_R_bits (B_R_bits_0 (q_i k ?_))
  clear k
  obtain ⟨n, rfl⟩ : ∃ n : Fin 16, l0 = (n.val : Int) := ⟨⟨l0.toNat, by omega⟩, by simp only; omega⟩
  clear h
  revert n
  decide +kernel
theorem t_prod {a b : Int} (ha : 0 ≤ a ∧ a ≤ 24) (hb : 0 ≤ b ∧ b ≤ 999) : 0 ≤ a * b ∧ a * b ≤ 23976 := by
  refine ⟨Int.mul_nonneg ha.1 hb.1, ?_⟩
  have := Int.mul_le_mul ha.2 hb.2 hb.1 (by omega)
  omega
theorem S_Te_keeps (hr : Rel M) (hs : 0 ≤ l1 ∧ l1 < 16) (hi : 0 ≤ l2 ∧ l2 < 4) (k : Q (some (vI (t_keep M l1 l2))) M) : cq X (d + 2) 107 [vR 49, vI l1, vI l2] M Q := by
  obtain ⟨hR, -, -, -, ⟨t1, t2, t3, t4, t5⟩, -⟩ := hr
  have hp := t_pop_r (s := l1)
  have a1 := t3 l2.toNat (by omega)
  have a2 := t4 l2.toNat (by omega)
  have a3 := t5 (t_pop l1).toNat (by omega)
  have pr := t_prod a2.2 a3.2
  have ew := w32_id (x := M 51 l2.toNat * M 52 (t_pop l1).toNat) (by omega) (by omega)
  have ed : j_idiv (w32 (M 51 l2.toNat * M 52 (t_pop l1).toNat)) 24 = M 51 l2.toNat * M 52 (t_pop l1).toNat / 24 := by
    rw [ew, j_idiv_eq (by omega) (by omega), Int.tdiv_eq_ediv_of_nonneg pr.1]
  have eb := t_bit_j hs hi
  refine E_Te_keeps (B_Te_keeps_0 hR hi (S_J_bitCount hs (B_Te_keeps_14 ⟨hp.1, hp.2⟩ (fun h => B_Te_keeps_39 (q_i k ?_)) (fun h => B_Te_keeps_28 hR hi (q_i k ?_)))))
  · rw [eb] at h
    rw [ed, t_keep, h]
    omega
  · rw [eb] at h
    have h1 : t_bit l1 l2 = 1 := by
      unfold t_bit at h ⊢
      omega
    rw [ed, t_keep, h1, w32_id (by omega) (by omega)]
    omega
theorem S_R_memberHas (hr : Rel M) (hs : 0 ≤ l1 ∧ l1 < 16) (hi : 0 ≤ l2 ∧ l2 < 4) (k : Q (some (vI (t_keep M l1 l2))) M) : cq X (d + 2) 236 [vR 81, vI l1, vI l2] M Q := by
  obtain ⟨hR, -, -, -, ⟨t1, t2, t3, t4, t5⟩, -⟩ := hr
  have hp := t_pop_r (s := l1)
  have a1 := t3 l2.toNat (by omega)
  have a2 := t4 l2.toNat (by omega)
  have a3 := t5 (t_pop l1).toNat (by omega)
  have pr := t_prod a2.2 a3.2
  have eb := t_bit_j hs hi
  refine E_R_memberHas (B_R_memberHas_0 hR (S_R_bits hs (B_R_memberHas_8 hR ⟨hp.1, hp.2⟩ hi hi (q_i k ?_))))
  rw [eb, a1.1, a2.1, a3.1, Int.mul_comm (M 52 _) (M 51 _), w32_id (x := M 51 l2.toNat * M 52 (t_pop l1).toNat) (by omega) (by omega), j_idiv_eq (by omega) (by omega), Int.tdiv_eq_ediv_of_nonneg pr.1, t_keep]
  have hb : t_bit l1 l2 = 0 ∨ t_bit l1 l2 = 1 := by unfold t_bit; omega
  rcases hb with hb | hb
  · rw [hb, Int.zero_mul, w32_id (x := 0) (by omega) (by omega), w32_id (by omega) (by omega)]
  · rw [hb, Int.one_mul, w32_id (x := M 50 l2.toNat) (by omega) (by omega), w32_id (by omega) (by omega)]
end TM
