/-! THE SMALL MACHINE ALONE: rules, an instruction each -/
abbrev vX : Type := (Nat → Int) × Nat
def wp (X : vX) (d j pc : Nat) (ls st : List vV) (hp : vH) (P : Option vV → vH → Prop) : Prop := ∃ (n : Nat) (r : Option vV) (hp1 : vH), vm_run X.1 X.2 (vm_call X.1 X.2 d n) n j pc ls st hp = some (r, hp1) ∧ P r hp1
def wc (X : vX) (d j : Nat) (as : List vV) (hp : vH) (P : Option vV → vH → Prop) : Prop := ∃ (n : Nat) (r : Option vV) (hp1 : vH), vm_call X.1 X.2 d n j as hp = some (r, hp1) ∧ P r hp1
theorem vm_run_mono {xs : Nat → Int} {L : Nat} {o1 o2 : vO} (ho : ∀ j as hp q, o1 j as hp = some q → o2 j as hp = some q) {q : Option vV × vH} : ∀ (n n' j pc : Nat) (ls st : List vV) (hp : vH), n ≤ n' → vm_run xs L o1 n j pc ls st hp = some q → vm_run xs L o2 n' j pc ls st hp = some q
  | 0, _, _, _, _, _, _, _, h => by cases h
  | n + 1, 0, _, _, _, _, _, hn, _ => absurd hn (by omega)
  | n + 1, n' + 1, j, pc, ls, st, hp, hn, h => by
    unfold vm_run at h ⊢
    split at h
    · cases h
    · exact h
    · next j' as rest e =>
      split at h
      · cases h
      · next r1 hp1 e2 =>
        show (match o2 j' as hp with | none => none | some (r, hp1) => if hp.1.length ≤ hp1.1.length ∧ vm_sz hp.1 ≤ vm_sz hp1.1 then vm_run xs L o2 n' j (pc + 3) ls (r.toList ++ rest) hp1 else none) = some q
        rw [ho _ _ _ _ e2]
        split at h
        · next hc =>
          show (if hp.1.length ≤ hp1.1.length ∧ vm_sz hp.1 ≤ vm_sz hp1.1 then vm_run xs L o2 n' j (pc + 3) ls (r1.toList ++ rest) hp1 else none) = some q
          rw [if_pos hc]
          exact vm_run_mono ho n n' _ _ _ _ _ (by omega) h
        · cases h
    · next pc1 ls1 st1 hp1 e =>
      split at h
      · next hc =>
        show (if hp.1.length ≤ hp1.1.length ∧ vm_sz hp.1 ≤ vm_sz hp1.1 then vm_run xs L o2 n' j pc1 ls1 st1 hp1 else none) = some q
        rw [if_pos hc]
        exact vm_run_mono ho n n' _ _ _ _ _ (by omega) h
      · cases h
theorem vm_call_mono {xs : Nat → Int} {L : Nat} : ∀ (d d' n n' : Nat), d ≤ d' → n ≤ n' → ∀ j as hp q, vm_call xs L d n j as hp = some q → vm_call xs L d' n' j as hp = some q
  | 0, _, _, _, _, _, _, _, _, _, h => by cases h
  | d + 1, 0, _, _, hd, _, _, _, _, _, _ => absurd hd (by omega)
  | d + 1, d' + 1, n, n', hd, hn, j, as, hp, q, h => by
    unfold vm_call at h ⊢
    split at h
    · next hc =>
      show (if j < vm_jl ∧ (vm_wide as).length ≤ vm_mx j then vm_run xs L (vm_call xs L d' n') n' j 0 (vm_init (vm_mx j) as) [] hp else none) = some q
      rw [if_pos hc]
      exact vm_run_mono (vm_call_mono d d' n n' (by omega) hn) n n' _ _ _ _ _ hn h
    · cases h
section WP
variable {X : vX} {d j pc : Nat} {ls st : List vV} {hp : vH} {P : Option vV → vH → Prop}
theorem wc.deep {d' : Nat} {as : List vV} (hd : d ≤ d') (h : wc X d j as hp P) : wc X d' j as hp P := by
  obtain ⟨n, r, hp1, h1, h2⟩ := h
  exact ⟨n, r, hp1, vm_call_mono d d' n n hd (Nat.le_refl _) _ _ _ _ h1, h2⟩
theorem wc.mono {P' : Option vV → vH → Prop} {as : List vV} (h : wc X d j as hp P) (hP : ∀ r hp1, P r hp1 → P' r hp1) : wc X d j as hp P' := by
  obtain ⟨n, r, hp1, h1, h2⟩ := h
  exact ⟨n, r, hp1, h1, hP _ _ h2⟩
theorem wc_in {as : List vV} (hj : j < vm_jl) (hl : (vm_wide as).length ≤ vm_mx j) (k : wp X d j 0 (vm_init (vm_mx j) as) [] hp P) : wc X (d + 1) j as hp P := by
  obtain ⟨n, r, hp1, h1, h2⟩ := k
  refine ⟨n, r, hp1, ?_, h2⟩
  show (if j < vm_jl ∧ (vm_wide as).length ≤ vm_mx j then vm_run X.1 X.2 (vm_call X.1 X.2 d n) n j 0 (vm_init (vm_mx j) as) [] hp else none) = some (r, hp1)
  rw [if_pos ⟨hj, hl⟩]
  exact h1
theorem wp_nx {pc1 : Nat} {ls1 st1 : List vV} {hp1 : vH} (h : vm_do X.1 X.2 j pc ls st hp = some (.inr (.inr (pc1, ls1, st1, hp1)))) (hg : hp.1.length ≤ hp1.1.length ∧ vm_sz hp.1 ≤ vm_sz hp1.1) (k : wp X d j pc1 ls1 st1 hp1 P) : wp X d j pc ls st hp P := by
  obtain ⟨n, r, hp2, h1, h2⟩ := k
  refine ⟨n + 1, r, hp2, ?_, h2⟩
  have h3 := vm_run_mono (vm_call_mono (xs := X.1) (L := X.2) d d n (n + 1) (Nat.le_refl _) (by omega)) n n _ _ _ _ _ (Nat.le_refl _) h1
  unfold vm_run
  rw [h]
  show (if hp.1.length ≤ hp1.1.length ∧ vm_sz hp.1 ≤ vm_sz hp1.1 then vm_run X.1 X.2 (vm_call X.1 X.2 d (n + 1)) n j pc1 ls1 st1 hp1 else none) = some (r, hp2)
  rw [if_pos hg]
  exact h3
theorem wp_rt {r : Option vV} (h : vm_do X.1 X.2 j pc ls st hp = some (.inl r)) (k : P r hp) : wp X d j pc ls st hp P := by
  refine ⟨1, r, hp, ?_, k⟩
  unfold vm_run
  rw [h]
theorem wp_cl {j' : Nat} {as rest : List vV} (h : vm_do X.1 X.2 j pc ls st hp = some (.inr (.inl (j', as, rest)))) (k : wc X d j' as hp (fun r hp1 => (hp.1.length ≤ hp1.1.length ∧ vm_sz hp.1 ≤ vm_sz hp1.1) ∧ wp X d j (pc + 3) ls (r.toList ++ rest) hp1 P)) : wp X d j pc ls st hp P := by
  obtain ⟨n1, r1, hp1, h1, hg, n2, r2, hp2, h2, h3⟩ := k
  refine ⟨n1 + n2 + 1, r2, hp2, ?_, h3⟩
  have e1 := vm_call_mono (xs := X.1) (L := X.2) d d n1 (n1 + n2 + 1) (Nat.le_refl _) (by omega) _ _ _ _ h1
  have e2 := vm_run_mono (vm_call_mono (xs := X.1) (L := X.2) d d n2 (n1 + n2 + 1) (Nat.le_refl _) (by omega)) n2 (n1 + n2) _ _ _ _ _ (by omega) h2
  unfold vm_run
  rw [h]
  show (match vm_call X.1 X.2 d (n1 + n2 + 1) j' as hp with | none => none | some (r, hp1) => if hp.1.length ≤ hp1.1.length ∧ vm_sz hp.1 ≤ vm_sz hp1.1 then vm_run X.1 X.2 (vm_call X.1 X.2 d (n1 + n2 + 1)) (n1 + n2) j (pc + 3) ls (r.toList ++ rest) hp1 else none) = some (r2, hp2)
  rw [e1]
  show (if hp.1.length ≤ hp1.1.length ∧ vm_sz hp.1 ≤ vm_sz hp1.1 then vm_run X.1 X.2 (vm_call X.1 X.2 d (n1 + n2 + 1)) (n1 + n2) j (pc + 3) ls (r1.toList ++ rest) hp1 else none) = some (r2, hp2)
  rw [if_pos hg]
  exact e2
theorem vm_do_of {i : Instr} {len : Nat} {xs : Nat → Int} {L : Nat} (hd : decode (vm_cd j) pc = .ok (i, len)) (hl : vm_il i len = len) : vm_do xs L j pc ls st hp = vm_go i (vm_i xs L j pc ls st hp i len) := by
  unfold vm_do
  rw [hd]
  show (if vm_il i len = len then vm_go i (vm_i xs L j pc ls st hp i len) else none) = _
  rw [if_pos hl]
/-- a step that leaves the cells -/
theorem wp_s {i : Instr} {len : Nat} {pc1 : Nat} {ls1 st1 : List vV} {M1 : vM} (hd : decode (vm_cd j) pc = .ok (i, len)) (hl : vm_il i len = len) (h : vm_go i (vm_i X.1 X.2 j pc ls st hp i len) = some (.inr (.inr (pc1, ls1, st1, (hp.1, M1))))) (k : wp X d j pc1 ls1 st1 (hp.1, M1) P) : wp X d j pc ls st hp P :=
  wp_nx (hp1 := (hp.1, M1)) (by rw [vm_do_of hd hl]; exact h) ⟨Nat.le_refl _, Nat.le_refl _⟩ k
end WP
def w32 (x : Int) : Int := (x + 2147483648) % 4294967296 - 2147483648
def w64 (x : Int) : Int := (x + 9223372036854775808) % 18446744073709551616 - 9223372036854775808
theorem w32_bmod (x : Int) : x.bmod 4294967296 = w32 x := by
  unfold Int.bmod w32
  simp only
  split <;> omega
theorem w64_bmod (x : Int) : x.bmod 18446744073709551616 = w64 x := by
  unfold Int.bmod w64
  simp only
  split <;> omega
theorem w32_of (x : Int) : (Int32.ofInt x).toInt = w32 x := by rw [Int32.toInt_ofInt]; exact w32_bmod x
theorem w64_of (x : Int) : (Int64.ofInt x).toInt = w64 x := by rw [Int64.toInt_ofInt]; exact w64_bmod x
theorem w32_id {x : Int} (h1 : -2147483648 ≤ x) (h2 : x < 2147483648) : w32 x = x := by unfold w32; omega
theorem w64_id {x : Int} (h1 : -9223372036854775808 ≤ x) (h2 : x < 9223372036854775808) : w64 x = x := by unfold w64; omega
theorem w32_r (x : Int) : -2147483648 ≤ w32 x ∧ w32 x < 2147483648 := by unfold w32; omega
theorem w64_r (x : Int) : -9223372036854775808 ≤ w64 x ∧ w64 x < 9223372036854775808 := by unfold w64; omega
theorem w32_add (x y : Int) : (Int32.ofInt x + Int32.ofInt y).toInt = w32 (x + y) := by rw [← Int32.ofInt_add, w32_of]
theorem w32_sub (x y : Int) : (Int32.ofInt x - Int32.ofInt y).toInt = w32 (x - y) := by rw [← Int32.ofInt_sub, w32_of]
theorem w32_mul (x y : Int) : (Int32.ofInt x * Int32.ofInt y).toInt = w32 (x * y) := by rw [← Int32.ofInt_mul, w32_of]
theorem w32_neg (x : Int) : (-Int32.ofInt x).toInt = w32 (-x) := by rw [← Int32.ofInt_neg, w32_of]
theorem w64_add (x y : Int) : (Int64.ofInt x + Int64.ofInt y).toInt = w64 (x + y) := by rw [← Int64.ofInt_add, w64_of]
theorem w64_sub (x y : Int) : (Int64.ofInt x - Int64.ofInt y).toInt = w64 (x - y) := by rw [← Int64.ofInt_sub, w64_of]
theorem w64_mul (x y : Int) : (Int64.ofInt x * Int64.ofInt y).toInt = w64 (x * y) := by rw [← Int64.ofInt_mul, w64_of]
theorem w64_neg (x : Int) : (-Int64.ofInt x).toInt = w64 (-x) := by rw [← Int64.ofInt_neg, w64_of]
def j_iand (x y : Int) : Int := (Int32.ofInt x &&& Int32.ofInt y).toInt
def j_ixor (x y : Int) : Int := (Int32.ofInt x ^^^ Int32.ofInt y).toInt
def j_ishl (x y : Int) : Int := (Int32.ofInt x <<< (Int32.ofInt y &&& 31)).toInt
def j_ishr (x y : Int) : Int := (Int32.ofInt x >>> (Int32.ofInt y &&& 31)).toInt
def j_iushr (x y : Int) : Int := ((Int32.ofInt x).toUInt32 >>> ((Int32.ofInt y).toUInt32 &&& Int32.toUInt32 31)).toInt32.toInt
def j_idiv (x y : Int) : Int := (Int32.ofInt x / Int32.ofInt y).toInt
def j_irem (x y : Int) : Int := (Int32.ofInt x - Int32.ofInt x / Int32.ofInt y * Int32.ofInt y).toInt
def j_land (x y : Int) : Int := (Int64.ofInt x &&& Int64.ofInt y).toInt
def j_lor (x y : Int) : Int := (Int64.ofInt x ||| Int64.ofInt y).toInt
def j_lshl (x y : Int) : Int := (Int64.ofInt x <<< ((Int32.ofInt y).toInt64 &&& 63)).toInt
def j_lshr (x y : Int) : Int := (Int64.ofInt x >>> ((Int32.ofInt y).toInt64 &&& 63)).toInt
def j_lushr (x y : Int) : Int := ((Int64.ofInt x).toUInt64 >>> ((Int32.ofInt y).toInt64.toUInt64 &&& Int64.toUInt64 63)).toInt64.toInt
def j_ldiv (x y : Int) : Int := (Int64.ofInt x / Int64.ofInt y).toInt
def j_lrem (x y : Int) : Int := (Int64.ofInt x - Int64.ofInt x / Int64.ofInt y * Int64.ofInt y).toInt
def j_l2i (x : Int) : Int := (Int64.ofInt x).toInt32.toInt
def j_i2b (x : Int) : Int := (Int32.ofInt x).toInt8.toInt32.toInt
section WR
variable {X : vX} {d j pc : Nat} {ls st : List vV} {S : List vSh} {M : vM} {P : Option vV → vH → Prop}
theorem w_ic {n v : Int} (hd : decode (vm_cd j) pc = .ok (.iconst n, 1)) (hv : (Int32.ofInt n).toInt = v) (k : wp X d j (pc + 1) ls (vI v :: st) (S, M) P) : wp X d j pc ls st (S, M) P := by
  subst hv
  exact wp_s hd rfl rfl k
theorem w_bi {n v : Int} (hd : decode (vm_cd j) pc = .ok (.bipush n, 2)) (hv : (Int8.ofInt n).toInt32.toInt = v) (k : wp X d j (pc + 2) ls (vI v :: st) (S, M) P) : wp X d j pc ls st (S, M) P := by
  subst hv
  exact wp_s hd rfl rfl k
theorem w_si {n v : Int} (hd : decode (vm_cd j) pc = .ok (.sipush n, 3)) (hv : (Int16.ofInt n).toInt32.toInt = v) (k : wp X d j (pc + 3) ls (vI v :: st) (S, M) P) : wp X d j pc ls st (S, M) P := by
  subst hv
  exact wp_s hd rfl rfl k
theorem w_lc {n : Fin 2} {v : Int} (hd : decode (vm_cd j) pc = .ok (.lconst n, 1)) (hv : (Int64.ofNat n).toInt = v) (k : wp X d j (pc + 1) ls (vL v :: st) (S, M) P) : wp X d j pc ls st (S, M) P := by
  subst hv
  exact wp_s hd rfl rfl k
theorem w_ldc {idx i0 : Nat} {n v : Int} (hd : decode (vm_cd j) pc = .ok (.ldc idx, 2)) (hl : vm_cn.lookup (vm_own j, idx) = some (0, n, i0)) (hv : (Int32.ofInt n).toInt = v) (k : wp X d j (pc + 2) ls (vI v :: st) (S, M) P) : wp X d j pc ls st (S, M) P := by
  subst hv
  refine wp_s (M1 := M) hd rfl ?_ k
  show vm_go _ (match vm_cn.lookup (vm_own j, idx) with | some (0, v, _) => vm_nx (pc + 2) ls (vI (Int32.ofInt v).toInt :: st) (S, M) | _ => none) = _
  rw [hl]
  rfl
theorem w_ldc_w {idx i0 : Nat} {n v : Int} (hd : decode (vm_cd j) pc = .ok (.ldc_w idx, 3)) (hl : vm_cn.lookup (vm_own j, idx) = some (0, n, i0)) (hv : (Int32.ofInt n).toInt = v) (k : wp X d j (pc + 3) ls (vI v :: st) (S, M) P) : wp X d j pc ls st (S, M) P := by
  subst hv
  refine wp_s (M1 := M) hd rfl ?_ k
  show vm_go _ (match vm_cn.lookup (vm_own j, idx) with | some (0, v, _) => vm_nx (pc + 3) ls (vI (Int32.ofInt v).toInt :: st) (S, M) | _ => none) = _
  rw [hl]
  rfl
theorem w_ldc2_w {idx i0 : Nat} {n v : Int} (hd : decode (vm_cd j) pc = .ok (.ldc2_w idx, 3)) (hl : vm_cn.lookup (vm_own j, idx) = some (1, n, i0)) (hv : (Int64.ofInt n).toInt = v) (k : wp X d j (pc + 3) ls (vL v :: st) (S, M) P) : wp X d j pc ls st (S, M) P := by
  subst hv
  refine wp_s (M1 := M) hd rfl ?_ k
  show vm_go _ (match vm_cn.lookup (vm_own j, idx) with | some (1, v, _) => vm_nx (pc + 3) ls (vL (Int64.ofInt v).toInt :: st) (S, M) | _ => none) = _
  rw [hl]
  rfl
theorem w_iload {k0 : Nat} {x : Int} (hd : decode (vm_cd j) pc = .ok (.iload k0, 2)) (hx : ls[(k0 : Nat)]? = some (vI x)) (k : wp X d j (pc + 2) ls (vI x :: st) (S, M) P) : wp X d j pc ls st (S, M) P := by
  refine wp_s (M1 := M) hd rfl ?_ k
  show vm_go _ (vm_load 2 pc k0 ls st (S, M) 0) = _
  unfold vm_load
  rw [hx]
  rfl
theorem w_iload_n {k0 : Fin 4} {x : Int} (hd : decode (vm_cd j) pc = .ok (.iload_n k0, 1)) (hx : ls[(k0 : Nat)]? = some (vI x)) (k : wp X d j (pc + 1) ls (vI x :: st) (S, M) P) : wp X d j pc ls st (S, M) P := by
  refine wp_s (M1 := M) hd rfl ?_ k
  show vm_go _ (vm_load 1 pc k0 ls st (S, M) 0) = _
  unfold vm_load
  rw [hx]
  rfl
theorem w_lload {k0 : Nat} {x : Int} (hd : decode (vm_cd j) pc = .ok (.lload k0, 2)) (hx : ls[(k0 : Nat)]? = some (vL x)) (k : wp X d j (pc + 2) ls (vL x :: st) (S, M) P) : wp X d j pc ls st (S, M) P := by
  refine wp_s (M1 := M) hd rfl ?_ k
  show vm_go _ (vm_load 2 pc k0 ls st (S, M) 1) = _
  unfold vm_load
  rw [hx]
  rfl
theorem w_lload_n {k0 : Fin 4} {x : Int} (hd : decode (vm_cd j) pc = .ok (.lload_n k0, 1)) (hx : ls[(k0 : Nat)]? = some (vL x)) (k : wp X d j (pc + 1) ls (vL x :: st) (S, M) P) : wp X d j pc ls st (S, M) P := by
  refine wp_s (M1 := M) hd rfl ?_ k
  show vm_go _ (vm_load 1 pc k0 ls st (S, M) 1) = _
  unfold vm_load
  rw [hx]
  rfl
theorem w_aload {k0 : Nat} {x : Int} (hd : decode (vm_cd j) pc = .ok (.aload k0, 2)) (hx : ls[(k0 : Nat)]? = some (vR x)) (k : wp X d j (pc + 2) ls (vR x :: st) (S, M) P) : wp X d j pc ls st (S, M) P := by
  refine wp_s (M1 := M) hd rfl ?_ k
  show vm_go _ (vm_load 2 pc k0 ls st (S, M) 2) = _
  unfold vm_load
  rw [hx]
  rfl
theorem w_aload_n {k0 : Fin 4} {x : Int} (hd : decode (vm_cd j) pc = .ok (.aload_n k0, 1)) (hx : ls[(k0 : Nat)]? = some (vR x)) (k : wp X d j (pc + 1) ls (vR x :: st) (S, M) P) : wp X d j pc ls st (S, M) P := by
  refine wp_s (M1 := M) hd rfl ?_ k
  show vm_go _ (vm_load 1 pc k0 ls st (S, M) 2) = _
  unfold vm_load
  rw [hx]
  rfl
theorem w_istore {k0 : Nat} {x : Int} (hd : decode (vm_cd j) pc = .ok (.istore k0, 2)) (hk : (k0 : Nat) < ls.length) (k : wp X d j (pc + 2) (vm_put1 ls k0 (vI x)) st (S, M) P) : wp X d j pc ls (vI x :: st) (S, M) P := by
  refine wp_s (M1 := M) hd rfl ?_ k
  show vm_go _ (if (k0 : Nat) < ls.length then vm_nx (pc + 2) (vm_put1 ls k0 (vI x)) st (S, M) else none) = _
  rw [if_pos hk]
  rfl
theorem w_istore_n {k0 : Fin 4} {x : Int} (hd : decode (vm_cd j) pc = .ok (.istore_n k0, 1)) (hk : (k0 : Nat) < ls.length) (k : wp X d j (pc + 1) (vm_put1 ls k0 (vI x)) st (S, M) P) : wp X d j pc ls (vI x :: st) (S, M) P := by
  refine wp_s (M1 := M) hd rfl ?_ k
  show vm_go _ (if (k0 : Nat) < ls.length then vm_nx (pc + 1) (vm_put1 ls k0 (vI x)) st (S, M) else none) = _
  rw [if_pos hk]
  rfl
theorem w_lstore {k0 : Nat} {x : Int} (hd : decode (vm_cd j) pc = .ok (.lstore k0, 2)) (hk : (k0 : Nat) + 1 < ls.length) (k : wp X d j (pc + 2) (vm_put2 ls k0 (vL x)) st (S, M) P) : wp X d j pc ls (vL x :: st) (S, M) P := by
  refine wp_s (M1 := M) hd rfl ?_ k
  show vm_go _ (if (k0 : Nat) + 1 < ls.length then vm_nx (pc + 2) (vm_put2 ls k0 (vL x)) st (S, M) else none) = _
  rw [if_pos hk]
  rfl
theorem w_lstore_n {k0 : Fin 4} {x : Int} (hd : decode (vm_cd j) pc = .ok (.lstore_n k0, 1)) (hk : (k0 : Nat) + 1 < ls.length) (k : wp X d j (pc + 1) (vm_put2 ls k0 (vL x)) st (S, M) P) : wp X d j pc ls (vL x :: st) (S, M) P := by
  refine wp_s (M1 := M) hd rfl ?_ k
  show vm_go _ (if (k0 : Nat) + 1 < ls.length then vm_nx (pc + 1) (vm_put2 ls k0 (vL x)) st (S, M) else none) = _
  rw [if_pos hk]
  rfl
theorem w_astore {k0 : Nat} {x : Int} (hd : decode (vm_cd j) pc = .ok (.astore k0, 2)) (hk : (k0 : Nat) < ls.length) (k : wp X d j (pc + 2) (vm_put1 ls k0 (vR x)) st (S, M) P) : wp X d j pc ls (vR x :: st) (S, M) P := by
  refine wp_s (M1 := M) hd rfl ?_ k
  show vm_go _ (if (k0 : Nat) < ls.length then vm_nx (pc + 2) (vm_put1 ls k0 (vR x)) st (S, M) else none) = _
  rw [if_pos hk]
  rfl
theorem w_astore_n {k0 : Fin 4} {x : Int} (hd : decode (vm_cd j) pc = .ok (.astore_n k0, 1)) (hk : (k0 : Nat) < ls.length) (k : wp X d j (pc + 1) (vm_put1 ls k0 (vR x)) st (S, M) P) : wp X d j pc ls (vR x :: st) (S, M) P := by
  refine wp_s (M1 := M) hd rfl ?_ k
  show vm_go _ (if (k0 : Nat) < ls.length then vm_nx (pc + 1) (vm_put1 ls k0 (vR x)) st (S, M) else none) = _
  rw [if_pos hk]
  rfl
theorem w_iinc {k0 : Nat} {n x : Int} (hd : decode (vm_cd j) pc = .ok (.iinc k0 n, 3)) (hx : ls[k0]? = some (vI x)) (k : wp X d j (pc + 3) (vm_put1 ls k0 (vI (w32 (x + n)))) st (S, M) P) : wp X d j pc ls st (S, M) P := by
  refine wp_s (M1 := M) hd rfl ?_ k
  show vm_go _ (match ls[k0]? with | some (.inl x) => vm_nx (pc + 3) (vm_put1 ls k0 (vI (Int32.ofInt x + Int32.ofInt n).toInt)) st (S, M) | _ => none) = _
  rw [hx, ← w32_add]
  rfl
theorem w_iadd {x y : Int} (hd : decode (vm_cd j) pc = .ok (.iadd, 1)) (k : wp X d j (pc + 1) ls (vI (w32 (x + y)) :: st) (S, M) P) : wp X d j pc ls (vI y :: vI x :: st) (S, M) P := wp_s (M1 := M) hd rfl (by rw [← w32_add]; rfl) k
theorem w_isub {x y : Int} (hd : decode (vm_cd j) pc = .ok (.isub, 1)) (k : wp X d j (pc + 1) ls (vI (w32 (x - y)) :: st) (S, M) P) : wp X d j pc ls (vI y :: vI x :: st) (S, M) P := wp_s (M1 := M) hd rfl (by rw [← w32_sub]; rfl) k
theorem w_imul {x y : Int} (hd : decode (vm_cd j) pc = .ok (.imul, 1)) (k : wp X d j (pc + 1) ls (vI (w32 (x * y)) :: st) (S, M) P) : wp X d j pc ls (vI y :: vI x :: st) (S, M) P := wp_s (M1 := M) hd rfl (by rw [← w32_mul]; rfl) k
theorem w_ladd {x y : Int} (hd : decode (vm_cd j) pc = .ok (.ladd, 1)) (k : wp X d j (pc + 1) ls (vL (w64 (x + y)) :: st) (S, M) P) : wp X d j pc ls (vL y :: vL x :: st) (S, M) P := wp_s (M1 := M) hd rfl (by rw [← w64_add]; rfl) k
theorem w_lsub {x y : Int} (hd : decode (vm_cd j) pc = .ok (.lsub, 1)) (k : wp X d j (pc + 1) ls (vL (w64 (x - y)) :: st) (S, M) P) : wp X d j pc ls (vL y :: vL x :: st) (S, M) P := wp_s (M1 := M) hd rfl (by rw [← w64_sub]; rfl) k
theorem w_lmul {x y : Int} (hd : decode (vm_cd j) pc = .ok (.lmul, 1)) (k : wp X d j (pc + 1) ls (vL (w64 (x * y)) :: st) (S, M) P) : wp X d j pc ls (vL y :: vL x :: st) (S, M) P := wp_s (M1 := M) hd rfl (by rw [← w64_mul]; rfl) k
theorem w_iand {x y : Int} (hd : decode (vm_cd j) pc = .ok (.iand, 1)) (k : wp X d j (pc + 1) ls (vI (j_iand x y) :: st) (S, M) P) : wp X d j pc ls (vI y :: vI x :: st) (S, M) P := wp_s (M1 := M) hd rfl rfl k
theorem w_ixor {x y : Int} (hd : decode (vm_cd j) pc = .ok (.ixor, 1)) (k : wp X d j (pc + 1) ls (vI (j_ixor x y) :: st) (S, M) P) : wp X d j pc ls (vI y :: vI x :: st) (S, M) P := wp_s (M1 := M) hd rfl rfl k
theorem w_ishl {x y : Int} (hd : decode (vm_cd j) pc = .ok (.ishl, 1)) (k : wp X d j (pc + 1) ls (vI (j_ishl x y) :: st) (S, M) P) : wp X d j pc ls (vI y :: vI x :: st) (S, M) P := wp_s (M1 := M) hd rfl rfl k
theorem w_ishr {x y : Int} (hd : decode (vm_cd j) pc = .ok (.ishr, 1)) (k : wp X d j (pc + 1) ls (vI (j_ishr x y) :: st) (S, M) P) : wp X d j pc ls (vI y :: vI x :: st) (S, M) P := wp_s (M1 := M) hd rfl rfl k
theorem w_iushr {x y : Int} (hd : decode (vm_cd j) pc = .ok (.iushr, 1)) (k : wp X d j (pc + 1) ls (vI (j_iushr x y) :: st) (S, M) P) : wp X d j pc ls (vI y :: vI x :: st) (S, M) P := wp_s (M1 := M) hd rfl rfl k
theorem w_land {x y : Int} (hd : decode (vm_cd j) pc = .ok (.land, 1)) (k : wp X d j (pc + 1) ls (vL (j_land x y) :: st) (S, M) P) : wp X d j pc ls (vL y :: vL x :: st) (S, M) P := wp_s (M1 := M) hd rfl rfl k
theorem w_lor {x y : Int} (hd : decode (vm_cd j) pc = .ok (.lor, 1)) (k : wp X d j (pc + 1) ls (vL (j_lor x y) :: st) (S, M) P) : wp X d j pc ls (vL y :: vL x :: st) (S, M) P := wp_s (M1 := M) hd rfl rfl k
theorem w_lshl {x y : Int} (hd : decode (vm_cd j) pc = .ok (.lshl, 1)) (k : wp X d j (pc + 1) ls (vL (j_lshl x y) :: st) (S, M) P) : wp X d j pc ls (vI y :: vL x :: st) (S, M) P := wp_s (M1 := M) hd rfl rfl k
theorem w_lshr {x y : Int} (hd : decode (vm_cd j) pc = .ok (.lshr, 1)) (k : wp X d j (pc + 1) ls (vL (j_lshr x y) :: st) (S, M) P) : wp X d j pc ls (vI y :: vL x :: st) (S, M) P := wp_s (M1 := M) hd rfl rfl k
theorem w_lushr {x y : Int} (hd : decode (vm_cd j) pc = .ok (.lushr, 1)) (k : wp X d j (pc + 1) ls (vL (j_lushr x y) :: st) (S, M) P) : wp X d j pc ls (vI y :: vL x :: st) (S, M) P := wp_s (M1 := M) hd rfl rfl k
theorem w_idiv {x y : Int} (hd : decode (vm_cd j) pc = .ok (.idiv, 1)) (hy : y ≠ 0) (k : wp X d j (pc + 1) ls (vI (j_idiv x y) :: st) (S, M) P) : wp X d j pc ls (vI y :: vI x :: st) (S, M) P := by
  refine wp_s (M1 := M) hd rfl ?_ k
  show vm_go _ (match (vI y :: vI x :: st : List vV) with | .inl 0 :: _ => none | _ => vm_bi (fun x y => x / y) pc ls (vI y :: vI x :: st) (S, M)) = _
  split
  · next h => cases h; exact absurd rfl hy
  · rfl
theorem w_irem {x y : Int} (hd : decode (vm_cd j) pc = .ok (.irem, 1)) (hy : y ≠ 0) (k : wp X d j (pc + 1) ls (vI (j_irem x y) :: st) (S, M) P) : wp X d j pc ls (vI y :: vI x :: st) (S, M) P := by
  refine wp_s (M1 := M) hd rfl ?_ k
  show vm_go _ (match (vI y :: vI x :: st : List vV) with | .inl 0 :: _ => none | _ => vm_bi (fun x y => x - x / y * y) pc ls (vI y :: vI x :: st) (S, M)) = _
  split
  · next h => cases h; exact absurd rfl hy
  · rfl
theorem w_ldiv {x y : Int} (hd : decode (vm_cd j) pc = .ok (.ldiv, 1)) (hy : y ≠ 0) (k : wp X d j (pc + 1) ls (vL (j_ldiv x y) :: st) (S, M) P) : wp X d j pc ls (vL y :: vL x :: st) (S, M) P := by
  refine wp_s (M1 := M) hd rfl ?_ k
  show vm_go _ (match (vL y :: vL x :: st : List vV) with | .inr (.inl 0) :: _ => none | _ => vm_bl (fun x y => x / y) pc ls (vL y :: vL x :: st) (S, M)) = _
  split
  · next h => cases h; exact absurd rfl hy
  · rfl
theorem w_lrem {x y : Int} (hd : decode (vm_cd j) pc = .ok (.lrem, 1)) (hy : y ≠ 0) (k : wp X d j (pc + 1) ls (vL (j_lrem x y) :: st) (S, M) P) : wp X d j pc ls (vL y :: vL x :: st) (S, M) P := by
  refine wp_s (M1 := M) hd rfl ?_ k
  show vm_go _ (match (vL y :: vL x :: st : List vV) with | .inr (.inl 0) :: _ => none | _ => vm_bl (fun x y => x - x / y * y) pc ls (vL y :: vL x :: st) (S, M)) = _
  split
  · next h => cases h; exact absurd rfl hy
  · rfl
theorem w_ineg {x : Int} (hd : decode (vm_cd j) pc = .ok (.ineg, 1)) (k : wp X d j (pc + 1) ls (vI (w32 (-x)) :: st) (S, M) P) : wp X d j pc ls (vI x :: st) (S, M) P := wp_s (M1 := M) hd rfl (by rw [← w32_neg]; rfl) k
theorem w_lneg {x : Int} (hd : decode (vm_cd j) pc = .ok (.lneg, 1)) (k : wp X d j (pc + 1) ls (vL (w64 (-x)) :: st) (S, M) P) : wp X d j pc ls (vL x :: st) (S, M) P := wp_s (M1 := M) hd rfl (by rw [← w64_neg]; rfl) k
theorem w_lcmp {x y : Int} (hd : decode (vm_cd j) pc = .ok (.lcmp, 1)) (k : wp X d j (pc + 1) ls (vI (if y < x then 1 else if x = y then 0 else -1) :: st) (S, M) P) : wp X d j pc ls (vL y :: vL x :: st) (S, M) P := wp_s (M1 := M) hd rfl rfl k
theorem w_i2l {x : Int} (hd : decode (vm_cd j) pc = .ok (.i2l, 1)) (k : wp X d j (pc + 1) ls (vL x :: st) (S, M) P) : wp X d j pc ls (vI x :: st) (S, M) P := wp_s (M1 := M) hd rfl rfl k
theorem w_l2i {x : Int} (hd : decode (vm_cd j) pc = .ok (.l2i, 1)) (k : wp X d j (pc + 1) ls (vI (j_l2i x) :: st) (S, M) P) : wp X d j pc ls (vL x :: st) (S, M) P := wp_s (M1 := M) hd rfl rfl k
theorem w_i2b {x : Int} (hd : decode (vm_cd j) pc = .ok (.i2b, 1)) (k : wp X d j (pc + 1) ls (vI (j_i2b x) :: st) (S, M) P) : wp X d j pc ls (vI x :: st) (S, M) P := wp_s (M1 := M) hd rfl rfl k
theorem w_dup {v : vV} (hd : decode (vm_cd j) pc = .ok (.dup, 1)) (hc : vm_cat v = 1) (k : wp X d j (pc + 1) ls (v :: v :: st) (S, M) P) : wp X d j pc ls (v :: st) (S, M) P := by
  refine wp_s (M1 := M) hd rfl ?_ k
  show vm_go _ (if vm_cat v = 1 then vm_nx (pc + 1) ls (v :: v :: st) (S, M) else none) = _
  rw [if_pos hc]
  rfl
theorem w_dup2 {v w : vV} (hd : decode (vm_cd j) pc = .ok (.dup2, 1)) (hc : vm_cat v = 1 ∧ vm_cat w = 1) (k : wp X d j (pc + 1) ls (v :: w :: v :: w :: st) (S, M) P) : wp X d j pc ls (v :: w :: st) (S, M) P := by
  refine wp_s (M1 := M) hd rfl ?_ k
  show vm_go _ (if vm_cat v = 1 ∧ vm_cat w = 1 then vm_nx (pc + 1) ls (v :: w :: v :: w :: st) (S, M) else none) = _
  rw [if_pos hc]
  rfl
theorem w_pop2 {v : vV} (hd : decode (vm_cd j) pc = .ok (.pop2, 1)) (hc : vm_cat v = 2) (k : wp X d j (pc + 1) ls st (S, M) P) : wp X d j pc ls (v :: st) (S, M) P := by
  refine wp_s (M1 := M) hd rfl ?_ k
  show vm_go _ (if vm_cat v = 2 then vm_nx (pc + 1) ls st (S, M) else none) = _
  rw [if_pos hc]
  rfl
theorem w_br {cd : Bool} {off : Int} {i : Instr} {st0 : List vV} {tgt : Nat} (hd : decode (vm_cd j) pc = .ok (i, 3)) (hl : vm_il i 3 = 3) (hgo : ∀ q : Nat × List vV × List vV × vH, vm_go i (some (.inr (.inr q))) = some (.inr (.inr q))) (hi : vm_i X.1 X.2 j pc ls st0 (S, M) i 3 = vm_br cd pc off ls st (S, M)) (ht : (pc : Int) + off = tgt) (k1 : cd = true → wp X d j tgt ls st (S, M) P) (k2 : cd = false → wp X d j (pc + 3) ls st (S, M) P) : wp X d j pc ls st0 (S, M) P := by
  have e : vm_br cd pc off ls st (S, M) = vm_nx (if cd = true then tgt else pc + 3) ls st (S, M) := by
    unfold vm_br
    rw [if_pos (by omega), ht]
    rfl
  refine wp_s (M1 := M) (pc1 := if cd = true then tgt else pc + 3) (ls1 := ls) (st1 := st) hd hl ?_ ?_
  · rw [hi, e]
    exact hgo _
  · cases cd
    · exact k2 rfl
    · exact k1 rfl
theorem w_icmp_eq {x y off : Int} {tgt : Nat} (hd : decode (vm_cd j) pc = .ok (.if_icmp .eq off, 3)) (ht : (pc : Int) + off = tgt) (k1 : x = y → wp X d j tgt ls st (S, M) P) (k2 : ¬ x = y → wp X d j (pc + 3) ls st (S, M) P) : wp X d j pc ls (vI y :: vI x :: st) (S, M) P := w_br (cd := vm_cmp .eq x y) hd rfl (fun _ => rfl) rfl ht (fun h => k1 (of_decide_eq_true h)) (fun h => k2 (of_decide_eq_false h))
theorem w_if_eq {x off : Int} {tgt : Nat} (hd : decode (vm_cd j) pc = .ok (.ifCond .eq off, 3)) (ht : (pc : Int) + off = tgt) (k1 : x = 0 → wp X d j tgt ls st (S, M) P) (k2 : ¬ x = 0 → wp X d j (pc + 3) ls st (S, M) P) : wp X d j pc ls (vI x :: st) (S, M) P := w_br (cd := vm_cmp .eq x 0) hd rfl (fun _ => rfl) rfl ht (fun h => k1 (of_decide_eq_true h)) (fun h => k2 (of_decide_eq_false h))
theorem w_icmp_ne {x y off : Int} {tgt : Nat} (hd : decode (vm_cd j) pc = .ok (.if_icmp .ne off, 3)) (ht : (pc : Int) + off = tgt) (k1 : ¬ x = y → wp X d j tgt ls st (S, M) P) (k2 : x = y → wp X d j (pc + 3) ls st (S, M) P) : wp X d j pc ls (vI y :: vI x :: st) (S, M) P := w_br (cd := vm_cmp .ne x y) hd rfl (fun _ => rfl) rfl ht (fun h => k1 (of_decide_eq_true h)) (fun h => k2 (Decidable.of_not_not (of_decide_eq_false h)))
theorem w_if_ne {x off : Int} {tgt : Nat} (hd : decode (vm_cd j) pc = .ok (.ifCond .ne off, 3)) (ht : (pc : Int) + off = tgt) (k1 : ¬ x = 0 → wp X d j tgt ls st (S, M) P) (k2 : x = 0 → wp X d j (pc + 3) ls st (S, M) P) : wp X d j pc ls (vI x :: st) (S, M) P := w_br (cd := vm_cmp .ne x 0) hd rfl (fun _ => rfl) rfl ht (fun h => k1 (of_decide_eq_true h)) (fun h => k2 (Decidable.of_not_not (of_decide_eq_false h)))
theorem w_icmp_lt {x y off : Int} {tgt : Nat} (hd : decode (vm_cd j) pc = .ok (.if_icmp .lt off, 3)) (ht : (pc : Int) + off = tgt) (k1 : x < y → wp X d j tgt ls st (S, M) P) (k2 : y ≤ x → wp X d j (pc + 3) ls st (S, M) P) : wp X d j pc ls (vI y :: vI x :: st) (S, M) P := w_br (cd := vm_cmp .lt x y) hd rfl (fun _ => rfl) rfl ht (fun h => k1 (of_decide_eq_true h)) (fun h => k2 (by have := of_decide_eq_false h; omega))
theorem w_if_lt {x off : Int} {tgt : Nat} (hd : decode (vm_cd j) pc = .ok (.ifCond .lt off, 3)) (ht : (pc : Int) + off = tgt) (k1 : x < 0 → wp X d j tgt ls st (S, M) P) (k2 : 0 ≤ x → wp X d j (pc + 3) ls st (S, M) P) : wp X d j pc ls (vI x :: st) (S, M) P := w_br (cd := vm_cmp .lt x 0) hd rfl (fun _ => rfl) rfl ht (fun h => k1 (of_decide_eq_true h)) (fun h => k2 (by have := of_decide_eq_false h; omega))
theorem w_icmp_ge {x y off : Int} {tgt : Nat} (hd : decode (vm_cd j) pc = .ok (.if_icmp .ge off, 3)) (ht : (pc : Int) + off = tgt) (k1 : y ≤ x → wp X d j tgt ls st (S, M) P) (k2 : x < y → wp X d j (pc + 3) ls st (S, M) P) : wp X d j pc ls (vI y :: vI x :: st) (S, M) P := w_br (cd := vm_cmp .ge x y) hd rfl (fun _ => rfl) rfl ht (fun h => k1 (of_decide_eq_true h)) (fun h => k2 (by have := of_decide_eq_false h; omega))
theorem w_if_ge {x off : Int} {tgt : Nat} (hd : decode (vm_cd j) pc = .ok (.ifCond .ge off, 3)) (ht : (pc : Int) + off = tgt) (k1 : 0 ≤ x → wp X d j tgt ls st (S, M) P) (k2 : x < 0 → wp X d j (pc + 3) ls st (S, M) P) : wp X d j pc ls (vI x :: st) (S, M) P := w_br (cd := vm_cmp .ge x 0) hd rfl (fun _ => rfl) rfl ht (fun h => k1 (of_decide_eq_true h)) (fun h => k2 (by have := of_decide_eq_false h; omega))
theorem w_icmp_gt {x y off : Int} {tgt : Nat} (hd : decode (vm_cd j) pc = .ok (.if_icmp .gt off, 3)) (ht : (pc : Int) + off = tgt) (k1 : y < x → wp X d j tgt ls st (S, M) P) (k2 : x ≤ y → wp X d j (pc + 3) ls st (S, M) P) : wp X d j pc ls (vI y :: vI x :: st) (S, M) P := w_br (cd := vm_cmp .gt x y) hd rfl (fun _ => rfl) rfl ht (fun h => k1 (of_decide_eq_true h)) (fun h => k2 (by have := of_decide_eq_false h; omega))
theorem w_if_gt {x off : Int} {tgt : Nat} (hd : decode (vm_cd j) pc = .ok (.ifCond .gt off, 3)) (ht : (pc : Int) + off = tgt) (k1 : 0 < x → wp X d j tgt ls st (S, M) P) (k2 : x ≤ 0 → wp X d j (pc + 3) ls st (S, M) P) : wp X d j pc ls (vI x :: st) (S, M) P := w_br (cd := vm_cmp .gt x 0) hd rfl (fun _ => rfl) rfl ht (fun h => k1 (of_decide_eq_true h)) (fun h => k2 (by have := of_decide_eq_false h; omega))
theorem w_icmp_le {x y off : Int} {tgt : Nat} (hd : decode (vm_cd j) pc = .ok (.if_icmp .le off, 3)) (ht : (pc : Int) + off = tgt) (k1 : x ≤ y → wp X d j tgt ls st (S, M) P) (k2 : y < x → wp X d j (pc + 3) ls st (S, M) P) : wp X d j pc ls (vI y :: vI x :: st) (S, M) P := w_br (cd := vm_cmp .le x y) hd rfl (fun _ => rfl) rfl ht (fun h => k1 (of_decide_eq_true h)) (fun h => k2 (by have := of_decide_eq_false h; omega))
theorem w_if_le {x off : Int} {tgt : Nat} (hd : decode (vm_cd j) pc = .ok (.ifCond .le off, 3)) (ht : (pc : Int) + off = tgt) (k1 : x ≤ 0 → wp X d j tgt ls st (S, M) P) (k2 : 0 < x → wp X d j (pc + 3) ls st (S, M) P) : wp X d j pc ls (vI x :: st) (S, M) P := w_br (cd := vm_cmp .le x 0) hd rfl (fun _ => rfl) rfl ht (fun h => k1 (of_decide_eq_true h)) (fun h => k2 (by have := of_decide_eq_false h; omega))
theorem w_goto {off : Int} {tgt : Nat} (hd : decode (vm_cd j) pc = .ok (.goto off, 3)) (ht : (pc : Int) + off = tgt) (k : wp X d j tgt ls st (S, M) P) : wp X d j pc ls st (S, M) P := w_br hd rfl (fun _ => rfl) rfl ht (fun _ => k) (fun h => by cases h)
theorem w_tab {dflt lo hi off : Int} {offs : Array Int} {len tgt : Nat} {x : Int} (hd : decode (vm_cd j) pc = .ok (.tableswitch dflt lo hi offs, len)) (ho : (if x < lo ∨ hi < x then some dflt else offs[(x - lo).toNat]?) = some off) (ht : (pc : Int) + off = tgt) (k : wp X d j tgt ls st (S, M) P) : wp X d j pc ls (vI x :: st) (S, M) P := by
  refine wp_s (M1 := M) (pc1 := tgt) (ls1 := ls) (st1 := st) hd rfl ?_ k
  have e : vm_br true pc off ls st (S, M) = vm_nx tgt ls st (S, M) := by
    unfold vm_br
    rw [if_pos (by omega), ht]
    rfl
  show vm_go _ (if x < lo ∨ hi < x then vm_br true pc dflt ls st (S, M) else match offs[(x - lo).toNat]? with | some off => vm_br true pc off ls st (S, M) | none => none) = _
  by_cases hc : x < lo ∨ hi < x
  · rw [if_pos hc] at ho ⊢
    cases ho
    rw [e]
    rfl
  · rw [if_neg hc] at ho ⊢
    rw [ho]
    show vm_go _ (vm_br true pc off ls st (S, M)) = _
    rw [e]
    rfl
theorem w_getf {idx c k0 i0 : Nat} {r : Int} {a : Nat} {v : vV} (hd : decode (vm_cd j) pc = .ok (.getfield idx, 3)) (hf : vm_fl.lookup (vm_own j, idx) = some (c, k0, i0)) (hr : r = (a : Int)) (ho : S[a]? = some (.inl c)) (hv : vm_tv (vm_fk c k0) (M a k0) = v) (k : wp X d j (pc + 3) ls (v :: st) (S, M) P) : wp X d j pc ls (vR r :: st) (S, M) P := by
  subst hr
  subst hv
  refine wp_s (M1 := M) hd rfl ?_ k
  show vm_go _ (vm_getf (vm_own j) pc idx ls (vR (a : Int) :: st) (S, M)) = _
  unfold vm_getf
  rw [hf]
  have e : vm_obj S (a : Int) c = true := decide_eq_true ⟨by omega, by rw [Int.toNat_natCast]; exact ho⟩
  show vm_go _ (if vm_obj S (a : Int) c = true then vm_nx (pc + 3) ls (vm_tv (vm_fk c k0) (M (a : Int).toNat k0) :: st) (S, M) else none) = _
  rw [if_pos e, Int.toNat_natCast]
  rfl
theorem w_putf {idx c k0 i0 : Nat} {r x : Int} {a : Nat} {v : vV} (hd : decode (vm_cd j) pc = .ok (.putfield idx, 3)) (hf : vm_fl.lookup (vm_own j, idx) = some (c, k0, i0)) (hr : r = (a : Int)) (ho : S[a]? = some (.inl c)) (hv : vm_fit (vm_fk c k0) v = some x) (hfin : ((vm_fin (vm_own j) c k0).1 = false ∨ (((vm_y j).name == "<init>") = true ∧ (vm_fin (vm_own j) c k0).2 = true))) (k : wp X d j (pc + 3) ls st (S, vm_up M a k0 x) P) : wp X d j pc ls (v :: vR r :: st) (S, M) P := by
  subst hr
  refine wp_s (M1 := vm_up M a k0 x) hd rfl ?_ k
  show vm_go _ (vm_putf ((vm_y j).name == "<init>") (vm_own j) pc idx ls (v :: vR (a : Int) :: st) (S, M) (vm_fin (vm_own j))) = _
  unfold vm_putf
  rw [hf]
  have e : vm_obj S (a : Int) c = true := decide_eq_true ⟨by omega, by rw [Int.toNat_natCast]; exact ho⟩
  show vm_go _ (match vm_fit (vm_fk c k0) v with | some z => if vm_obj S (a : Int) c = true ∧ _ then vm_nx (pc + 3) ls st (S, vm_up M (a : Int).toNat k0 z) else none | none => none) = _
  rw [hv]
  show vm_go _ (if vm_obj S (a : Int) c = true ∧ _ then vm_nx (pc + 3) ls st (S, vm_up M (a : Int).toNat k0 x) else none) = _
  rw [if_pos ⟨e, hfin⟩, Int.toNat_natCast]
  rfl
theorem vm_ar_of {r : Int} {a t n : Nat} (hr : r = (a : Int)) (h : S[a]? = some (.inr (t, n))) : vm_ar S r = some (a, t, n) := by
  subst hr
  unfold vm_ar
  rw [if_neg (by omega), Int.toNat_natCast, h]
theorem w_iaload {r i : Int} {a n : Nat} (hd : decode (vm_cd j) pc = .ok (.iaload, 1)) (hr : r = (a : Int)) (ho : S[a]? = some (.inr (0, n))) (hi : 0 ≤ i ∧ i < n) (k : wp X d j (pc + 1) ls (vI (M a i.toNat) :: st) (S, M) P) : wp X d j pc ls (vI i :: vR r :: st) (S, M) P := by
  refine wp_s (M1 := M) hd rfl ?_ k
  show vm_go _ (if r = -2 then _ else match vm_ar S r with | some (a, u, n) => if (u = 0 ∨ u = 0) ∧ 0 ≤ i ∧ i < n then vm_nx (pc + 1) ls (vm_tv (vm_ty (.inr (u, n)) 0) (M a i.toNat) :: st) (S, M) else none | _ => none) = _
  rw [if_neg (by omega), vm_ar_of hr ho]
  show vm_go _ (if (0 = 0 ∨ 0 = 0) ∧ 0 ≤ i ∧ i < n then vm_nx (pc + 1) ls (vm_tv (vm_ty (.inr (0, n)) 0) (M a i.toNat) :: st) (S, M) else none) = _
  rw [if_pos ⟨Or.inl rfl, hi⟩]
  rfl
theorem w_laload {r i : Int} {a n : Nat} (hd : decode (vm_cd j) pc = .ok (.laload, 1)) (hr : r = (a : Int)) (ho : S[a]? = some (.inr (1, n))) (hi : 0 ≤ i ∧ i < n) (k : wp X d j (pc + 1) ls (vL (M a i.toNat) :: st) (S, M) P) : wp X d j pc ls (vI i :: vR r :: st) (S, M) P := by
  refine wp_s (M1 := M) hd rfl ?_ k
  show vm_go _ (if r = -2 then _ else match vm_ar S r with | some (a, u, n) => if (u = 1 ∨ u = 1) ∧ 0 ≤ i ∧ i < n then vm_nx (pc + 1) ls (vm_tv (vm_ty (.inr (u, n)) 0) (M a i.toNat) :: st) (S, M) else none | _ => none) = _
  rw [if_neg (by omega), vm_ar_of hr ho]
  show vm_go _ (if (1 = 1 ∨ 1 = 1) ∧ 0 ≤ i ∧ i < n then vm_nx (pc + 1) ls (vm_tv (vm_ty (.inr (1, n)) 0) (M a i.toNat) :: st) (S, M) else none) = _
  rw [if_pos ⟨Or.inl rfl, hi⟩]
  rfl
theorem w_baload {r i : Int} {a n : Nat} (hd : decode (vm_cd j) pc = .ok (.baload, 1)) (hr : r = (a : Int)) (ho : S[a]? = some (.inr (2, n))) (hi : 0 ≤ i ∧ i < n) (k : wp X d j (pc + 1) ls (vI (M a i.toNat) :: st) (S, M) P) : wp X d j pc ls (vI i :: vR r :: st) (S, M) P := by
  refine wp_s (M1 := M) hd rfl ?_ k
  show vm_go _ (if r = -2 then _ else match vm_ar S r with | some (a, u, n) => if (u = 2 ∨ u = 2) ∧ 0 ≤ i ∧ i < n then vm_nx (pc + 1) ls (vm_tv (vm_ty (.inr (u, n)) 0) (M a i.toNat) :: st) (S, M) else none | _ => none) = _
  rw [if_neg (by omega), vm_ar_of hr ho]
  show vm_go _ (if (2 = 2 ∨ 2 = 2) ∧ 0 ≤ i ∧ i < n then vm_nx (pc + 1) ls (vm_tv (vm_ty (.inr (2, n)) 0) (M a i.toNat) :: st) (S, M) else none) = _
  rw [if_pos ⟨Or.inl rfl, hi⟩]
  rfl
theorem w_aald {r i : Int} {a t n : Nat} (hd : decode (vm_cd j) pc = .ok (.aaload, 1)) (hr : r = (a : Int)) (ho : S[a]? = some (.inr (t, n))) (ht : t = 3 ∨ t = 4 ∨ t = 5) (hi : 0 ≤ i ∧ i < n) (k : wp X d j (pc + 1) ls (vR (M a i.toNat) :: st) (S, M) P) : wp X d j pc ls (vI i :: vR r :: st) (S, M) P := by
  refine wp_s (M1 := M) hd rfl ?_ k
  show vm_go _ (match vm_ar S r with | some (a, u, n) => if (u = 3 ∨ u = 4 ∨ u = 5) ∧ 0 ≤ i ∧ i < n then vm_nx (pc + 1) ls (vR (M a i.toNat) :: st) (S, M) else none | _ => none) = _
  rw [vm_ar_of hr ho]
  show vm_go _ (if (t = 3 ∨ t = 4 ∨ t = 5) ∧ 0 ≤ i ∧ i < n then vm_nx (pc + 1) ls (vR (M a i.toNat) :: st) (S, M) else none) = _
  rw [if_pos ⟨ht, hi⟩]
  rfl
theorem w_len {r : Int} {a t n : Nat} (hd : decode (vm_cd j) pc = .ok (.arraylength, 1)) (hr : r = (a : Int)) (ho : S[a]? = some (.inr (t, n))) (hn : n ≤ 4096 ∧ t < 6) (k : wp X d j (pc + 1) ls (vI n :: st) (S, M) P) : wp X d j pc ls (vR r :: st) (S, M) P := by
  refine wp_s (M1 := M) hd rfl ?_ k
  show vm_go _ (if r = -2 then vm_nx (pc + 1) ls (vI X.2 :: st) (S, M) else match vm_ar S r with | some (_, u, n) => if n ≤ 4096 ∧ u < 6 then vm_nx (pc + 1) ls (vI n :: st) (S, M) else none | _ => none) = _
  rw [if_neg (by omega), vm_ar_of hr ho]
  show vm_go _ (if n ≤ 4096 ∧ t < 6 then vm_nx (pc + 1) ls (vI n :: st) (S, M) else none) = _
  rw [if_pos hn]
  rfl
theorem w_slen (hd : decode (vm_cd j) pc = .ok (.arraylength, 1)) (k : wp X d j (pc + 1) ls (vI X.2 :: st) (S, M) P) : wp X d j pc ls (vR (-2) :: st) (S, M) P := wp_s (M1 := M) hd rfl rfl k
theorem w_sld {i : Int} (hd : decode (vm_cd j) pc = .ok (.iaload, 1)) (hi : 0 ≤ i ∧ i < X.2) (k : wp X d j (pc + 1) ls (vI (X.1 i.toNat) :: st) (S, M) P) : wp X d j pc ls (vI i :: vR (-2) :: st) (S, M) P := by
  refine wp_s (M1 := M) hd rfl ?_ k
  show vm_go _ (if (0 : Nat) = 0 ∧ 0 ≤ i ∧ i < X.2 then vm_nx (pc + 1) ls (vI (X.1 i.toNat) :: st) (S, M) else none) = _
  rw [if_pos ⟨rfl, hi⟩]
  rfl
theorem w_iast {r i x : Int} {a n : Nat} (hd : decode (vm_cd j) pc = .ok (.iastore, 1)) (hr : r = (a : Int)) (ho : S[a]? = some (.inr (0, n))) (hi : 0 ≤ i ∧ i < n) (k : wp X d j (pc + 1) ls st (S, vm_up M a i.toNat x) P) : wp X d j pc ls (vI x :: vI i :: vR r :: st) (S, M) P := by
  refine wp_s (M1 := vm_up M a i.toNat x) hd rfl ?_ k
  show vm_go _ (match vm_ar S r with | some (a, u, n) => if u = 0 ∧ 0 ≤ i ∧ i < n then vm_nx (pc + 1) ls st (S, vm_up M a i.toNat (if (0 : Nat) = 2 then (Int32.ofInt x).toInt8.toInt32.toInt else x)) else none | _ => none) = _
  rw [vm_ar_of hr ho]
  show vm_go _ (if (0 : Nat) = 0 ∧ 0 ≤ i ∧ i < n then vm_nx (pc + 1) ls st (S, vm_up M a i.toNat x) else none) = _
  rw [if_pos ⟨rfl, hi⟩]
  rfl
theorem w_bast {r i x : Int} {a n : Nat} (hd : decode (vm_cd j) pc = .ok (.bastore, 1)) (hr : r = (a : Int)) (ho : S[a]? = some (.inr (2, n))) (hi : 0 ≤ i ∧ i < n) (k : wp X d j (pc + 1) ls st (S, vm_up M a i.toNat (j_i2b x)) P) : wp X d j pc ls (vI x :: vI i :: vR r :: st) (S, M) P := by
  refine wp_s (M1 := vm_up M a i.toNat (j_i2b x)) hd rfl ?_ k
  show vm_go _ (match vm_ar S r with | some (a, u, n) => if u = 2 ∧ 0 ≤ i ∧ i < n then vm_nx (pc + 1) ls st (S, vm_up M a i.toNat (if (2 : Nat) = 2 then (Int32.ofInt x).toInt8.toInt32.toInt else x)) else none | _ => none) = _
  rw [vm_ar_of hr ho]
  show vm_go _ (if (2 : Nat) = 2 ∧ 0 ≤ i ∧ i < n then vm_nx (pc + 1) ls st (S, vm_up M a i.toNat (j_i2b x)) else none) = _
  rw [if_pos ⟨rfl, hi⟩]
  rfl
theorem w_last {r i x : Int} {a n : Nat} (hd : decode (vm_cd j) pc = .ok (.lastore, 1)) (hr : r = (a : Int)) (ho : S[a]? = some (.inr (1, n))) (hi : 0 ≤ i ∧ i < n) (k : wp X d j (pc + 1) ls st (S, vm_up M a i.toNat x) P) : wp X d j pc ls (vL x :: vI i :: vR r :: st) (S, M) P := by
  refine wp_s (M1 := vm_up M a i.toNat x) hd rfl ?_ k
  show vm_go _ (match vm_ar S r with | some (a, u, n) => if u = 1 ∧ 0 ≤ i ∧ i < n then vm_nx (pc + 1) ls st (S, vm_up M a i.toNat x) else none | _ => none) = _
  rw [vm_ar_of hr ho]
  show vm_go _ (if (1 : Nat) = 1 ∧ 0 ≤ i ∧ i < n then vm_nx (pc + 1) ls st (S, vm_up M a i.toNat x) else none) = _
  rw [if_pos ⟨rfl, hi⟩]
  rfl
-- returns
theorem w_iret {x : Int} (hd : decode (vm_cd j) pc = .ok (.ireturn, 1)) (hr : vm_rt j = some .int) (k : P (some (vI x)) (S, M)) : wp X d j pc ls [vI x] (S, M) P := by
  refine wp_rt (r := some (vI x)) ?_ k
  rw [vm_do_of hd rfl]
  show vm_go _ (if vm_rt j = some .int then some (.inl (some (vI x))) else if vm_rt j = some .boolean then (if x = 0 ∨ x = 1 then some (.inl (some (vI x))) else none) else none) = _
  rw [if_pos hr]
  rfl
theorem w_zret {x : Int} (hd : decode (vm_cd j) pc = .ok (.ireturn, 1)) (hr : vm_rt j = some .boolean) (hx : x = 0 ∨ x = 1) (k : P (some (vI x)) (S, M)) : wp X d j pc ls [vI x] (S, M) P := by
  refine wp_rt (r := some (vI x)) ?_ k
  rw [vm_do_of hd rfl]
  show vm_go _ (if vm_rt j = some .int then some (.inl (some (vI x))) else if vm_rt j = some .boolean then (if x = 0 ∨ x = 1 then some (.inl (some (vI x))) else none) else none) = _
  rw [if_neg (by rw [hr]; exact fun q => by cases q), if_pos hr, if_pos hx]
  rfl
theorem w_lret {x : Int} (hd : decode (vm_cd j) pc = .ok (.lreturn, 1)) (hr : vm_rt j = some .long) (k : P (some (vL x)) (S, M)) : wp X d j pc ls [vL x] (S, M) P := by
  refine wp_rt (r := some (vL x)) ?_ k
  rw [vm_do_of hd rfl]
  show vm_go _ (if vm_rt j = some .long then some (.inl (some (vL x))) else none) = _
  rw [if_pos hr]
  rfl
theorem w_vret (hd : decode (vm_cd j) pc = .ok (.return_, 1)) (hr : vm_rt j = none) (k : P none (S, M)) : wp X d j pc ls [] (S, M) P := by
  refine wp_rt (r := none) ?_ k
  rw [vm_do_of hd rfl]
  show vm_go _ (if vm_rt j = none then some (.inl none) else none) = _
  rw [if_pos hr]
  rfl
-- calls: the arguments, the receiver first
theorem w_inv0 {idx j' na : Nat} {w : Nat × Nat × Nat × Nat} {as st0 : List vV} {r : Int} {a c : Nat} (hd : decode (vm_cd j) pc = .ok (.invokevirtual idx, 3)) (hl : vm_ml.lookup (vm_own j, idx) = some (0, j', na, w)) (hst : vm_refs st0 na = some (as, vR r :: st)) (hr : r = (a : Int)) (ho : S[a]? = some (.inl c)) (hc : c < 12 ∧ (vm_F c).1 = (vm_y j').cls) (hcat : vm_cats st ≤ 8) (k : wc X d j' (vR r :: as) (S, M) (fun r hp1 => (S.length ≤ hp1.1.length ∧ vm_sz S ≤ vm_sz hp1.1) ∧ wp X d j (pc + 3) ls (r.toList ++ st) hp1 P)) : wp X d j pc ls st0 (S, M) P := by
  subst hr
  refine wp_cl (j' := j') (as := vR (a : Int) :: as) (rest := st) ?_ k
  rw [vm_do_of hd rfl]
  show vm_go _ (vm_inv 0 (vm_own j) pc idx ls st0 (S, M)) = _
  unfold vm_inv
  rw [hl]
  show vm_go _ (match vm_refs st0 na with | some (as, rest) => _ | none => none) = _
  rw [hst]
  show vm_go _ (if vm_cats st ≤ 8 ∧ 0 ≤ (a : Int) then (match S[(a : Int).toNat]? with | some (.inl c) => (if (0 : Nat) = 0 ∧ c < 12 ∧ (vm_F c).1 = (vm_y j').cls then some (.inr (.inl (j', vR (a : Int) :: as, st))) else none) | _ => none) else none) = _
  rw [if_pos ⟨hcat, by omega⟩, Int.toNat_natCast, ho]
  show vm_go _ (if (0 : Nat) = 0 ∧ c < 12 ∧ (vm_F c).1 = (vm_y j').cls then some (.inr (.inl (j', vR (a : Int) :: as, st))) else none) = _
  rw [if_pos ⟨rfl, hc⟩]
  rfl
theorem w_inv1 {idx j' na kind : Nat} {w : Nat × Nat × Nat × Nat} {as st0 : List vV} (hd : decode (vm_cd j) pc = .ok (.invokestatic idx, 3)) (hl : vm_ml.lookup (vm_own j, idx) = some (kind, j', na, w)) (hk : kind = 1 ∨ kind = 3) (hst : vm_refs st0 na = some (as, st)) (hcat : vm_cats st ≤ 8) (k : wc X d j' as (S, M) (fun r hp1 => (S.length ≤ hp1.1.length ∧ vm_sz S ≤ vm_sz hp1.1) ∧ wp X d j (pc + 3) ls (r.toList ++ st) hp1 P)) : wp X d j pc ls st0 (S, M) P := by
  refine wp_cl (j' := j') (as := as) (rest := st) ?_ k
  rw [vm_do_of hd rfl]
  show vm_go _ (vm_inv 1 (vm_own j) pc idx ls st0 (S, M)) = _
  unfold vm_inv
  rw [hl]
  rcases hk with rfl | rfl
  · show vm_go _ (match vm_refs st0 na with | some (as, rest) => _ | none => none) = _
    rw [hst]
    show vm_go _ (if (1 : Nat) = 1 ∧ vm_cats st ≤ 8 then some (.inr (.inl (j', as, st))) else none) = _
    rw [if_pos ⟨rfl, hcat⟩]
    rfl
  · show vm_go _ (match vm_refs st0 na with | some (as, rest) => _ | none => none) = _
    rw [hst]
    show vm_go _ (if (1 : Nat) = 1 ∧ vm_cats st ≤ 8 then some (.inr (.inl (j', as, st))) else none) = _
    rw [if_pos ⟨rfl, hcat⟩]
    rfl
theorem w_inv2 {idx j' na kind : Nat} {w : Nat × Nat × Nat × Nat} {as st0 : List vV} {r : Int} (hd : decode (vm_cd j) pc = .ok (.invokespecial idx, 3)) (hl : vm_ml.lookup (vm_own j, idx) = some (kind, j', na, w)) (hk : kind = 2 ∨ kind = 4) (hst : vm_refs st0 na = some (as, vR r :: st)) (hcat : vm_cats st ≤ 8 ∧ 0 ≤ r) (k : wc X d j' (vR r :: as) (S, M) (fun r hp1 => (S.length ≤ hp1.1.length ∧ vm_sz S ≤ vm_sz hp1.1) ∧ wp X d j (pc + 3) ls (r.toList ++ st) hp1 P)) : wp X d j pc ls st0 (S, M) P := by
  refine wp_cl (j' := j') (as := vR r :: as) (rest := st) ?_ k
  rw [vm_do_of hd rfl]
  show vm_go _ (vm_inv 2 (vm_own j) pc idx ls st0 (S, M)) = _
  unfold vm_inv
  rw [hl]
  rcases hk with rfl | rfl
  · show vm_go _ (match vm_refs st0 na with | some (as, rest) => _ | none => none) = _
    rw [hst]
    show vm_go _ (if vm_cats st ≤ 8 ∧ 0 ≤ r then some (.inr (.inl (j', vR r :: as, st))) else none) = _
    rw [if_pos hcat]
    rfl
  · show vm_go _ (match vm_refs st0 na with | some (as, rest) => _ | none => none) = _
    rw [hst]
    show vm_go _ (if vm_cats st ≤ 8 ∧ 0 ≤ r then some (.inr (.inl (j', vR r :: as, st))) else none) = _
    rw [if_pos hcat]
    rfl
theorem w_oinit {idx : Nat} {q : Nat × Nat × Nat × Nat × Nat × Nat} {r : Int} (hd : decode (vm_cd j) pc = .ok (.invokespecial idx, 3)) (hl : vm_ml.lookup (vm_own j, idx) = some (5, q)) (hcat : 0 ≤ r ∧ vm_cats st ≤ 8) (k : wp X d j (pc + 3) ls st (S, M) P) : wp X d j pc ls (vR r :: st) (S, M) P := by
  refine wp_s (M1 := M) hd rfl ?_ k
  show vm_go _ (vm_inv 2 (vm_own j) pc idx ls (vR r :: st) (S, M)) = _
  unfold vm_inv
  rw [hl]
  show vm_go _ (if 0 ≤ r ∧ vm_cats st ≤ 8 then vm_nx (pc + 3) ls st (S, M) else none) = _
  rw [if_pos hcat]
  rfl
theorem w_copy {idx : Nat} {q : Nat × Nat × Nat × Nat × Nat × Nat} {r0 r1 sp dp n : Int} {a0 a1 n0 n1 : Nat} (hd : decode (vm_cd j) pc = .ok (.invokestatic idx, 3)) (hl : vm_ml.lookup (vm_own j, idx) = some (6, q)) (h0 : r0 = (a0 : Int)) (h1 : r1 = (a1 : Int)) (ho0 : S[a0]? = some (.inr (2, n0))) (ho1 : S[a1]? = some (.inr (2, n1))) (hc : 0 ≤ n ∧ 0 ≤ dp ∧ 0 ≤ sp ∧ sp + n ≤ n0 ∧ dp + n ≤ n1 ∧ vm_cats st ≤ 8) (k : wp X d j (pc + 3) ls st (S, vm_cpy M a0 a1 sp.toNat dp.toNat n.toNat) P) : wp X d j pc ls (vI n :: vI dp :: vR r1 :: vI sp :: vR r0 :: st) (S, M) P := by
  refine wp_s (M1 := vm_cpy M a0 a1 sp.toNat dp.toNat n.toNat) hd rfl ?_ k
  show vm_go _ (vm_inv 1 (vm_own j) pc idx ls (vI n :: vI dp :: vR r1 :: vI sp :: vR r0 :: st) (S, M)) = _
  unfold vm_inv
  rw [hl]
  show vm_go _ (match vm_ar S r0, vm_ar S r1 with | some (a, 2, n0), some (a', 2, n1) => if 0 ≤ n ∧ 0 ≤ dp ∧ 0 ≤ sp ∧ sp + n ≤ n0 ∧ dp + n ≤ n1 ∧ vm_cats st ≤ 8 then vm_nx (pc + 3) ls st (S, vm_cpy M a a' sp.toNat dp.toNat n.toNat) else none | _, _ => none) = _
  rw [vm_ar_of h0 ho0, vm_ar_of h1 ho1]
  show vm_go _ (if 0 ≤ n ∧ 0 ≤ dp ∧ 0 ≤ sp ∧ sp + n ≤ n0 ∧ dp + n ≤ n1 ∧ vm_cats st ≤ 8 then vm_nx (pc + 3) ls st (S, vm_cpy M a0 a1 sp.toNat dp.toNat n.toNat) else none) = _
  rw [if_pos hc]
  rfl
-- new cells
theorem w_new {idx c : Nat} {q : Nat × Nat × Nat} (hd : decode (vm_cd j) pc = .ok (.new idx, 3)) (hl : vm_nw.lookup (vm_own j, idx) = some (c, q)) (k : wp X d j (pc + 3) ls (vR (S.length : Nat) :: st) (S ++ [.inl c], vm_new M S.length (.inl c)) P) : wp X d j pc ls st (S, M) P := by
  refine wp_nx ?_ ?_ k
  · rw [vm_do_of hd rfl]
    show vm_go _ (vm_new' (vm_own j) pc idx ls st (S, M)) = _
    unfold vm_new'
    rw [hl]
    rfl
  · show S.length ≤ (S ++ [(Sum.inl c : vSh)]).length ∧ vm_sz S ≤ vm_sz (S ++ [(Sum.inl c : vSh)])
    rw [List.length_append, vm_sz_app]
    exact ⟨by omega, by omega⟩
theorem w_newa {at0 : ArrayType} {t : Nat} {n : Int} (hd : decode (vm_cd j) pc = .ok (.newarray at0, 2)) (ht : (at0 = .int ∧ t = 0) ∨ (at0 = .long ∧ t = 1) ∨ (at0 = .byte ∧ t = 2)) (hn : 0 ≤ n ∧ n ≤ 4096) (k : wp X d j (pc + 2) ls (vR (S.length : Nat) :: st) (S ++ [.inr (t, n.toNat)], vm_new M S.length (.inr (t, n.toNat))) P) : wp X d j pc ls (vI n :: st) (S, M) P := by
  refine wp_nx ?_ ?_ k
  · rw [vm_do_of hd rfl]
    show vm_go _ (vm_newa at0 pc ls (vI n :: st) (S, M)) = _
    unfold vm_newa
    rcases ht with ⟨rfl, rfl⟩ | ⟨rfl, rfl⟩ | ⟨rfl, rfl⟩ <;>
    · show vm_go _ (if 0 ≤ n ∧ n ≤ 4096 then _ else none) = _
      rw [if_pos hn]
      rfl
  · show S.length ≤ (S ++ [(Sum.inr (t, n.toNat) : vSh)]).length ∧ vm_sz S ≤ vm_sz (S ++ [(Sum.inr (t, n.toNat) : vSh)])
    rw [List.length_append, vm_sz_app]
    exact ⟨by omega, by omega⟩
theorem w_newn {idx t : Nat} {q : Nat × Nat × Nat} {n k0 : Int} (hd : decode (vm_cd j) pc = .ok (.multianewarray idx 2, 4)) (hl : vm_mn.lookup (vm_own j, idx) = some (t, q)) (hn : 0 ≤ n ∧ n ≤ 4096 ∧ 0 ≤ k0 ∧ k0 ≤ 4096) (k : wp X d j (pc + 4) ls (vR (S.length : Nat) :: st) ((S ++ [.inr (t, n.toNat)]) ++ List.replicate n.toNat (.inr (t - 3, k0.toNat)), vm_newm M S.length n.toNat) P) : wp X d j pc ls (vI k0 :: vI n :: st) (S, M) P := by
  refine wp_nx ?_ ?_ k
  · rw [vm_do_of hd rfl]
    show vm_go _ (vm_newn (vm_own j) pc idx 2 ls (vI k0 :: vI n :: st) (S, M)) = _
    unfold vm_newn
    rw [hl]
    show vm_go _ (if (2 : Nat) = 2 ∧ 0 ≤ n ∧ n ≤ 4096 ∧ 0 ≤ k0 ∧ k0 ≤ 4096 then _ else none) = _
    rw [if_pos ⟨rfl, hn⟩]
    rfl
  · show S.length ≤ ((S ++ [(Sum.inr (t, n.toNat) : vSh)]) ++ List.replicate n.toNat (Sum.inr (t - 3, k0.toNat) : vSh)).length ∧ vm_sz S ≤ vm_sz ((S ++ [(Sum.inr (t, n.toNat) : vSh)]) ++ List.replicate n.toNat (Sum.inr (t - 3, k0.toNat) : vSh))
    rw [List.length_append, List.length_append, vm_sz_app, vm_sz_app]
    exact ⟨by omega, by omega⟩
end WR
