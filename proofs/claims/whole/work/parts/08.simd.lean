/-! THE SMALL MACHINE AND THE REAL ONE: copies of bytes, new cells -/
section SIMD
variable {p : Program} {l : Launch} {e : Env} {R : Room} {s : State} {m : MethodId} {args : Array Value} {below : List Frame} {meth : Method} {c : Code} {H : Heap} {locs : List Loc} {cells slots : Nat} {Q : State → Prop} {dA : Nat → ClassId} {D : va_G} {z b L : Nat} {xs : Nat → Int} {nl n0 z0 : Nat} {ad ad1 : Nat → Nat} {LS : Array Slot} {ls st ls' st' : List vV} {S S1 : List vSh} {M M1 : vM} {j pc pc' : Nat}
theorem vm_ro_same {x : Int} (h : ∀ i : Nat, i < S.length → ad1 i = ad i) (hx : x < S.length) : vm_ro ad1 x = vm_ro ad x := by
  unfold vm_ro
  split
  · rfl
  · rw [h x.toNat (by omega)]
theorem vm_cv_same {v : vV} (h : ∀ i : Nat, i < S.length → ad1 i = ad i) (hv : vm_ok S.length v) : vm_cv b ad1 v = vm_cv b ad v := by
  rcases v with x | x | x | x
  · rfl
  · rfl
  · have hv' : -2 ≤ x ∧ x < S.length := hv
    show (if x = -2 then Value.ref b else va_rf (vm_ro ad1 x)) = (if x = -2 then Value.ref b else va_rf (vm_ro ad x))
    rw [vm_ro_same h hv'.2]
  · rfl
theorem vm_map_same {st : List vV} (h : ∀ i : Nat, i < S.length → ad1 i = ad i) (hv : ∀ v ∈ st, vm_ok S.length v) : st.map (vm_cv b ad1) = st.map (vm_cv b ad) := List.map_congr_left fun v hm => vm_cv_same h (hv v hm)
theorem vm_ce_same {sh : vSh} {m0 : Nat → Int} (h : ∀ i : Nat, i < S.length → ad1 i = ad i) (hv : ∀ k, vm_mk S.length (vm_ty sh k) (m0 k)) : vm_ce dA ad1 sh m0 = vm_ce dA ad sh m0 := by
  rcases sh with c | ⟨t, n⟩
  · refine congrArg (fun y => (Sum.inr (c, y) : va_E)) (List.map_congr_left fun k _ => ?_)
    have h1 : vm_mk S.length (vm_fk c k) (m0 k) := hv k
    unfold vm_cf
    split
    · rfl
    · next e =>
      rw [e] at h1
      have h2 : -1 ≤ m0 k ∧ m0 k < S.length := h1
      rw [vm_ro_same h h2.2]
    · rfl
  · refine congrArg (fun y => (Sum.inl (dA t, n, y) : va_E)) ?_
    rcases t with _ | _ | _ | t
    · rfl
    · rfl
    · rfl
    · refine congrArg (fun f => (.inr (.inr (.inr (.inr f))) : ((Nat → Int32) ⊕ (Nat → Int64) ⊕ (Nat → UInt32) ⊕ (Nat → UInt64) ⊕ (Nat → Option Nat)))) (funext fun k => ?_)
      have h2 : -1 ≤ m0 k ∧ m0 k < S.length := hv k
      exact vm_ro_same h h2.2
theorem vm_LR_same (h : ∀ i : Nat, i < S.length → ad1 i = ad i) (hv : ∀ v ∈ ls, vm_ok S.length v) (hl : vm_LR b ad LS ls) : vm_LR b ad1 LS ls := ⟨hl.1, hl.2.1, fun k v hk hn => by rw [vm_cv_same h (hv v (List.mem_of_getElem? hk))]; exact hl.2.2 k v hk hn⟩
/-- the world, cells more -/
theorem vm_ws_app {E : List vSh} {X : va_W} (h : ∀ i : Nat, i < S.length → ad1 i = ad i) (hok : vm_hok S M) (ho : ∀ a, a < S.length → M1 a = M a) (hl : X.length = E.length) (hX : ∀ (i : Nat) (sh : vSh), E[i]? = some sh → X[i]? = some (ad1 (S.length + i), vm_ce dA ad1 sh (M1 (S.length + i)))) : vm_ws dA ad1 (S ++ E) M1 = vm_ws dA ad S M ++ X := by
  apply List.ext_getElem?
  intro i
  by_cases hi : i < S.length
  · rw [List.getElem?_append_left (by rw [vm_ws_len]; exact hi)]
    obtain ⟨sh, hs⟩ : ∃ sh, S[i]? = some sh := ⟨S[i], List.getElem?_eq_getElem hi⟩
    rw [vm_ws_at (sh := sh) (by rw [List.getElem?_append_left hi]; exact hs), vm_ws_at hs, h i hi, ho i hi, vm_ce_same h (fun k => hok i sh k hs)]
  · rw [List.getElem?_append_right (by rw [vm_ws_len]; omega), vm_ws_len]
    cases hE : E[i - S.length]? with
    | none =>
      have h1 : E.length ≤ i - S.length := by simpa using hE
      rw [List.getElem?_eq_none (by rw [vm_ws_len, List.length_append]; omega), List.getElem?_eq_none (by omega)]
    | some sh =>
      have hs : (S ++ E)[i]? = some sh := by rw [List.getElem?_append_right (by omega)]; exact hE
      rw [vm_ws_at hs, hX _ sh hE, show S.length + (i - S.length) = i by omega]
theorem vm_sz_app {S E : List vSh} : vm_sz (S ++ E) = vm_sz S + vm_sz E := by simp [vm_sz]
theorem vm_hok_app {E : List vSh} (hok : vm_hok S M) (ho : ∀ a, a < S.length → M1 a = M a) (hE : ∀ (i : Nat) (sh : vSh) (k : Nat), E[i]? = some sh → vm_mk (S ++ E).length (vm_ty sh k) (M1 (S.length + i) k)) : vm_hok (S ++ E) M1 := by
  intro a sh k hs
  by_cases hi : a < S.length
  · rw [List.getElem?_append_left hi] at hs
    rw [ho a hi]
    exact vm_mk_mono (by rw [List.length_append]; omega) (hok a sh k hs)
  · rw [List.getElem?_append_right (by omega)] at hs
    have := hE _ sh k hs
    rw [show S.length + (a - S.length) = a by omega] at this
    exact this
theorem vm_mk_dflt {n : Nat} (t : Nat) : vm_mk n t (if t = 2 then -1 else 0) := by
  by_cases h1 : t = 1
  · subst h1; rfl
  by_cases h2 : t = 2
  · subst h2
    show -1 ≤ (-1 : Int) ∧ (-1 : Int) < n
    omega
  · rw [if_neg h2]
    unfold vm_mk
    split
    · rfl
    · contradiction
    · exact Or.inl rfl
    · omega
    · rfl
theorem vm_new_o {a : Nat} {sh : vSh} {q : Nat} (h : q ≠ a) : vm_new M a sh q = M q := by
  funext k
  simp [vm_new, h]
theorem vm_new_a {a : Nat} {sh : vSh} : vm_new M a sh a = fun k => if vm_ty sh k = 2 then -1 else 0 := by
  funext k
  simp [vm_new]
/-- behind a new cell -/
theorem vm_Rl_new {sh : vSh} {q : Nat} {e0 : va_E} {H1 : Heap} {locs1 : List Loc} (rel : vm_Rl dA D z b s nl n0 z0 ad S M ls st H locs LS cells slots) (he : e0 = vm_ce dA ad sh (fun k => if vm_ty sh k = 2 then -1 else 0)) (hst : ∀ v ∈ st', v ∈ st ∨ v = vR S.length)
    (hP : va_P D vwCl (vm_ws dA ad S M ++ [(q, e0)]) H1) (hD : va_D (fun q => z ≤ q) (vm_ws dA ad S M ++ [(q, e0)])) (hS : va_S (fun q => z ≤ q) s.heap H1 locs1) :
    (∀ i : Nat, i < S.length → (fun i => if i = S.length then q else ad i) i = ad i) ∧ vm_Rl dA D z b s nl n0 z0 (fun i => if i = S.length then q else ad i) (S ++ [sh]) (vm_new M S.length sh) ls st' H1 locs1 LS (cells + 1) (slots + vm_size sh) := by
  have hag : ∀ i : Nat, i < S.length → (fun i => if i = S.length then q else ad i) i = ad i := fun i hi => by
    show (if i = S.length then q else ad i) = ad i
    rw [if_neg (by omega)]
  have hdf : ∀ k, vm_mk S.length (vm_ty sh k) ((fun k => if vm_ty sh k = 2 then (-1 : Int) else 0) k) := fun k => vm_mk_dflt _
  have hw : vm_ws dA (fun i => if i = S.length then q else ad i) (S ++ [sh]) (vm_new M S.length sh) = vm_ws dA ad S M ++ [(q, e0)] := by
    refine vm_ws_app hag rel.2.2.2.1 (fun a ha => vm_new_o (by omega)) rfl (fun i sh' hi => ?_)
    have h0 : i = 0 := by
      have := (List.getElem?_eq_some_iff.mp hi).1
      simpa using this
    subst h0
    cases hi
    rw [Nat.add_zero, vm_new_a, vm_ce_same hag hdf, he]
    simp
  have hle : S.length ≤ (S ++ [sh]).length := by rw [List.length_append]; omega
  refine ⟨hag, ?_⟩
  rw [← hw] at hP hD
  refine ⟨hP, hD, hS, vm_hok_app rel.2.2.2.1 (fun a ha => vm_new_o (by omega)) (fun i sh' k hi => ?_), fun v hv => ?_, fun v hv => vm_ok_mono hle (rel.2.2.2.2.2.1 v hv), vm_LR_same hag rel.2.2.2.2.2.1 rel.2.2.2.2.2.2.1, ?_, ?_, rel.2.2.2.2.2.2.2.2.2⟩
  · have h0 : i = 0 := by
      have := (List.getElem?_eq_some_iff.mp hi).1
      simpa using this
    subst h0
    cases hi
    rw [Nat.add_zero, vm_new_a]
    exact vm_mk_dflt _
  · rcases hst v hv with h | rfl
    · exact vm_ok_mono hle (rel.2.2.2.2.1 v h)
    · show -2 ≤ (S.length : Int) ∧ (S.length : Int) < ((S ++ [sh]).length : Nat)
      rw [List.length_append]
      simp only [List.length_cons, List.length_nil]
      omega
  · have := rel.2.2.2.2.2.2.2.1
    rw [List.length_append]
    simp only [List.length_cons, List.length_nil]
    omega
  · have := rel.2.2.2.2.2.2.2.2.1
    rw [vm_sz_app]
    simp only [vm_sz, List.map_cons, List.map_nil, List.sum_cons, List.sum_nil] at this ⊢
    omega
theorem vm_s_new {idx : Nat} (C : vm_Cx dA D z b L xs p s m args meth c j) (hd : decode (vm_cd j) pc = .ok (.new idx, 3)) (h : vm_new' (vm_own j) pc idx ls st (S, M) = some (.inr (.inr (pc', ls', st', (S1, M1))))) (rel : vm_Rl dA D z b s nl n0 z0 ad S M ls st H locs LS cells slots) (hroom : S1.length ≤ n0 + R.cells ∧ vm_sz S1 ≤ z0 + R.slots) (kk : ∀ (ad1 : Nat → Nat) (H1 : Heap) (locs1 : List Loc) (LS1 : Array Slot) (cells1 slots1 : Nat), (∀ i : Nat, i < S.length → ad1 i = ad i) → vm_Rl dA D z b s nl n0 z0 ad1 S1 M1 ls' st' H1 locs1 LS1 cells1 slots1 → W p l e R s m args below meth c H1 locs1 cells1 slots1 Q (F0 m pc' LS1 (st'.map (vm_cv b ad1)))) : W p l e R s m args below meth c H locs cells slots Q (F0 m pc LS (st.map (vm_cv b ad))) := by
  obtain ⟨g1, g2, g3, g4, g5, g6, g7, g8, g9, g10, g11, g12, g13, g14, g15⟩ := C
  unfold vm_new' at h
  split at h
  · next ci i1 hlk =>
    obtain ⟨i1, i2, i3⟩ := i1
    obtain ⟨rfl, rfl, rfl, h⟩ := vm_nx_in h
    cases h
    have hp := List.all_eq_true.mp vm_nw_all _ (vm_lookup hlk)
    simp only [vm_nwP, Bool.and_eq_true, decide_eq_true_eq] at hp
    obtain ⟨⟨⟨hc, w1⟩, w2⟩, w3⟩ := hp
    obtain ⟨f1, f2, f3, f4, f5, f6⟩ := vm_F_ok hc
    have c1 := rel.2.2.2.2.2.2.2.1
    have c2 := rel.2.2.2.2.2.2.2.2.1
    have r1 : S.length + 1 ≤ n0 + R.cells := by
      have := hroom.1
      rw [List.length_append] at this
      exact this
    have r2 : vm_sz S + vm_nf ci ≤ z0 + R.slots := by
      have := hroom.2
      rw [vm_sz_app] at this
      simpa [vm_sz, vm_size] using this
    refine va_new g1 g2 (C := (vm_F ci).1) (T := (vm_F ci).2.1) (N := (vm_F ci).2.2) g5 f3 (vm_tyc ci) f4 g4 (g5 _ (vm_tb_of w1 rfl)) (g5 _ (vm_tb_of w2 rfl)) (g5 _ (vm_tb_of w3 rfl)) g13 rel.1 rel.2.1 rel.2.2.1 (fun q hq => Nat.le_trans g11 hq) f1 (fs := (List.range (vm_nf ci)).map fun k => vm_cf ad (vm_fk ci k) (if vm_fk ci k = 2 then -1 else 0)) ?_ (by omega) (by rw [f2]; omega) hd ?_
    · intro k hk
      have hk' : k < vm_nf ci := by rw [← f2]; exact hk
      have ht := f6 k hk
      rw [vp_V, List.getD_eq_getElem?_getD, List.getElem?_map, List.getElem?_range hk', Option.map_some, Option.getD_some]
      generalize vm_tyc ci k = ty at ht
      generalize vm_fk ci k = t at ht
      cases ty <;> first | (cases ht; done) | (have ht' := eq_of_beq ht; subst ht'; rfl)
    · intro q H1 hP hD hS
      obtain ⟨hag, hr⟩ := vm_Rl_new (st' := vR (S.length : Nat) :: st) (sh := .inl ci) rel rfl (fun v hv => by
        rcases List.mem_cons.mp hv with rfl | hv
        · exact Or.inr rfl
        · exact Or.inl hv) hP hD hS
      have k1 := kk _ H1 locs LS (cells + 1) (slots + vm_size (.inl ci)) hag hr
      rw [List.map_cons, vm_map_same hag rel.2.2.2.2.1, vm_cv_ref (by omega)] at k1
      have e : Int.toNat ((((S, M) : vH).1.length : Nat) : Int) = S.length := Int.toNat_natCast _
      rw [e, if_pos rfl] at k1
      rw [f2]
      exact k1
  · cases h
theorem vm_s_newa {at0 : ArrayType} (C : vm_Cx dA D z b L xs p s m args meth c j) (hd : decode (vm_cd j) pc = .ok (.newarray at0, 2)) (h : vm_newa at0 pc ls st (S, M) = some (.inr (.inr (pc', ls', st', (S1, M1))))) (rel : vm_Rl dA D z b s nl n0 z0 ad S M ls st H locs LS cells slots) (hroom : S1.length ≤ n0 + R.cells ∧ vm_sz S1 ≤ z0 + R.slots) (kk : ∀ (ad1 : Nat → Nat) (H1 : Heap) (locs1 : List Loc) (LS1 : Array Slot) (cells1 slots1 : Nat), (∀ i : Nat, i < S.length → ad1 i = ad i) → vm_Rl dA D z b s nl n0 z0 ad1 S1 M1 ls' st' H1 locs1 LS1 cells1 slots1 → W p l e R s m args below meth c H1 locs1 cells1 slots1 Q (F0 m pc' LS1 (st'.map (vm_cv b ad1)))) : W p l e R s m args below meth c H locs cells slots Q (F0 m pc LS (st.map (vm_cv b ad))) := by
  obtain ⟨g1, g2, g3, g4, g5, g6, g7, g8, g9, g10, g11, g12, g13, g14, g15⟩ := C
  unfold vm_newa at h
  split at h
  · next n rest t ht =>
    split at h
    · next hn =>
      obtain ⟨rfl, rfl, rfl, h⟩ := vm_nx_in h
      cases h
      have hi : (Int32.ofInt n).toInt = n := rel.2.2.2.2.1 _ List.mem_cons_self
      have c1 := rel.2.2.2.2.2.2.2.1
      have c2 := rel.2.2.2.2.2.2.2.2.1
      have r1 : S.length + 1 ≤ n0 + R.cells := by
        have := hroom.1
        rw [List.length_append] at this
        exact this
      have r2 : vm_sz S + n.toNat ≤ z0 + R.slots := by
        have := hroom.2
        rw [vm_sz_app] at this
        simpa [vm_sz, vm_size] using this
      have hn0 : ¬ Int32.ofInt n < 0 := by
        rw [Int32.lt_iff_toInt_lt, hi]
        have : (0 : Int32).toInt = 0 := rfl
        omega
      have hN : (Int32.ofInt n).toNatClampNeg = n.toNat := by
        show (Int32.ofInt n).toInt.toNat = _
        rw [hi]
      have fin : ∀ (ty : FieldType), vm_tyn t = ty → ty = newarray.typeOf at0 → Cond.arrayClass ty ∈ vm_tb → t < 3 → (∀ cA : ClassId, vp_cell cA (n.toNat, vm_pa ad t (fun k => if vm_ty (.inr (t, n.toNat)) k = 2 then -1 else 0)) = arrV cA n.toNat (fun _ => defaultValue ty)) → componentBytes ty ≤ 8 → (∀ cA : ClassId, va_RA s cA ty → va_RA s (dA t) ty → cA = dA t) → W p l e R s m args below meth c H locs cells slots Q (F0 m pc LS ((Sum.inl n :: rest : List vV).map (vm_cv b ad))) := by
        intro ty e1 e2 hw ht3 hcell hcb huq
        refine va_newa (tys := vm_tys dA) (a0 := (n.toNat, vm_pa ad t (fun k => if vm_ty (.inr (t, n.toNat)) k = 2 then -1 else 0))) g1 g2 (ty := ty) (by rw [← e2]; exact g5 _ hw) e2.symm g13 rel.1 rel.2.1 rel.2.2.1 (fun q hq => Nat.le_trans g11 hq) hcell hn0 hN ?_ (by omega) (by omega) hd ?_
        · have : n.toNat * componentBytes ty ≤ 4096 * 8 := Nat.mul_le_mul (by omega) hcb
          omega
        · intro q cA H1 hK hP hD hS
          have hcA : cA = dA t := huq cA (hK.2 6 (cA, ty) rfl).2 (by rw [← e1]; exact (g13.2 t _ (vm_tys_at (by omega))).2)
          subst hcA
          obtain ⟨hag, hr⟩ := vm_Rl_new (st' := vR (S.length : Nat) :: rest) (sh := .inr (t, n.toNat)) rel rfl (fun v hv => by
            rcases List.mem_cons.mp hv with rfl | hv
            · exact Or.inr rfl
            · exact Or.inl (List.mem_cons_of_mem _ hv)) hP hD hS
          have k1 := kk _ H1 locs LS (cells + 1) (slots + vm_size (.inr (t, n.toNat))) hag hr
          rw [List.map_cons, vm_map_same hag (fun v hv => rel.2.2.2.2.1 v (List.mem_cons_of_mem _ hv)), vm_cv_ref (by omega)] at k1
          have e : Int.toNat ((((S, M) : vH).1.length : Nat) : Int) = S.length := Int.toNat_natCast _
          rw [e, if_pos rfl] at k1
          exact k1
      have inj : ∀ (x : String) (a a' : ClassId), s.vm.findClass x = some a → s.vm.findClass x = some a' → a = a' := fun x a a' h1 h2 => Option.some.inj (h1.symm.trans h2)
      cases at0 <;> first | (cases ht; done) | skip
      · cases ht
        exact fin .byte rfl rfl vm_ac_2 (by omega) (fun cA => rfl) (by decide) (fun cA h1 h2 => inj _ _ _ h1 h2)
      · cases ht
        exact fin .int rfl rfl vm_ac_0 (by omega) (fun cA => rfl) (by decide) (fun cA h1 h2 => inj _ _ _ h1 h2)
      · cases ht
        exact fin .long rfl rfl vm_ac_1 (by omega) (fun cA => rfl) (by decide) (fun cA h1 h2 => inj _ _ _ h1 h2)
    · cases h
  · cases h
end SIMD
