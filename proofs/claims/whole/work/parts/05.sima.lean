/-! THE SMALL MACHINE AND THE REAL ONE: what a state of the one says of the other; the instructions that touch no cell -/
def vm_ro (ad : Nat → Nat) (x : Int) : Option Nat := if x < 0 then none else some (ad x.toNat)
def vm_cv (b : Nat) (ad : Nat → Nat) : vV → Value
  | .inl x => .int (Int32.ofInt x)
  | .inr (.inl x) => .long (Int64.ofInt x)
  | .inr (.inr (.inl x)) => if x = -2 then .ref b else va_rf (vm_ro ad x)
  | .inr (.inr (.inr _)) => .null
def vm_cf (ad : Nat → Nat) (t : Nat) (x : Int) : Value := match t with
  | 1 => .long (Int64.ofInt x)
  | 2 => va_rf (vm_ro ad x)
  | _ => .int (Int32.ofInt x)
def vm_pa (ad : Nat → Nat) (t : Nat) (m : Nat → Int) : ((Nat → Int32) ⊕ (Nat → Int64) ⊕ (Nat → UInt32) ⊕ (Nat → UInt64) ⊕ (Nat → Option Nat)) := match t with
  | 0 => .inl (fun j => Int32.ofInt (m j))
  | 1 => .inr (.inl (fun j => Int64.ofInt (m j)))
  | 2 => .inl (fun j => Int32.ofInt (m j))
  | _ => .inr (.inr (.inr (.inr (fun j => vm_ro ad (m j)))))
def vm_ce (dA : Nat → ClassId) (ad : Nat → Nat) (sh : vSh) (m : Nat → Int) : va_E := match sh with
  | .inl c => .inr (c, (List.range (vm_nf c)).map fun k => vm_cf ad (vm_fk c k) (m k))
  | .inr (t, n) => .inl (dA t, n, vm_pa ad t m)
def vm_ws (dA : Nat → ClassId) (ad : Nat → Nat) (S : List vSh) (M : vM) : va_W := (List.range S.length).map fun a => (ad a, vm_ce dA ad (S.getD a (.inl 0)) (M a))
theorem vm_ws_len {dA : Nat → ClassId} {ad : Nat → Nat} {S : List vSh} {M : vM} : (vm_ws dA ad S M).length = S.length := by simp [vm_ws]
theorem vm_ws_at {dA : Nat → ClassId} {ad : Nat → Nat} {S : List vSh} {M : vM} {a : Nat} {sh : vSh} (h : S[a]? = some sh) : (vm_ws dA ad S M)[a]? = some (ad a, vm_ce dA ad sh (M a)) := by
  have hl := (List.getElem?_eq_some_iff.mp h).1
  have h2 : S.getD a (.inl 0) = sh := by simp [List.getD, h]
  rw [vm_ws, List.getElem?_map, List.getElem?_range hl, Option.map_some, h2]
theorem vm_ws_set {dA : Nat → ClassId} {ad : Nat → Nat} {S : List vSh} {M M' : vM} {a : Nat} {sh : vSh} {e : va_E} (h : S[a]? = some sh) (he : e = vm_ce dA ad sh (M' a)) (ho : ∀ b, b ≠ a → M' b = M b) : (vm_ws dA ad S M).set a (ad a, e) = vm_ws dA ad S M' := by
  apply List.ext_getElem?
  intro i
  rw [List.getElem?_set]
  have hl := (List.getElem?_eq_some_iff.mp h).1
  by_cases hi : a = i
  · subst hi
    rw [if_pos rfl, vm_ws_len, if_pos hl, vm_ws_at h, he]
  · rw [if_neg hi]
    cases hs : S[i]? with
    | some sh' => rw [vm_ws_at hs, vm_ws_at hs, ho i (Ne.symm hi)]
    | none =>
      have h1 : S.length ≤ i := by simpa using hs
      rw [List.getElem?_eq_none (by rw [vm_ws_len]; exact h1), List.getElem?_eq_none (by rw [vm_ws_len]; exact h1)]
def vm_mk (n t : Nat) (x : Int) : Prop := match t with
  | 1 => (Int64.ofInt x).toInt = x
  | 2 => -1 ≤ x ∧ x < n
  | 3 => x = 0 ∨ x = 1
  | 4 => -128 ≤ x ∧ x ≤ 127
  | _ => (Int32.ofInt x).toInt = x
def vm_ok (n : Nat) : vV → Prop
  | .inl x => (Int32.ofInt x).toInt = x
  | .inr (.inl x) => (Int64.ofInt x).toInt = x
  | .inr (.inr (.inl x)) => -2 ≤ x ∧ x < n
  | .inr (.inr (.inr _)) => True
theorem vm_small {x : Int} (h1 : -2147483648 ≤ x) (h2 : x ≤ 2147483647) : (Int32.ofInt x).toInt = x := by
  have e : ((Int32.size : Nat) : Int) = 4294967296 := rfl
  rw [Int32.toInt_ofInt]
  exact Int.bmod_eq_of_le (by omega) (by omega)
theorem vm_mk_ok {n t : Nat} {x : Int} (h : vm_mk n t x) : vm_ok n (vm_tv t x) := by
  unfold vm_tv
  split
  · exact h
  · have h' : -1 ≤ x ∧ x < n := h
    exact ⟨by omega, h'.2⟩
  · next h1 h2 =>
    show (Int32.ofInt x).toInt = x
    unfold vm_mk at h
    split at h
    · exact absurd rfl h1
    · exact absurd rfl h2
    · rcases h with rfl | rfl <;> rfl
    · exact vm_small (by omega) (by omega)
    · exact h
theorem vm_ok_mono {n n' : Nat} (hn : n ≤ n') {v : vV} (h : vm_ok n v) : vm_ok n' v := by
  rcases v with x | x | x | x
  · exact h
  · exact h
  · have h' : -2 ≤ x ∧ x < n := h
    exact ⟨h'.1, by omega⟩
  · exact h
theorem vm_mk_mono {n n' t : Nat} (hn : n ≤ n') {x : Int} (h : vm_mk n t x) : vm_mk n' t x := by
  unfold vm_mk at h ⊢
  split at h
  · exact h
  · exact ⟨h.1, by omega⟩
  · exact h
  · exact h
  · exact h
def vm_hok (S : List vSh) (M : vM) : Prop := ∀ (a : Nat) (sh : vSh) (k : Nat), S[a]? = some sh → vm_mk S.length (vm_ty sh k) (M a k)
def vm_LR (b : Nat) (ad : Nat → Nat) (LS : Array Slot) (ls : List vV) : Prop := LS.size = ls.length ∧ lv_wf LS ∧ ∀ (k : Nat) (v : vV), ls[k]? = some v → v ≠ vN → LS[k]? = some (.val (vm_cv b ad v))
def vm_Rl (dA : Nat → ClassId) (D : va_G) (z b : Nat) (s : State) (nl n0 z0 : Nat) (ad : Nat → Nat) (S : List vSh) (M : vM) (ls st : List vV) (H : Heap) (locs : List Loc) (LS : Array Slot) (cells slots : Nat) : Prop :=
  va_P D vwCl (vm_ws dA ad S M) H ∧ va_D (fun q => z ≤ q) (vm_ws dA ad S M) ∧ va_S (fun q => z ≤ q) s.heap H locs ∧ vm_hok S M ∧ (∀ v ∈ st, vm_ok S.length v) ∧ (∀ v ∈ ls, vm_ok S.length v) ∧ vm_LR b ad LS ls ∧ cells + n0 = S.length ∧ slots + z0 = vm_sz S ∧ ls.length = nl
def vm_tys (dA : Nat → ClassId) : List (ClassId × FieldType) := [(dA 0, .int), (dA 1, .long), (dA 2, .byte), (dA 3, .array .int), (dA 4, .array .long), (dA 5, .array .byte)]
def vm_NW (s : State) : Prop := (∀ (o : String) (i : Nat) (y : MethodName), Cond.methodLinkNest o i y "PaySteer" ∈ tables_1 → va_Nw (.methodLinkNest o i y "PaySteer") s) ∧ vm_AOA .int s ∧ vm_AOA .long s ∧ vm_AOA .byte s
def vm_Cx (dA : Nat → ClassId) (D : va_G) (z b L : Nat) (xs : Nat → Int) (p : Program) (s : State) (m : MethodId) (args : Array Value) (meth : Method) (c : Code) (j : Nat) : Prop :=
  p.tables.exec = Jvm.exec ∧ c.code = vm_cd j ∧ c.maxLocals = vm_mx j ∧ s.vm.findClass (vm_cn' (vm_own j)) = some m.cls ∧ (∀ w ∈ vm_tb, w.before args s = true) ∧ meth.sig.returnType = vm_rt j ∧ meth.locks = false ∧ ((vm_y j).name = "<init>" → meth.name = "<init>") ∧ va_X b L (fun i => Int32.ofInt (xs i)) s s.heap ∧ b < z ∧ z ≤ s.heap.size ∧ vm_NW s ∧ va_K D vwCl (vm_tys dA) s ∧ (∀ i, i < L → (Int32.ofInt (xs i)).toInt = xs i) ∧ L < 2 ^ 31
section SIMA
variable {p : Program} {l : Launch} {e : Env} {R : Room} {s : State} {m : MethodId} {args : Array Value} {below : List Frame} {meth : Method} {c : Code} {H : Heap} {locs : List Loc} {cells slots : Nat} {Q : State → Prop} {dA : Nat → ClassId} {D : va_G} {z b L : Nat} {xs : Nat → Int} {nl n0 z0 : Nat} {ad : Nat → Nat} {LS : Array Slot} {ls st ls' st' : List vV} {S S1 : List vSh} {M M1 : vM} {j pc pc' : Nat}
theorem vm_Rl_st (h : vm_Rl dA D z b s nl n0 z0 ad S M ls st H locs LS cells slots) (hs : ∀ v ∈ st', vm_ok S.length v) : vm_Rl dA D z b s nl n0 z0 ad S M ls st' H locs LS cells slots := ⟨h.1, h.2.1, h.2.2.1, h.2.2.2.1, hs, h.2.2.2.2.2⟩
theorem vm_nx_in {pc0 : Nat} {ls0 st0 : List vV} {hp0 : vH} (h : vm_nx pc0 ls0 st0 hp0 = some (.inr (.inr (pc', ls', st', (S1, M1))))) : pc' = pc0 ∧ ls' = ls0 ∧ st' = st0 ∧ (S1, M1) = hp0 := by
  simp only [vm_nx, Option.some.injEq, Sum.inr.injEq, Prod.mk.injEq] at h
  obtain ⟨rfl, rfl, rfl, h⟩ := h
  exact ⟨rfl, rfl, rfl, h.symm⟩
/-- a constant, or a local, on the stack -/
theorem vm_s_push {v : vV} {n : Nat} (h : vm_nx (pc + n) ls (v :: st) (S, M) = some (.inr (.inr (pc', ls', st', (S1, M1))))) (rel : vm_Rl dA D z b s nl n0 z0 ad S M ls st H locs LS cells slots) (hv : vm_ok S.length v) (row : W p l e R s m args below meth c H locs cells slots Q (F0 m (pc + n) LS (vm_cv b ad v :: st.map (vm_cv b ad))) → W p l e R s m args below meth c H locs cells slots Q (F0 m pc LS (st.map (vm_cv b ad)))) (kk : ∀ (ad1 : Nat → Nat) (H1 : Heap) (locs1 : List Loc) (LS1 : Array Slot) (cells1 slots1 : Nat), (∀ i : Nat, i < S.length → ad1 i = ad i) → vm_Rl dA D z b s nl n0 z0 ad1 S1 M1 ls' st' H1 locs1 LS1 cells1 slots1 → W p l e R s m args below meth c H1 locs1 cells1 slots1 Q (F0 m pc' LS1 (st'.map (vm_cv b ad1)))) : W p l e R s m args below meth c H locs cells slots Q (F0 m pc LS (st.map (vm_cv b ad))) := by
  obtain ⟨rfl, rfl, rfl, h⟩ := vm_nx_in h
  cases h
  refine row (kk ad H locs LS cells slots (fun _ _ => rfl) (vm_Rl_st rel ?_))
  intro w hw
  rcases List.mem_cons.mp hw with rfl | hw
  · exact hv
  · exact rel.2.2.2.2.1 w hw
theorem vm_s_bi {f : Int32 → Int32 → Int32} (h : vm_bi f pc ls st (S, M) = some (.inr (.inr (pc', ls', st', (S1, M1))))) (rel : vm_Rl dA D z b s nl n0 z0 ad S M ls st H locs LS cells slots) (row : ∀ (x y : Int32) (rest : List Value), W p l e R s m args below meth c H locs cells slots Q (F0 m (pc + 1) LS (.int (f x y) :: rest)) → W p l e R s m args below meth c H locs cells slots Q (F0 m pc LS (.int y :: .int x :: rest))) (kk : ∀ (ad1 : Nat → Nat) (H1 : Heap) (locs1 : List Loc) (LS1 : Array Slot) (cells1 slots1 : Nat), (∀ i : Nat, i < S.length → ad1 i = ad i) → vm_Rl dA D z b s nl n0 z0 ad1 S1 M1 ls' st' H1 locs1 LS1 cells1 slots1 → W p l e R s m args below meth c H1 locs1 cells1 slots1 Q (F0 m pc' LS1 (st'.map (vm_cv b ad1)))) : W p l e R s m args below meth c H locs cells slots Q (F0 m pc LS (st.map (vm_cv b ad))) := by
  unfold vm_bi at h
  split at h
  · next y x r =>
    obtain ⟨rfl, rfl, rfl, h⟩ := vm_nx_in h
    cases h
    refine row _ _ _ ?_
    have k1 := kk ad H locs LS cells slots (fun _ _ => rfl) (vm_Rl_st rel (fun w hw => by
      rcases List.mem_cons.mp hw with rfl | hw
      · exact congrArg Int32.toInt (Int32.ofInt_toInt _)
      · exact rel.2.2.2.2.1 w (List.mem_cons_of_mem _ (List.mem_cons_of_mem _ hw))))
    simpa only [List.map_cons, vm_cv, Int32.ofInt_toInt] using k1
  · cases h
theorem vm_s_bl {f : Int64 → Int64 → Int64} (h : vm_bl f pc ls st (S, M) = some (.inr (.inr (pc', ls', st', (S1, M1))))) (rel : vm_Rl dA D z b s nl n0 z0 ad S M ls st H locs LS cells slots) (row : ∀ (x y : Int64) (rest : List Value), W p l e R s m args below meth c H locs cells slots Q (F0 m (pc + 1) LS (.long (f x y) :: rest)) → W p l e R s m args below meth c H locs cells slots Q (F0 m pc LS (.long y :: .long x :: rest))) (kk : ∀ (ad1 : Nat → Nat) (H1 : Heap) (locs1 : List Loc) (LS1 : Array Slot) (cells1 slots1 : Nat), (∀ i : Nat, i < S.length → ad1 i = ad i) → vm_Rl dA D z b s nl n0 z0 ad1 S1 M1 ls' st' H1 locs1 LS1 cells1 slots1 → W p l e R s m args below meth c H1 locs1 cells1 slots1 Q (F0 m pc' LS1 (st'.map (vm_cv b ad1)))) : W p l e R s m args below meth c H locs cells slots Q (F0 m pc LS (st.map (vm_cv b ad))) := by
  unfold vm_bl at h
  split at h
  · next y x r =>
    obtain ⟨rfl, rfl, rfl, h⟩ := vm_nx_in h
    cases h
    refine row _ _ _ ?_
    have k1 := kk ad H locs LS cells slots (fun _ _ => rfl) (vm_Rl_st rel (fun w hw => by
      rcases List.mem_cons.mp hw with rfl | hw
      · exact congrArg Int64.toInt (Int64.ofInt_toInt _)
      · exact rel.2.2.2.2.1 w (List.mem_cons_of_mem _ (List.mem_cons_of_mem _ hw))))
    simpa only [List.map_cons, vm_cv, Int64.ofInt_toInt] using k1
  · cases h
theorem vm_s_bs {f : Int64 → Int32 → Int64} (h : vm_bs f pc ls st (S, M) = some (.inr (.inr (pc', ls', st', (S1, M1))))) (rel : vm_Rl dA D z b s nl n0 z0 ad S M ls st H locs LS cells slots) (row : ∀ (x : Int64) (y : Int32) (rest : List Value), W p l e R s m args below meth c H locs cells slots Q (F0 m (pc + 1) LS (.long (f x y) :: rest)) → W p l e R s m args below meth c H locs cells slots Q (F0 m pc LS (.int y :: .long x :: rest))) (kk : ∀ (ad1 : Nat → Nat) (H1 : Heap) (locs1 : List Loc) (LS1 : Array Slot) (cells1 slots1 : Nat), (∀ i : Nat, i < S.length → ad1 i = ad i) → vm_Rl dA D z b s nl n0 z0 ad1 S1 M1 ls' st' H1 locs1 LS1 cells1 slots1 → W p l e R s m args below meth c H1 locs1 cells1 slots1 Q (F0 m pc' LS1 (st'.map (vm_cv b ad1)))) : W p l e R s m args below meth c H locs cells slots Q (F0 m pc LS (st.map (vm_cv b ad))) := by
  unfold vm_bs at h
  split at h
  · next y x r =>
    obtain ⟨rfl, rfl, rfl, h⟩ := vm_nx_in h
    cases h
    refine row _ _ _ ?_
    have k1 := kk ad H locs LS cells slots (fun _ _ => rfl) (vm_Rl_st rel (fun w hw => by
      rcases List.mem_cons.mp hw with rfl | hw
      · exact congrArg Int64.toInt (Int64.ofInt_toInt _)
      · exact rel.2.2.2.2.1 w (List.mem_cons_of_mem _ (List.mem_cons_of_mem _ hw))))
    simpa only [List.map_cons, vm_cv, Int64.ofInt_toInt] using k1
  · cases h
/-- a branch -/
theorem vm_s_br {cd : Bool} {off : Int} {st0 : List vV} (h : vm_br cd pc off ls st0 (S, M) = some (.inr (.inr (pc', ls', st', (S1, M1))))) (rel : vm_Rl dA D z b s nl n0 z0 ad S M ls st H locs LS cells slots) (hsub : ∀ w ∈ st0, w ∈ st) (row : ∀ tgt : Nat, (pc : Int) + off = tgt → (cd = true → W p l e R s m args below meth c H locs cells slots Q (F0 m tgt LS (st0.map (vm_cv b ad)))) → (cd = false → W p l e R s m args below meth c H locs cells slots Q (F0 m (pc + 3) LS (st0.map (vm_cv b ad)))) → W p l e R s m args below meth c H locs cells slots Q (F0 m pc LS (st.map (vm_cv b ad)))) (kk : ∀ (ad1 : Nat → Nat) (H1 : Heap) (locs1 : List Loc) (LS1 : Array Slot) (cells1 slots1 : Nat), (∀ i : Nat, i < S.length → ad1 i = ad i) → vm_Rl dA D z b s nl n0 z0 ad1 S1 M1 ls' st' H1 locs1 LS1 cells1 slots1 → W p l e R s m args below meth c H1 locs1 cells1 slots1 Q (F0 m pc' LS1 (st'.map (vm_cv b ad1)))) : W p l e R s m args below meth c H locs cells slots Q (F0 m pc LS (st.map (vm_cv b ad))) := by
  unfold vm_br at h
  split at h
  · next h0 =>
    obtain ⟨rfl, rfl, rfl, h⟩ := vm_nx_in h
    cases h
    have k1 := kk ad H locs LS cells slots (fun _ _ => rfl) (vm_Rl_st rel (fun w hw => rel.2.2.2.2.1 w (hsub w hw)))
    refine row ((pc : Int) + off).toNat (by omega) (fun hc => ?_) (fun hc => ?_)
    · rw [if_pos hc] at k1
      exact k1
    · rw [if_neg (by rw [hc]; exact fun q => by cases q)] at k1
      exact k1
  · cases h
theorem vm_ofInt_lt {x y : Int} (hx : (Int32.ofInt x).toInt = x) (hy : (Int32.ofInt y).toInt = y) : Int32.ofInt x < Int32.ofInt y ↔ x < y := by rw [Int32.lt_iff_toInt_lt, hx, hy]
theorem vm_ofInt_le {x y : Int} (hx : (Int32.ofInt x).toInt = x) (hy : (Int32.ofInt y).toInt = y) : Int32.ofInt x ≤ Int32.ofInt y ↔ x ≤ y := by rw [Int32.le_iff_toInt_le, hx, hy]
theorem vm_ofInt_eq {x y : Int} (hx : (Int32.ofInt x).toInt = x) (hy : (Int32.ofInt y).toInt = y) : Int32.ofInt x = Int32.ofInt y ↔ x = y := by rw [← Int32.toInt_inj, hx, hy]
theorem vm_ofL_lt {x y : Int} (hx : (Int64.ofInt x).toInt = x) (hy : (Int64.ofInt y).toInt = y) : Int64.ofInt x < Int64.ofInt y ↔ x < y := by rw [Int64.lt_iff_toInt_lt, hx, hy]
theorem vm_ofL_eq {x y : Int} (hx : (Int64.ofInt x).toInt = x) (hy : (Int64.ofInt y).toInt = y) : Int64.ofInt x = Int64.ofInt y ↔ x = y := by rw [← Int64.toInt_inj, hx, hy]
theorem vm_zero : Int32.ofInt 0 = 0 := rfl
theorem vm_zeroL : Int64.ofInt 0 = 0 := rfl
-- locals
def vm_pl (b : Nat) (ad : Nat → Nat) (ls : List vV) : List (Nat × Value) := (List.range ls.length).filterMap fun k => match (ls[k]? : Option vV) with
  | some (.inr (.inr (.inr _))) => none
  | some v => some (k, vm_cv b ad v)
  | none => none
theorem vm_pl_in {k : Nat} {v : vV} (h : ls[k]? = some v) (hv : v ≠ vN) : (k, vm_cv b ad v) ∈ vm_pl b ad ls := by
  have hl := (List.getElem?_eq_some_iff.mp h).1
  refine List.mem_filterMap.mpr ⟨k, List.mem_range.mpr hl, ?_⟩
  rw [h]
  rcases v with x | x | x | x
  · rfl
  · rfl
  · rfl
  · exact absurd rfl hv
theorem vm_LR.has (h : vm_LR b ad LS ls) : lv_has LS ls.length (vm_pl b ad ls) := by
  refine ⟨h.1, h.2.1, fun q hq => ?_⟩
  obtain ⟨k, -, hk⟩ := List.mem_filterMap.mp hq
  split at hk
  · cases hk
  · next v hv hn =>
    cases hk
    exact h.2.2 k v hn (fun e => by subst e; exact hv _ rfl)
  · cases hk
theorem vm_kill_len (k : Nat) : (vm_kill ls k).length = ls.length := by
  unfold vm_kill
  split
  · rfl
  · split <;> simp
theorem vm_kill_at {k i : Nat} {v : vV} (h : (vm_kill ls k)[i]? = some v) (hv : v ≠ vN) : ls[i]? = some v ∧ (i + 1 = k → vm_cat v ≠ 2) := by
  unfold vm_kill at h
  split at h
  · exact ⟨h, fun q => by cases q⟩
  · next j' =>
    split at h
    · next x hx =>
      rw [List.getElem?_set] at h
      by_cases e : j' = i
      · rw [if_pos e] at h
        split at h
        · cases h; exact absurd rfl hv
        · cases h
      · rw [if_neg e] at h
        exact ⟨h, fun q => absurd (by omega) e⟩
    · next hx =>
      refine ⟨h, fun q hc => ?_⟩
      have e : i = j' := by omega
      subst e
      rcases v with x | x | x | x
      · cases hc
      · exact hx x h
      · cases hc
      · cases hc
theorem vm_cv_cat {v : vV} (h : vm_cat v ≠ 2) : (vm_cv b ad v).category ≠ 2 := by
  rcases v with x | x | x | x
  · exact fun q => by cases q
  · exact absurd rfl h
  · show (if x = -2 then Value.ref b else va_rf (vm_ro ad x)).category ≠ 2
    split
    · exact fun q => by cases q
    · unfold vm_ro
      split <;> exact fun q => by cases q
  · exact fun q => by cases q
theorem vm_LR_1 {LS1 : Array Slot} {i : Nat} {v : vV} (hi : i < ls.length) (h1 : lv_has LS1 ls.length ((i, vm_cv b ad v) :: (vm_pl b ad ls).filter (fun q => !(q.1 == i) && !(q.1 + 1 == i && q.2.category == 2)))) : vm_LR b ad LS1 (vm_put1 ls i v) := by
  refine ⟨by rw [h1.1, vm_put1, List.length_set, vm_kill_len], h1.2.1, fun k w hk hw => ?_⟩
  rw [vm_put1, List.getElem?_set] at hk
  by_cases e : i = k
  · subst e
    rw [if_pos rfl, vm_kill_len, if_pos hi] at hk
    cases hk
    exact h1.2.2 _ List.mem_cons_self
  · rw [if_neg e] at hk
    obtain ⟨g1, g2⟩ := vm_kill_at hk hw
    refine h1.2.2 (k, vm_cv b ad w) (List.mem_cons_of_mem _ (List.mem_filter.mpr ⟨vm_pl_in g1 hw, ?_⟩))
    have e1 : (k == i) = false := by simp; omega
    by_cases e2 : k + 1 = i
    · have := vm_cv_cat (b := b) (ad := ad) (g2 e2)
      simp [e1, this]
    · simp [e1, e2]
theorem vm_LR_2 {LS1 : Array Slot} {i : Nat} {v : vV} (hi : i + 1 < ls.length) (h1 : lv_has LS1 ls.length ((i, vm_cv b ad v) :: (vm_pl b ad ls).filter (fun q => !(q.1 == i) && (!(q.1 == i + 1) && !(q.1 + 1 == i && q.2.category == 2))))) : vm_LR b ad LS1 (vm_put2 ls i v) := by
  refine ⟨by rw [h1.1, vm_put2, List.length_set, List.length_set, vm_kill_len], h1.2.1, fun k w hk hw => ?_⟩
  rw [vm_put2, List.getElem?_set] at hk
  by_cases e0 : i + 1 = k
  · rw [if_pos e0] at hk
    split at hk
    · cases hk; exact absurd rfl hw
    · cases hk
  · rw [if_neg e0, List.getElem?_set] at hk
    by_cases e : i = k
    · subst e
      rw [if_pos rfl, vm_kill_len, if_pos (by omega)] at hk
      cases hk
      exact h1.2.2 _ List.mem_cons_self
    · rw [if_neg e] at hk
      obtain ⟨g1, g2⟩ := vm_kill_at hk hw
      refine h1.2.2 (k, vm_cv b ad w) (List.mem_cons_of_mem _ (List.mem_filter.mpr ⟨vm_pl_in g1 hw, ?_⟩))
      have e1 : (k == i) = false := by simp; omega
      have e3 : (k == i + 1) = false := by simp; omega
      by_cases e2 : k + 1 = i
      · have := vm_cv_cat (b := b) (ad := ad) (g2 e2)
        simp [e1, e3, this]
      · simp [e1, e2, e3]
theorem vm_kill_mem {k : Nat} {v : vV} (h : v ∈ vm_kill ls k) : v ∈ ls ∨ v = vN := by
  unfold vm_kill at h
  split at h
  · exact Or.inl h
  · split at h
    · exact (List.mem_or_eq_of_mem_set h)
    · exact Or.inl h
theorem vm_put1_ok {n k : Nat} {v : vV} (h : ∀ w ∈ ls, vm_ok n w) (hv : vm_ok n v) : ∀ w ∈ vm_put1 ls k v, vm_ok n w := fun w hw => by
  rcases List.mem_or_eq_of_mem_set hw with h1 | rfl
  · rcases vm_kill_mem h1 with h1 | rfl
    · exact h w h1
    · exact trivial
  · exact hv
theorem vm_put2_ok {n k : Nat} {v : vV} (h : ∀ w ∈ ls, vm_ok n w) (hv : vm_ok n v) : ∀ w ∈ vm_put2 ls k v, vm_ok n w := fun w hw => by
  rcases List.mem_or_eq_of_mem_set hw with h1 | rfl
  · rcases List.mem_or_eq_of_mem_set h1 with h1 | rfl
    · rcases vm_kill_mem h1 with h1 | rfl
      · exact h w h1
      · exact trivial
    · exact hv
  · exact trivial
end SIMA
