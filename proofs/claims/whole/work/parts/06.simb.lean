/-! THE SMALL MACHINE AND THE REAL ONE: the instructions that read and write cells -/
section SIMB
variable {p : Program} {l : Launch} {e : Env} {R : Room} {s : State} {m : MethodId} {args : Array Value} {below : List Frame} {meth : Method} {c : Code} {H : Heap} {locs : List Loc} {cells slots : Nat} {Q : State → Prop} {dA : Nat → ClassId} {D : va_G} {z b L : Nat} {xs : Nat → Int} {nl n0 z0 : Nat} {ad : Nat → Nat} {LS : Array Slot} {ls st ls' st' : List vV} {S S1 : List vSh} {M M1 : vM} {j pc pc' : Nat}
theorem vm_cv_ref {r : Int} (h : 0 ≤ r) : vm_cv b ad (vR r) = .ref (ad r.toNat) := by
  show (if r = -2 then Value.ref b else va_rf (vm_ro ad r)) = _
  rw [if_neg (by omega), vm_ro, if_neg (by omega)]
  rfl
theorem vm_cv_rf {r : Int} (h : r ≠ -2) : vm_cv b ad (vR r) = va_rf (vm_ro ad r) := if_neg h
theorem vm_cv_tv {n t : Nat} {x : Int} (h : vm_mk n t x) : vm_cv b ad (vm_tv t x) = vm_cf ad t x := by
  by_cases h1 : t = 1
  · subst h1; rfl
  · by_cases h2 : t = 2
    · subst h2
      have h' : -1 ≤ x ∧ x < n := h
      exact vm_cv_rf (by omega)
    · have e1 : vm_tv t x = vI x := by
        unfold vm_tv
        split <;> first | contradiction | rfl
      have e2 : vm_cf ad t x = .int (Int32.ofInt x) := by
        unfold vm_cf
        split <;> first | contradiction | rfl
      rw [e1, e2]
      rfl
theorem vm_cv_catE (v : vV) : (vm_cv b ad v).category = vm_cat v := by
  rcases v with x | x | x | x
  · rfl
  · rfl
  · show (if x = -2 then Value.ref b else va_rf (vm_ro ad x)).category = 1
    split
    · rfl
    · unfold vm_ro
      split <;> rfl
  · rfl
theorem vm_cats_E (st : List vV) : ((st.map (vm_cv b ad)).map fun v => v.category).sum = vm_cats st := by
  unfold vm_cats
  rw [List.map_map]
  exact congrArg List.sum (List.map_congr_left fun v _ => vm_cv_catE v)
theorem vm_ar_in {r : Int} {a t n : Nat} (h : vm_ar S r = some (a, t, n)) : 0 ≤ r ∧ a = r.toNat ∧ S[a]? = some (.inr (t, n)) := by
  unfold vm_ar at h
  split at h
  · cases h
  · split at h
    · next t' n' hs =>
      cases h
      exact ⟨by omega, rfl, hs⟩
    · cases h
theorem vm_ix {i : Int} {n : Nat} (hi : (Int32.ofInt i).toInt = i) (h0 : 0 ≤ i) (h1 : i < n) : vp_in (Int32.ofInt i) n ∧ (Int32.ofInt i).toNatClampNeg = i.toNat := by
  have e : (Int32.ofInt i).toNatClampNeg = i.toNat := by
    show (Int32.ofInt i).toInt.toNat = _
    rw [hi]
  refine ⟨fun h => ?_, e⟩
  rcases h with h | h
  · rw [Int32.lt_iff_toInt_lt, hi] at h
    have : (0 : Int32).toInt = 0 := rfl
    omega
  · rw [e] at h
    omega
theorem vm_hok_up {a k : Nat} {sh : vSh} {x : Int} (h : vm_hok S M) (hs : S[a]? = some sh) (hx : vm_mk S.length (vm_ty sh k) x) : vm_hok S (vm_up M a k x) := by
  intro a' sh' k' hs'
  unfold vm_up
  split
  · next e =>
    obtain ⟨rfl, rfl⟩ := e
    rw [hs] at hs'
    cases hs'
    exact hx
  · exact h a' sh' k' hs'
theorem vm_up_o {a b k : Nat} {x : Int} (h : b ≠ a) : vm_up M a k x b = M b := by
  funext k'
  simp [vm_up, h]
theorem vm_up_a {a k : Nat} {x : Int} : vm_up M a k x a = fun j => if j = k then x else M a j := by
  funext k'
  simp [vm_up]
/-- a cell written: the relation behind it -/
theorem vm_Rl_up {a k : Nat} {sh : vSh} {x : Int} {e0 : va_E} {H1 : Heap} {locs1 : List Loc} (rel : vm_Rl dA D z b s nl n0 z0 ad S M ls st H locs LS cells slots) (hs : S[a]? = some sh) (hx : vm_mk S.length (vm_ty sh k) x) (he : e0 = vm_ce dA ad sh (vm_up M a k x a)) (hst : ∀ v ∈ st', v ∈ st)
    (hP : va_P D vwCl ((vm_ws dA ad S M).set a (ad a, e0)) H1) (hD : va_D (fun q => z ≤ q) ((vm_ws dA ad S M).set a (ad a, e0))) (hS : va_S (fun q => z ≤ q) s.heap H1 locs1) : vm_Rl dA D z b s nl n0 z0 ad S (vm_up M a k x) ls st' H1 locs1 LS cells slots := by
  have hw := vm_ws_set (dA := dA) (ad := ad) (M := M) (M' := vm_up M a k x) hs he (fun b hb => vm_up_o hb)
  rw [hw] at hP hD
  exact ⟨hP, hD, hS, vm_hok_up rel.2.2.2.1 hs hx, fun v hv => rel.2.2.2.2.1 v (hst v hv), rel.2.2.2.2.2⟩
theorem vm_s_getf {idx : Nat} (C : vm_Cx dA D z b L xs p s m args meth c j) (hd : decode (vm_cd j) pc = .ok (.getfield idx, 3)) (h : vm_getf (vm_own j) pc idx ls st (S, M) = some (.inr (.inr (pc', ls', st', (S1, M1))))) (rel : vm_Rl dA D z b s nl n0 z0 ad S M ls st H locs LS cells slots) (kk : ∀ (ad1 : Nat → Nat) (H1 : Heap) (locs1 : List Loc) (LS1 : Array Slot) (cells1 slots1 : Nat), (∀ i : Nat, i < S.length → ad1 i = ad i) → vm_Rl dA D z b s nl n0 z0 ad1 S1 M1 ls' st' H1 locs1 LS1 cells1 slots1 → W p l e R s m args below meth c H1 locs1 cells1 slots1 Q (F0 m pc' LS1 (st'.map (vm_cv b ad1)))) : W p l e R s m args below meth c H locs cells slots Q (F0 m pc LS (st.map (vm_cv b ad))) := by
  unfold vm_getf at h
  split at h
  · next r rest ci k i hlk =>
    split at h
    · next ho =>
      obtain ⟨rfl, rfl, rfl, h⟩ := vm_nx_in h
      cases h
      obtain ⟨hc, hk, hw⟩ := vm_fl_ok hlk
      obtain ⟨f1, f2, f3, f4, f5, f6⟩ := vm_F_ok hc
      obtain ⟨h0, hs⟩ := of_decide_eq_true ho
      have hm := rel.2.2.2.1 _ _ k hs
      obtain ⟨g1, g2, g3, g4, g5, g6, g7, g8, g9, g10, g11, g12, g13, -⟩ := C
      have k1 := kk ad H locs LS cells slots (fun _ _ => rfl) (vm_Rl_st rel (fun w hw => by
        rcases List.mem_cons.mp hw with rfl | hw
        · exact vm_mk_ok hm
        · exact rel.2.2.2.2.1 w (List.mem_cons_of_mem _ hw)))
      show W p l e R s m args below meth c H locs cells slots Q (F0 m pc LS (vm_cv b ad (vR r) :: rest.map (vm_cv b ad)))
      rw [vm_cv_ref h0]
      refine va_get g1 g2 (C := (vm_F ci).1) (T := (vm_F ci).2.1) (N := (vm_F ci).2.2) g5 f3 g4 g13 rel.1 r.toNat (vm_ws_at hs) f1 k (by rw [f2]; exact hk) (g5 _ hw) (fun x h => h) (v := vm_cf ad (vm_fk ci k) (M r.toNat k)) ?_ hd ?_
      · rw [List.getElem?_map, List.getElem?_range hk]
        rfl
      · have e := vm_cv_tv (b := b) (ad := ad) (show vm_mk S.length (vm_fk ci k) (M r.toNat k) from hm)
        rw [← e]
        exact k1
    · cases h
  · cases h
theorem vm_fit_ok {n t : Nat} {v : vV} {x : Int} {ty : FieldType} (h : vm_fit t v = some x) (hv : vm_ok n v) (hty : vm_tyk ty t = true) : vm_mk n t x ∧ vm_cv b ad v = vm_cf ad t x ∧ narrow ty (vm_cv b ad v) = vm_cv b ad v ∧ fits ty (vm_cv b ad v) = true := by
  unfold vm_fit at h
  split at h
  · cases h
    refine ⟨hv, rfl, ?_⟩
    cases ty <;> first | (cases hty; done) | exact ⟨rfl, rfl⟩
  · cases h
    refine ⟨hv, rfl, ?_⟩
    cases ty <;> first | (cases hty; done) | exact ⟨rfl, rfl⟩
  · split at h
    · next h0 =>
      cases h
      have hv' : -2 ≤ x ∧ x < n := hv
      rw [vm_cv_ref h0]
      refine ⟨⟨by omega, hv'.2⟩, ?_, ?_⟩
      · show _ = va_rf (vm_ro ad x)
        rw [vm_ro, if_neg (by omega)]
        rfl
      · cases ty <;> first | (cases hty; done) | exact ⟨rfl, rfl⟩
    · cases h
  · split at h
    · next h0 =>
      cases h
      refine ⟨h0, rfl, ?_⟩
      cases ty <;> first | (cases hty; done) | (rcases h0 with rfl | rfl <;> exact ⟨rfl, rfl⟩)
    · cases h
  · cases h
theorem vm_s_putf {idx : Nat} (C : vm_Cx dA D z b L xs p s m args meth c j) (hd : decode (vm_cd j) pc = .ok (.putfield idx, 3)) (h : vm_putf ((vm_y j).name == "<init>") (vm_own j) pc idx ls st (S, M) (vm_fin (vm_own j)) = some (.inr (.inr (pc', ls', st', (S1, M1))))) (rel : vm_Rl dA D z b s nl n0 z0 ad S M ls st H locs LS cells slots) (kk : ∀ (ad1 : Nat → Nat) (H1 : Heap) (locs1 : List Loc) (LS1 : Array Slot) (cells1 slots1 : Nat), (∀ i : Nat, i < S.length → ad1 i = ad i) → vm_Rl dA D z b s nl n0 z0 ad1 S1 M1 ls' st' H1 locs1 LS1 cells1 slots1 → W p l e R s m args below meth c H1 locs1 cells1 slots1 Q (F0 m pc' LS1 (st'.map (vm_cv b ad1)))) : W p l e R s m args below meth c H locs cells slots Q (F0 m pc LS (st.map (vm_cv b ad))) := by
  unfold vm_putf at h
  split at h
  · next v r rest ci k i hlk =>
    split at h
    · next zz hz =>
      split at h
      · next hc =>
        obtain ⟨ho, hf⟩ := hc
        obtain ⟨rfl, rfl, rfl, h⟩ := vm_nx_in h
        cases h
        obtain ⟨hc, hk, hw⟩ := vm_fl_ok hlk
        obtain ⟨f1, f2, f3, f4, f5, f6⟩ := vm_F_ok hc
        obtain ⟨h0, hs⟩ := of_decide_eq_true ho
        obtain ⟨g1, g2, g3, g4, g5, g6, g7, g8, g9, g10, g11, g12, g13, -⟩ := C
        obtain ⟨q1, q2, q3, q4⟩ := vm_fit_ok (b := b) (ad := ad) hz (rel.2.2.2.2.1 v List.mem_cons_self) (f6 k (by rw [f2]; exact hk))
        have k2 : ∀ (H1 : Heap) (locs1 : List Loc), va_P D vwCl ((vm_ws dA ad S M).set r.toNat (ad r.toNat, .inr (ci, ((List.range (vm_nf ci)).map fun k => vm_cf ad (vm_fk ci k) (M r.toNat k)).set k (vm_cv b ad v)))) H1 → va_D (fun q => z ≤ q) ((vm_ws dA ad S M).set r.toNat (ad r.toNat, .inr (ci, ((List.range (vm_nf ci)).map fun k => vm_cf ad (vm_fk ci k) (M r.toNat k)).set k (vm_cv b ad v)))) → va_S (fun q => z ≤ q) s.heap H1 locs1 → W p l e R s m args below meth c H1 locs1 cells slots Q (F0 m (pc + 3) LS (st'.map (vm_cv b ad))) := by
          intro H1 locs1 hP hD hS
          refine kk ad H1 locs1 LS cells slots (fun _ _ => rfl) (vm_Rl_up rel hs q1 ?_ (fun w hw => List.mem_cons_of_mem _ (List.mem_cons_of_mem _ hw)) hP hD hS)
          rw [vm_up_a]
          refine congrArg (fun y => (Sum.inr (ci, y) : va_E)) ?_
          apply List.ext_getElem?
          intro i
          rw [List.getElem?_set, List.getElem?_map]
          by_cases e : k = i
          · subst e
            rw [if_pos rfl, List.length_map, List.length_range, if_pos hk, List.getElem?_map, List.getElem?_range hk]
            simp [q2]
          · rw [if_neg e, List.getElem?_map]
            cases hq : (List.range (vm_nf ci))[i]? with
            | none => rfl
            | some i' =>
              have : i' = i := by
                have := List.getElem?_range (show i < vm_nf ci by
                  have := (List.getElem?_eq_some_iff.mp hq).1
                  simpa using this)
                rw [this] at hq
                exact (Option.some.inj hq).symm
              subst this
              simp [Ne.symm e]
        show W p l e R s m args below meth c H locs cells slots Q (F0 m pc LS (vm_cv b ad v :: vm_cv b ad (vR r) :: st'.map (vm_cv b ad)))
        rw [vm_cv_ref h0]
        by_cases hfin : ((vm_F ci).2.1 k).2.2.2 = false
        · exact va_put g1 g2 (C := (vm_F ci).1) (T := (vm_F ci).2.1) (N := (vm_F ci).2.2) g5 f3 (vm_tyc ci) f4 f5 g4 g13 rel.1 rel.2.1 rel.2.2.1 r.toNat (vm_ws_at hs) f1 k (by rw [f2]; exact hk) (g5 _ hw) (fun x h => h) hfin (f4 k (by rw [f2]; exact hk)) q3 q4 (by rw [List.length_map, List.length_range]; exact hk) hd k2
        · rcases hf with hf | ⟨hf1, hf2⟩
          · exact absurd hf hfin
          · refine va_putF g1 g2 (C := (vm_F ci).1) (T := (vm_F ci).2.1) (N := (vm_F ci).2.2) g5 f3 (vm_tyc ci) f4 f5 g4 g13 rel.1 rel.2.1 rel.2.2.1 r.toNat (vm_ws_at hs) f1 k (by rw [f2]; exact hk) (g5 _ hw) (fun x h => h) (by simpa using hfin) (g8 (by simpa using hf1)) (by simpa [vm_fin] using hf2) (f4 k (by rw [f2]; exact hk)) q3 q4 (by rw [List.length_map, List.length_range]; exact hk) hd k2
      · cases h
    · cases h
  · cases h
end SIMB
