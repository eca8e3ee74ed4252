/-! THE SMALL MACHINE AND THE REAL ONE: calls, returns, whole runs -/
def vm_rm (d mc ms : Nat) : Room := { frames := d + 1, cells := mc, slots := ms, locals := 64 * (d + 1) }
def vm_wsm (j : Nat) : List Cond := Cond.code (vm_y j) (vm_cd j) (vm_mx j) (vm_rt j) :: vm_tb
def vm_B (dA : Nat → ClassId) (D : va_G) (z b L : Nat) (xs : Nat → Int) (ad : Nat → Nat) (S : List vSh) (M : vM) (U : State) : Prop := va_P D vwCl (vm_ws dA ad S M) U.heap ∧ va_D (fun q => z ≤ q) (vm_ws dA ad S M) ∧ va_X b L (fun i => Int32.ofInt (xs i)) U U.heap ∧ z ≤ U.heap.size ∧ vm_NW U ∧ va_K D vwCl (vm_tys dA) U
def vm_Q (dA : Nat → ClassId) (D : va_G) (z b : Nat) (ad : Nat → Nat) (S S1 : List vSh) (M1 : vM) (r : Option vV) : Array Value → State → Outcome → State → Prop := fun _ st oc t => (∃ ad1 : Nat → Nat, (∀ i : Nat, i < S.length → ad1 i = ad i) ∧ oc = .returned (r.map (vm_cv b ad1)) ∧ va_P D vwCl (vm_ws dA ad1 S1 M1) t.heap ∧ va_D (fun q => z ≤ q) (vm_ws dA ad1 S1 M1) ∧ vm_hok S1 M1 ∧ ∀ v, r = some v → vm_ok S1.length v) ∧ va_F (fun q => z ≤ q) st t
/-- what a run of the small machine says of a method -/
def vm_Met (dA : Nat → ClassId) (D : va_G) (z b L : Nat) (xs : Nat → Int) (l : Launch) (d : Nat) (orc : vO) : Prop := ∀ (j : Nat) (as : List vV) (S : List vSh) (M : vM) (r : Option vV) (S1 : List vSh) (M1 : vM), j < vm_jl → orc j as (S, M) = some (r, (S1, M1)) → S.length ≤ S1.length → vm_sz S ≤ vm_sz S1 → vm_hok S M → (∀ v ∈ as, vm_ok S.length v) → ∀ ad : Nat → Nat, Met l (vm_y j) (vm_wsm j) (vm_rm d (S1.length - S.length) (vm_sz S1 - vm_sz S)) (va_Pc (as.map (vm_cv b ad)) (vm_B dA D z b L xs ad S M)) (vm_Q dA D z b ad S S1 M1 r) (S1.length - S.length) (vm_sz S1 - vm_sz S) (fun q => z ≤ q)
theorem gw_1 (y : MethodName) : goodWord (Cond.static y) = true := rfl
theorem gw_2 (y : MethodName) : goodWord (Cond.instanceMethod y) = true := rfl
theorem gw_3 (C : String) (y : MethodName) : goodWord (Cond.selects C y y) = true := rfl
theorem gw_4 (o : String) (i : Nat) (y : MethodName) : goodWord (Cond.methodLink o i y) = true := rfl
theorem gw_5 (y : MethodName) (b : ByteArray) (n : Nat) (r : Option FieldType) : goodWord (Cond.code y b n r) = true := rfl
section SIMG
variable {p : Program} {l : Launch} {e : Env} {R : Room} {s : State} {m : MethodId} {args : Array Value} {below : List Frame} {meth : Method} {c : Code} {H : Heap} {locs : List Loc} {cells slots : Nat} {Q : State → Prop} {dA : Nat → ClassId} {D : va_G} {z b L : Nat} {xs : Nat → Int} {nl n0 z0 : Nat} {ad ad1 : Nat → Nat} {LS : Array Slot} {ls st ls' st' : List vV} {S S1 : List vSh} {M M1 : vM} {j pc pc' : Nat}
theorem vm_tail {rest0 : List vV} {r : Option vV} {mc ms : Nat} {a : Array Value} (hr : va_Run p l e R s m args below meth c H locs cells slots mc ms (F0 m pc LS (st.map (vm_cv b ad))) (rest0.map (vm_cv b ad)) (vm_Q dA D z b ad S S1 M1 r a) (fun q => z ≤ q)) (rel : vm_Rl dA D z b s nl n0 z0 ad S M ls st H locs LS cells slots) (hrest : ∀ v ∈ rest0, v ∈ st) (hmc : mc = S1.length - S.length) (hms : ms = vm_sz S1 - vm_sz S) (hg : S.length ≤ S1.length ∧ vm_sz S ≤ vm_sz S1)
    (kk : ∀ (ad1 : Nat → Nat) (H1 : Heap) (locs1 : List Loc) (cells1 slots1 : Nat), (∀ i : Nat, i < S.length → ad1 i = ad i) → vm_Rl dA D z b s nl n0 z0 ad1 S1 M1 ls (r.toList ++ rest0) H1 locs1 LS cells1 slots1 → W p l e R s m args below meth c H1 locs1 cells1 slots1 Q (F0 m (pc + 3) LS ((r.toList ++ rest0).map (vm_cv b ad1)))) : W p l e R s m args below meth c H locs cells slots Q (F0 m pc LS (st.map (vm_cv b ad))) := by
  intro T hT X
  obtain ⟨v, st₀, t, T', L, h0, X', hL, e1, e2, ⟨⟨ad1, hag, hv, hP, hD, hok, hvok⟩, hz, hk⟩, stp⟩ := hr T hT X
  have hv : v = r.map (vm_cv b ad1) := by injection hv
  subst hv
  rw [h0] at hz hk
  have hS := rel.2.2.1
  have hS' : va_S (fun q => z ≤ q) s.heap T'.heap (locs ++ L) := ⟨Nat.le_trans hS.1 (by rw [e1]; exact hz), fun q h1 h2 => by rw [e1, hk q (Nat.lt_of_lt_of_le h1 hS.1) h2]; exact hS.2.1 q h1 h2, fun q hq => by
    rcases List.mem_append.mp hq with h | h
    · exact hS.2.2 q h
    · exact hL q h⟩
  have hrel : vm_Rl dA D z b s nl n0 z0 ad1 S1 M1 ls (r.toList ++ rest0) T'.heap (locs ++ L) LS (cells + mc) (slots + ms) := by
    refine ⟨by rw [e1]; exact hP, hD, hS', hok, fun w hw => ?_, fun w hw => vm_ok_mono hg.1 (rel.2.2.2.2.2.1 w hw), vm_LR_same hag rel.2.2.2.2.2.1 rel.2.2.2.2.2.2.1, ?_, ?_, rel.2.2.2.2.2.2.2.2.2⟩
    · rcases List.mem_append.mp hw with h | h
      · cases r with
        | none => cases h
        | some v =>
          rw [List.mem_singleton.mp h]
          exact hvok v rfl
      · exact vm_ok_mono hg.1 (rel.2.2.2.2.1 w (hrest w h))
    · have := rel.2.2.2.2.2.2.2.1
      omega
    · have := rel.2.2.2.2.2.2.2.2.1
      omega
  obtain ⟨t2, a1, b1⟩ := kk ad1 T'.heap (locs ++ L) _ _ hag hrel T' rfl X'
  refine ⟨t2, stp t2 ?_, b1⟩
  have e3 : (r.toList ++ rest0).map (vm_cv b ad1) = (r.map (vm_cv b ad1)).toList ++ rest0.map (vm_cv b ad) := by
    rw [List.map_append, vm_map_same hag (fun v hv => rel.2.2.2.2.1 v (hrest v hv))]
    cases r <;> rfl
  rw [e3] at a1
  exact a1
theorem va_X_moved {u U : State} {H0 : Heap} {f : Nat → Int32} (hvm : u.vm.Alike U.vm) (h : va_X b L f u H0) (hH : H[b]? = H0[b]?) : va_X b L f U H := by
  obtain ⟨scr, h1, h2, h3, h4, h5⟩ := h
  exact ⟨scr, by rw [hH]; exact h1, State.isArrayOf_alike hvm h2, h3, h4, h5⟩
theorem vm_NW_moved {u U : State} (hW : u.WarmedH U.vm) (h : vm_NW u) : vm_NW U := ⟨fun o i y hy => va_Nw.warmM hW (h.1 o i y hy), over_moved (a := #[]) (a' := #[]) hW.alike h.2.1, over_moved (a := #[]) (a' := #[]) hW.alike h.2.2.1, over_moved (a := #[]) (a' := #[]) hW.alike h.2.2.2⟩
theorem vm_NW_same {u U : State} (hv : u.vm = U.vm) (h : vm_NW u) : vm_NW U := ⟨fun o i y hy => va_Nw.same rfl hv (h.1 o i y hy), over_moved (a := #[]) (a' := #[]) (by rw [hv]; exact Vm.Alike.refl _) h.2.1, over_moved (a := #[]) (a' := #[]) (by rw [hv]; exact Vm.Alike.refl _) h.2.2.1, over_moved (a := #[]) (a' := #[]) (by rw [hv]; exact Vm.Alike.refl _) h.2.2.2⟩
theorem vm_blind {as : List Value} : FrameBlind (va_Pc as (vm_B dA D z b L xs ad S M)) := fun a U g mk q => by
  obtain ⟨q1, q2, q3, q4, q5, q6, q7⟩ := q
  exact ⟨q1, q2, q3, va_X_moved (u := U) (U := U.calling g mk a) (Vm.Alike.refl U.vm) q4 rfl, q5, vm_NW_same rfl q6, va_K.moved (u := U) (U := U.calling g mk a) (Vm.Alike.refl U.vm) q7⟩
theorem vm_pre {as : List vV} (C : vm_Cx dA D z b L xs p s m args meth c j) (rel : vm_Rl dA D z b s nl n0 z0 ad S M ls st H locs LS cells slots) (U : State) (hU : U.heap = H) (hW : s.WarmedH U.vm) : va_Pc (as.map (vm_cv b ad)) (vm_B dA D z b L xs ad S M) (as.map (vm_cv b ad)).toArray U := by
  obtain ⟨g1, g2, g3, g4, g5, g6, g7, g8, g9, g10, g11, g12, g13, g14, g15⟩ := C
  have hS := rel.2.2.1
  refine ⟨rfl, by rw [hU]; exact rel.1, rel.2.1, va_X_moved hW.alike g9 ?_, ?_, vm_NW_moved hW g12, va_K.moved hW.alike g13⟩
  · rw [hU]
    exact hS.2.1 b (Nat.lt_of_lt_of_le g10 g11) (Nat.not_le.mpr g10)
  · rw [hU]
    exact Nat.le_trans g11 hS.1
theorem vm_refs_in {na : Nat} {as rest : List vV} (h : vm_refs st na = some (as, rest)) : st = as.reverse ++ rest ∧ as.length = na := by
  unfold vm_refs at h
  split at h
  · next hl =>
    cases h
    rw [List.reverse_reverse, List.take_append_drop, List.length_reverse, List.length_take]
    exact ⟨rfl, by omega⟩
  · cases h
theorem vm_c_inv {op idx d j' : Nat} {as rest : List vV} {r : Option vV} {orc : vO} {i0 : Instr} (hi0 : i0 = (match op with | 0 => .invokevirtual idx | 1 => .invokestatic idx | _ => .invokespecial idx)) (C : vm_Cx dA D z b L xs p s m args meth c j) (hnl : nl = vm_mx j) (hR : d + 2 ≤ R.frames ∧ 64 * (d + 2) ≤ R.locals) (hd : decode (vm_cd j) pc = .ok (i0, 3)) (h : vm_inv op (vm_own j) pc idx ls st (S, M) = some (.inr (.inl (j', as, rest)))) (rel : vm_Rl dA D z b s nl n0 z0 ad S M ls st H locs LS cells slots) (hM : vm_Met dA D z b L xs l d orc) (ho : orc j' as (S, M) = some (r, (S1, M1))) (hg : S.length ≤ S1.length ∧ vm_sz S ≤ vm_sz S1) (hroom : S1.length ≤ n0 + R.cells ∧ vm_sz S1 ≤ z0 + R.slots)
    (kk : ∀ (ad1 : Nat → Nat) (H1 : Heap) (locs1 : List Loc) (cells1 slots1 : Nat), (∀ i : Nat, i < S.length → ad1 i = ad i) → vm_Rl dA D z b s nl n0 z0 ad1 S1 M1 ls (r.toList ++ rest) H1 locs1 LS cells1 slots1 → W p l e R s m args below meth c H1 locs1 cells1 slots1 Q (F0 m (pc + 3) LS ((r.toList ++ rest).map (vm_cv b ad1)))) : W p l e R s m args below meth c H locs cells slots Q (F0 m pc LS (st.map (vm_cv b ad))) := by
  have CC := C
  obtain ⟨g1, g2, g3, g4, g5, g6, g7, g8, g9, g10, g11, g12, g13, g14, g15⟩ := C
  have hLS : LS.size = nl := by rw [rel.2.2.2.2.2.2.1.1]; exact rel.2.2.2.2.2.2.2.2.2
  have c1 := rel.2.2.2.2.2.2.2.1
  have c2 := rel.2.2.2.2.2.2.2.2.1
  have hf : cells + (S1.length - S.length) ≤ R.cells ∧ slots + (vm_sz S1 - vm_sz S) ≤ R.slots := ⟨by omega, by omega⟩
  unfold vm_inv at h
  split at h
  · next kind j0 na w hlk =>
    obtain ⟨i1, i2, i3, i4⟩ := w
    have hp := vm_ml_all (vm_lookup hlk)
    unfold vm_mlP at hp
    split at h
    · split at h
      · split at h
        · split at h
          · split at h
            · exact absurd h (fun q => by cases q)
            · cases h
          · cases h
        · cases h
      · cases h
    · next hk6 =>
      split at h
      · split at h
        · split at h
          · split at h
            · exact absurd h (fun q => by cases q)
            · cases h
          · cases h
        · cases h
      · next hk5 =>
        simp only [if_neg hk5, if_neg hk6, Bool.and_eq_true, decide_eq_true_eq] at hp
        obtain ⟨⟨⟨⟨⟨hj, hna⟩, w1⟩, w2⟩, w3⟩, w4⟩ := hp
        split at h
        · next as0 rest0 hrf =>
          obtain ⟨hst, hlen⟩ := vm_refs_in hrf
          subst hst
          obtain ⟨m1, m2, m3, m4, m5, m6⟩ := vm_m_ok hj
          have hG : GoodIn vm_tb (vm_wsm j0) := fun w hw => by
            rcases List.mem_cons.mp hw with rfl | hw
            · exact vm_tb_good _ m1
            · exact vm_tb_good _ hw
          have hRm : (vm_rm d (S1.length - S.length) (vm_sz S1 - vm_sz S)).frames + 1 ≤ R.frames ∧ 8 + (vm_mx j0 + 11) + (vm_rm d (S1.length - S.length) (vm_sz S1 - vm_sz S)).locals ≤ R.locals := by
            show d + 1 + 1 ≤ R.frames ∧ 8 + (vm_mx j0 + 11) + 64 * (d + 1) ≤ R.locals
            omega
          split at h
          · next hks =>
            rw [if_pos hks, decide_eq_true_eq] at w2
            split at h
            · next hc =>
              obtain ⟨rfl, hcat⟩ := hc
              subst hi0
              cases h
              have hasok : ∀ v ∈ as, vm_ok S.length v := fun v hv => rel.2.2.2.2.1 v (List.mem_append_left _ (List.mem_reverse.mpr hv))
              have hMm := hM j' as S M r S1 M1 hj ho hg.1 hg.2 rel.2.2.2.1 hasok ad
              have hPS : PreS s H (va_Pc (as.map (vm_cv b ad)) (vm_B dA D z b L xs ad S M)) (as.map (vm_cv b ad)) := ⟨vm_blind, fun U hU hW => vm_pre CC rel U hU hW⟩
              have hmon : ∀ X : List Value, 2 * (F0 m pc LS X).monitorRoom + ((rest.map (vm_cv b ad)).map fun v => v.category).sum ≤ 8 := fun X => by rw [vm_cats_E, show (F0 m pc LS X).monitorRoom = 0 from rfl]; omega
              have hstk : (as.reverse ++ rest).map (vm_cv b ad) = (as.map (vm_cv b ad)).reverse ++ rest.map (vm_cv b ad) := by rw [List.map_append, List.map_reverse]
              rcases hks with rfl | rfl
              · rw [if_neg (by omega), decide_eq_true_eq] at w1
                refine vm_tail (va_runS ⟨g1, g2, g3, g4, g5⟩ hMm ⟨callB_of (rm := vm_rm d (S1.length - S.length) (vm_sz S1 - vm_sz S)) (mc := S1.length - S.length) (ms := vm_sz S1 - vm_sz S) (ws' := vm_tb) na g5 hG rfl rfl rfl (g5 _ m4) (g5 _ (vm_tb_of w1 (gw_4 _ _ _))) ⟨m5.1, m5.2, hna⟩ hRm, g5 _ (vm_tb_of w2 (gw_1 _))⟩ hPS rfl (by rw [List.length_map]; exact hlen) (by rw [hnl] at hLS; exact hLS) hstk (hmon _) hd hf) rel (fun v hv => List.mem_append_right _ hv) rfl rfl hg kk
              · rw [if_pos (Or.inl rfl), decide_eq_true_eq] at w1
                refine vm_tail (va_runSN ⟨g1, g2, g3, g4, g5⟩ hMm ⟨va_cnB (rm := vm_rm d (S1.length - S.length) (vm_sz S1 - vm_sz S)) (mc := S1.length - S.length) (ms := vm_sz S1 - vm_sz S) (ws' := vm_tb) na g5 hG rfl rfl rfl (g12.1 _ _ _ (vm_at_in w1)) (g5 _ m4) ⟨m5.1, m5.2, hna⟩ hRm, g5 _ (vm_tb_of w2 (gw_1 _)), trivial⟩ hPS rfl (by rw [List.length_map]; exact hlen) (by rw [hnl] at hLS; exact hLS) hstk (hmon _) hd hf) rel (fun v hv => List.mem_append_right _ hv) rfl rfl hg kk
            · cases h
          · next hks =>
            rw [if_neg hks, decide_eq_true_eq] at w2
            split at h
            · next rr rest1 =>
              split at h
              · next hc =>
                obtain ⟨hcat, hr0⟩ := hc
                have key : ∀ (hop : (kind = 0 ∧ op = 0 ∧ ∃ ci, S[rr.toNat]? = some (.inl ci) ∧ ci < 12 ∧ (vm_F ci).1 = (vm_y j0).cls) ∨ (kind ≠ 0 ∧ op = 2)), (j0, vR rr :: as0, rest1) = (j', as, rest) → W p l e R s m args below meth c H locs cells slots Q (F0 m pc LS ((as0.reverse ++ (.inr (.inr (.inl rr)) :: rest1) : List vV).map (vm_cv b ad))) := by
                  intro hop hj'
                  cases hj'
                  have hasok : ∀ v ∈ vR rr :: as0, vm_ok S.length v := fun v hv => by
                    rcases List.mem_cons.mp hv with rfl | hv
                    · exact rel.2.2.2.2.1 _ (List.mem_append_right _ List.mem_cons_self)
                    · exact rel.2.2.2.2.1 v (List.mem_append_left _ (List.mem_reverse.mpr hv))
                  have hMm := hM j' (vR rr :: as0) S M r S1 M1 hj ho hg.1 hg.2 rel.2.2.2.1 hasok ad
                  have hmap : (vR rr :: as0).map (vm_cv b ad) = .ref (ad rr.toNat) :: as0.map (vm_cv b ad) := by rw [List.map_cons, vm_cv_ref hr0]
                  have hpre : ∀ U : State, U.heap = H → s.WarmedH U.vm → va_Pc ((vR rr :: as0).map (vm_cv b ad)) (vm_B dA D z b L xs ad S M) (Value.ref (ad rr.toNat) :: as0.map (vm_cv b ad)).toArray U := fun U hU hW => by
                    have := vm_pre (as := vR rr :: as0) CC rel U hU hW
                    rw [hmap] at this
                    rw [hmap]
                    exact this
                  have hmon : ∀ X : List Value, 2 * (F0 m pc LS X).monitorRoom + ((rest.map (vm_cv b ad)).map fun v => v.category).sum ≤ 8 := fun X => by rw [vm_cats_E, show (F0 m pc LS X).monitorRoom = 0 from rfl]; omega
                  have hstk : (as0.reverse ++ vR rr :: rest).map (vm_cv b ad) = (as0.map (vm_cv b ad)).reverse ++ .ref (ad rr.toNat) :: rest.map (vm_cv b ad) := by rw [List.map_append, List.map_reverse, List.map_cons, vm_cv_ref hr0]
                  have hsub : ∀ v ∈ rest, v ∈ as0.reverse ++ vR rr :: rest := fun v hv => List.mem_append_right _ (List.mem_cons_of_mem _ hv)
                  rcases hop with ⟨rfl, rfl, ci, hs, hci, hcn⟩ | ⟨hk0, rfl⟩
                  · subst hi0
                    rw [if_neg (by omega), decide_eq_true_eq] at w1
                    rw [if_pos rfl, decide_eq_true_eq] at w3
                    obtain ⟨f1, f2, f3, f4, f5, f6⟩ := vm_F_ok hci
                    have hrec := va_recv g13 rel.1 f1 (vm_ws_at hs)
                    rw [hcn] at hrec
                    exact vm_tail (va_runV (C := (vm_y j').cls) ⟨g1, g2, g3, g4, g5⟩ hMm ⟨callB_of (rm := vm_rm d (S1.length - S.length) (vm_sz S1 - vm_sz S)) (mc := S1.length - S.length) (ms := vm_sz S1 - vm_sz S) (ws' := vm_tb) na g5 hG rfl rfl rfl (g5 _ m4) (g5 _ (vm_tb_of w1 (gw_4 _ _ _))) ⟨m5.1, m5.2, hna⟩ hRm, g5 _ (vm_tb_of w2 (gw_2 _)), g5 _ (vm_tb_ofL w3 (gw_3 _ _))⟩ ⟨vm_blind, hrec, hpre⟩ rfl (by rw [List.length_map]; exact hlen) (by rw [hnl] at hLS; exact hLS) hstk (hmon _) hd hf) rel hsub rfl rfl hg kk
                  · subst hi0
                    by_cases hk2 : kind = 2
                    · subst hk2
                      rw [if_neg (by omega), decide_eq_true_eq] at w1
                      simp only [true_or, if_true, Bool.and_eq_true, decide_eq_true_eq] at w4
                      have hcb := callB_of (rm := vm_rm d (S1.length - S.length) (vm_sz S1 - vm_sz S)) (mc := S1.length - S.length) (ms := vm_sz S1 - vm_sz S) (ws' := vm_tb) na g5 hG rfl rfl rfl (g5 _ m4) (g5 _ (vm_tb_of w1 (gw_4 _ _ _))) ⟨m5.1, m5.2, hna⟩ hRm
                      rw [w4.2] at hcb
                      exact vm_tail (va_runI ⟨g1, g2, g3, g4, g5⟩ hMm ⟨hcb, w4.1, g5 _ (vm_tb_of w2 (gw_2 _))⟩ ⟨vm_blind, hpre⟩ rfl (by rw [List.length_map]; exact hlen) (by rw [hnl] at hLS; exact hLS) hstk (hmon _) hd hf) rel hsub rfl rfl hg kk
                    · by_cases hk4 : kind = 4
                      · subst hk4
                        rw [if_pos (Or.inr rfl), decide_eq_true_eq] at w1
                        simp only [or_true, if_true, Bool.and_eq_true, decide_eq_true_eq] at w4
                        have hcb := va_cnB (rm := vm_rm d (S1.length - S.length) (vm_sz S1 - vm_sz S)) (mc := S1.length - S.length) (ms := vm_sz S1 - vm_sz S) (ws' := vm_tb) na g5 hG rfl rfl rfl (g12.1 _ _ _ (vm_at_in w1)) (g5 _ m4) ⟨m5.1, m5.2, hna⟩ hRm
                        rw [w4.2] at hcb
                        exact vm_tail (va_runIN ⟨g1, g2, g3, g4, g5⟩ hMm ⟨hcb, w4.1, g5 _ (vm_tb_of w2 (gw_2 _))⟩ ⟨vm_blind, hpre⟩ rfl (by rw [List.length_map]; exact hlen) (by rw [hnl] at hLS; exact hLS) hstk (hmon _) hd hf) rel hsub rfl rfl hg kk
                      · exact absurd (vm_kind_ok hlk) (by omega)
                split at h
                · next hk0 =>
                  split at h
                  · next ci hs =>
                    split at h
                    · next hc2 =>
                      injection h with h
                      injection h with h
                      injection h with h
                      exact key (Or.inl ⟨hk0, hc2.1, ci, hs, hc2.2.1, hc2.2.2⟩) h
                    · cases h
                  · cases h
                · next hk0 =>
                  split at h
                  · next hc2 =>
                    injection h with h
                    injection h with h
                    injection h with h
                    exact key (Or.inr ⟨hk0, hc2⟩) h
                  · cases h
              · cases h
            · cases h
        · cases h
  · cases h
end SIMG
