/-! THE SMALL MACHINE AND THE REAL ONE: arrays -/
section SIMC
variable {p : Program} {l : Launch} {e : Env} {R : Room} {s : State} {m : MethodId} {args : Array Value} {below : List Frame} {meth : Method} {c : Code} {H : Heap} {locs : List Loc} {cells slots : Nat} {Q : State → Prop} {dA : Nat → ClassId} {D : va_G} {z b L : Nat} {xs : Nat → Int} {nl n0 z0 : Nat} {ad : Nat → Nat} {LS : Array Slot} {ls st ls' st' : List vV} {S S1 : List vSh} {M M1 : vM} {j pc pc' : Nat}
theorem vm_ty_arr (u n k : Nat) : vm_ty (.inr (u, n)) k = vm_ty (.inr (u, n)) 0 := by
  rcases u with _ | _ | _ | u <;> rfl
theorem vm_tys_at {u : Nat} (h : u < 6) : (vm_tys dA)[u]? = some (dA u, vm_tyn u) := by
  rcases (show u = 0 ∨ u = 1 ∨ u = 2 ∨ u = 3 ∨ u = 4 ∨ u = 5 by omega) with rfl | rfl | rfl | rfl | rfl | rfl <;> rfl
theorem vm_s_ald {t t' : Nat} (ht : t < 3) (htt : t' = t) {i0 : Instr} (hi0 : i0 = (match t with | 0 => .iaload | 1 => .laload | _ => .baload)) (C : vm_Cx dA D z b L xs p s m args meth c j) (hd : decode (vm_cd j) pc = .ok (i0, 1)) (h : vm_ald t t' xs L pc ls st (S, M) = some (.inr (.inr (pc', ls', st', (S1, M1))))) (rel : vm_Rl dA D z b s nl n0 z0 ad S M ls st H locs LS cells slots) (kk : ∀ (ad1 : Nat → Nat) (H1 : Heap) (locs1 : List Loc) (LS1 : Array Slot) (cells1 slots1 : Nat), (∀ i : Nat, i < S.length → ad1 i = ad i) → vm_Rl dA D z b s nl n0 z0 ad1 S1 M1 ls' st' H1 locs1 LS1 cells1 slots1 → W p l e R s m args below meth c H1 locs1 cells1 slots1 Q (F0 m pc' LS1 (st'.map (vm_cv b ad1)))) : W p l e R s m args below meth c H locs cells slots Q (F0 m pc LS (st.map (vm_cv b ad))) := by
  obtain ⟨g1, g2, g3, g4, g5, g6, g7, g8, g9, g10, g11, g12, g13, g14, g15⟩ := C
  subst htt
  unfold vm_ald at h
  split at h
  · next i r rest =>
    have hi : (Int32.ofInt i).toInt = i := rel.2.2.2.2.1 _ List.mem_cons_self
    split at h
    · next hr =>
      subst hr
      split at h
      · next hc =>
        obtain ⟨ht0, h0, h1⟩ := hc
        subst ht0
        obtain ⟨rfl, rfl, rfl, h⟩ := vm_nx_in h
        cases h
        subst hi0
        obtain ⟨e1, e2⟩ := vm_ix hi h0 h1
        have k1 := kk ad H locs LS cells slots (fun _ _ => rfl) (vm_Rl_st rel (fun w hw => by
          rcases List.mem_cons.mp hw with rfl | hw
          · exact g14 _ (by omega)
          · exact rel.2.2.2.2.1 w (List.mem_cons_of_mem _ (List.mem_cons_of_mem _ hw))))
        refine va_sld g1 g2 g9 (Nat.lt_of_lt_of_le g10 g11) (Nat.not_le.mpr g10) rel.2.2.1 e1 hd ?_
        rw [e2]
        exact k1
      · cases h
    · next hr =>
      split at h
      · next a u n ha =>
        split at h
        · next hc =>
          obtain ⟨hu, h0, h1⟩ := hc
          have hu : u = t' := by rcases hu with q | q <;> exact q
          subst hu
          obtain ⟨rfl, rfl, rfl, h⟩ := vm_nx_in h
          cases h
          obtain ⟨hr0, ra, hs⟩ := vm_ar_in ha
          subst ra
          obtain ⟨e1, e2⟩ := vm_ix hi h0 h1
          have hm := rel.2.2.2.1 _ _ i.toNat hs
          have k1 := kk ad H locs LS cells slots (fun _ _ => rfl) (vm_Rl_st rel (fun w hw => by
            rcases List.mem_cons.mp hw with rfl | hw
            · rw [vm_ty_arr] at hm
              exact vm_mk_ok hm
            · exact rel.2.2.2.2.1 w (List.mem_cons_of_mem _ (List.mem_cons_of_mem _ hw))))
          show W p l e R s m args below meth c H locs cells slots Q (F0 m pc LS (.int (Int32.ofInt i) :: vm_cv b ad (vR r) :: rest.map (vm_cv b ad)))
          rw [vm_cv_ref hr0]
          rcases (show u = 0 ∨ u = 1 ∨ u = 2 by omega) with rfl | rfl | rfl
          · subst hi0
            refine va_iald (tys := vm_tys dA) g1 g2 g13 rel.1 r.toNat 0 (vm_ws_at hs) rfl e1 hd ?_
            rw [e2]
            exact k1
          · subst hi0
            refine va_lald (tys := vm_tys dA) g1 g2 g13 rel.1 r.toNat 1 (vm_ws_at hs) rfl e1 hd ?_
            rw [e2]
            exact k1
          · subst hi0
            refine va_bald (tys := vm_tys dA) g1 g2 g13 rel.1 r.toNat 2 (vm_ws_at hs) rfl e1 hd ?_
            rw [e2]
            exact k1
        · cases h
      · cases h
  · cases h
theorem vm_s_aald (C : vm_Cx dA D z b L xs p s m args meth c j) (hd : decode (vm_cd j) pc = .ok (.aaload, 1)) (h : vm_aald pc ls st (S, M) = some (.inr (.inr (pc', ls', st', (S1, M1))))) (rel : vm_Rl dA D z b s nl n0 z0 ad S M ls st H locs LS cells slots) (kk : ∀ (ad1 : Nat → Nat) (H1 : Heap) (locs1 : List Loc) (LS1 : Array Slot) (cells1 slots1 : Nat), (∀ i : Nat, i < S.length → ad1 i = ad i) → vm_Rl dA D z b s nl n0 z0 ad1 S1 M1 ls' st' H1 locs1 LS1 cells1 slots1 → W p l e R s m args below meth c H1 locs1 cells1 slots1 Q (F0 m pc' LS1 (st'.map (vm_cv b ad1)))) : W p l e R s m args below meth c H locs cells slots Q (F0 m pc LS (st.map (vm_cv b ad))) := by
  obtain ⟨g1, g2, g3, g4, g5, g6, g7, g8, g9, g10, g11, g12, g13, g14, g15⟩ := C
  unfold vm_aald at h
  split at h
  · next i r rest =>
    have hi : (Int32.ofInt i).toInt = i := rel.2.2.2.2.1 _ List.mem_cons_self
    split at h
    · next a u n ha =>
      split at h
      · next hc =>
        obtain ⟨hu, h0, h1⟩ := hc
        obtain ⟨rfl, rfl, rfl, h⟩ := vm_nx_in h
        cases h
        obtain ⟨hr0, ra, hs⟩ := vm_ar_in ha
        subst ra
        obtain ⟨e1, e2⟩ := vm_ix hi h0 h1
        have hm : vm_mk S.length 2 (M r.toNat i.toNat) := by
          have := rel.2.2.2.1 _ _ i.toNat hs
          rcases hu with rfl | rfl | rfl <;> exact this
        have hm' : -1 ≤ M r.toNat i.toNat ∧ M r.toNat i.toNat < S.length := hm
        have k1 := kk ad H locs LS cells slots (fun _ _ => rfl) (vm_Rl_st rel (fun w hw => by
          rcases List.mem_cons.mp hw with rfl | hw
          · exact vm_mk_ok hm
          · exact rel.2.2.2.2.1 w (List.mem_cons_of_mem _ (List.mem_cons_of_mem _ hw))))
        show W p l e R s m args below meth c H locs cells slots Q (F0 m pc LS (.int (Int32.ofInt i) :: vm_cv b ad (vR r) :: rest.map (vm_cv b ad)))
        rw [vm_cv_ref hr0]
        have hlt : (Int32.ofInt i).toNatClampNeg < n := by rw [e2]; omega
        have kx : W p l e R s m args below meth c H locs cells slots Q (F0 m (pc + 1) LS (va_rf (vm_ro ad (M r.toNat i.toNat)) :: rest.map (vm_cv b ad))) := by
          rw [← vm_cv_rf (b := b) (ad := ad) (show M r.toNat i.toNat ≠ -2 by omega)]
          exact k1
        have hat := rel.1 r.toNat _ (vm_ws_at hs)
        rcases hu with rfl | rfl | rfl
        · refine W.aald (v := va_rf (vm_ro ad (M r.toNat i.toNat))) (ty := .array .int) g1 g2 hat ((g13.2 3 _ rfl).1 n (fun j => va_rf (vm_ro ad (M r.toNat j)))) rfl (fun q => by cases q) (by show ¬ (Int32.ofInt i < 0 ∨ (arrV _ _ _).slots.size ≤ _); rw [arrV_size]; exact e1) (by show (arrV _ _ _).slots[_]? = _; rw [arrV_read _ _ hlt, e2]) rfl rfl hd kx
        · refine W.aald (v := va_rf (vm_ro ad (M r.toNat i.toNat))) (ty := .array .long) g1 g2 hat ((g13.2 4 _ rfl).1 n (fun j => va_rf (vm_ro ad (M r.toNat j)))) rfl (fun q => by cases q) (by show ¬ (Int32.ofInt i < 0 ∨ (arrV _ _ _).slots.size ≤ _); rw [arrV_size]; exact e1) (by show (arrV _ _ _).slots[_]? = _; rw [arrV_read _ _ hlt, e2]) rfl rfl hd kx
        · refine W.aald (v := va_rf (vm_ro ad (M r.toNat i.toNat))) (ty := .array .byte) g1 g2 hat ((g13.2 5 _ rfl).1 n (fun j => va_rf (vm_ro ad (M r.toNat j)))) rfl (fun q => by cases q) (by show ¬ (Int32.ofInt i < 0 ∨ (arrV _ _ _).slots.size ≤ _); rw [arrV_size]; exact e1) (by show (arrV _ _ _).slots[_]? = _; rw [arrV_read _ _ hlt, e2]) rfl rfl hd kx
      · cases h
    · cases h
  · cases h
theorem vm_s_len (C : vm_Cx dA D z b L xs p s m args meth c j) (hd : decode (vm_cd j) pc = .ok (.arraylength, 1)) (h : vm_len L pc ls st (S, M) = some (.inr (.inr (pc', ls', st', (S1, M1))))) (rel : vm_Rl dA D z b s nl n0 z0 ad S M ls st H locs LS cells slots) (kk : ∀ (ad1 : Nat → Nat) (H1 : Heap) (locs1 : List Loc) (LS1 : Array Slot) (cells1 slots1 : Nat), (∀ i : Nat, i < S.length → ad1 i = ad i) → vm_Rl dA D z b s nl n0 z0 ad1 S1 M1 ls' st' H1 locs1 LS1 cells1 slots1 → W p l e R s m args below meth c H1 locs1 cells1 slots1 Q (F0 m pc' LS1 (st'.map (vm_cv b ad1)))) : W p l e R s m args below meth c H locs cells slots Q (F0 m pc LS (st.map (vm_cv b ad))) := by
  obtain ⟨g1, g2, g3, g4, g5, g6, g7, g8, g9, g10, g11, g12, g13, g14, g15⟩ := C
  have en : ∀ n : Nat, Int32.ofInt (n : Int) = Int32.ofNat n := fun n => rfl
  unfold vm_len at h
  split at h
  · next r rest =>
    split at h
    · next hr =>
      subst hr
      obtain ⟨rfl, rfl, rfl, h⟩ := vm_nx_in h
      cases h
      have k1 := kk ad H locs LS cells slots (fun _ _ => rfl) (vm_Rl_st rel (fun w hw => by
        rcases List.mem_cons.mp hw with rfl | hw
        · exact vm_small (by omega) (by omega)
        · exact rel.2.2.2.2.1 w (List.mem_cons_of_mem _ hw)))
      exact va_slen g1 g2 g9 (Nat.lt_of_lt_of_le g10 g11) (Nat.not_le.mpr g10) rel.2.2.1 hd k1
    · split at h
      · next a u n ha =>
        split at h
        · next hn =>
          obtain ⟨rfl, rfl, rfl, h⟩ := vm_nx_in h
          cases h
          obtain ⟨hr0, ra, hs⟩ := vm_ar_in ha
          subst ra
          have k1 := kk ad H locs LS cells slots (fun _ _ => rfl) (vm_Rl_st rel (fun w hw => by
            rcases List.mem_cons.mp hw with rfl | hw
            · exact vm_small (by omega) (by omega)
            · exact rel.2.2.2.2.1 w (List.mem_cons_of_mem _ hw)))
          show W p l e R s m args below meth c H locs cells slots Q (F0 m pc LS (vm_cv b ad (vR r) :: rest.map (vm_cv b ad)))
          rw [vm_cv_ref hr0]
          exact va_alen (tys := vm_tys dA) g1 g2 g13 rel.1 r.toNat u (vm_ws_at hs) (vm_tys_at hn.2) (v := Int32.ofInt n) rfl hd k1
        · cases h
      · cases h
  · cases h
theorem vm_s_asti {t : Nat} (ht : t = 0 ∨ t = 2) {i0 : Instr} (hi0 : i0 = (match t with | 0 => .iastore | _ => .bastore)) (C : vm_Cx dA D z b L xs p s m args meth c j) (hd : decode (vm_cd j) pc = .ok (i0, 1)) (h : vm_asti t pc ls st (S, M) = some (.inr (.inr (pc', ls', st', (S1, M1))))) (rel : vm_Rl dA D z b s nl n0 z0 ad S M ls st H locs LS cells slots) (kk : ∀ (ad1 : Nat → Nat) (H1 : Heap) (locs1 : List Loc) (LS1 : Array Slot) (cells1 slots1 : Nat), (∀ i : Nat, i < S.length → ad1 i = ad i) → vm_Rl dA D z b s nl n0 z0 ad1 S1 M1 ls' st' H1 locs1 LS1 cells1 slots1 → W p l e R s m args below meth c H1 locs1 cells1 slots1 Q (F0 m pc' LS1 (st'.map (vm_cv b ad1)))) : W p l e R s m args below meth c H locs cells slots Q (F0 m pc LS (st.map (vm_cv b ad))) := by
  obtain ⟨g1, g2, g3, g4, g5, g6, g7, g8, g9, g10, g11, g12, g13, g14, g15⟩ := C
  unfold vm_asti at h
  split at h
  · next x i r rest =>
    have hi : (Int32.ofInt i).toInt = i := rel.2.2.2.2.1 _ (List.mem_cons_of_mem _ List.mem_cons_self)
    have hx : (Int32.ofInt x).toInt = x := rel.2.2.2.2.1 _ List.mem_cons_self
    split at h
    · next a u n ha =>
      split at h
      · next hc =>
        obtain ⟨rfl, h0, h1⟩ := hc
        obtain ⟨rfl, rfl, rfl, h⟩ := vm_nx_in h
        cases h
        obtain ⟨hr0, ra, hs⟩ := vm_ar_in ha
        subst ra
        obtain ⟨e1, e2⟩ := vm_ix hi h0 h1
        show W p l e R s m args below meth c H locs cells slots Q (F0 m pc LS (.int (Int32.ofInt x) :: .int (Int32.ofInt i) :: vm_cv b ad (vR r) :: st'.map (vm_cv b ad)))
        rw [vm_cv_ref hr0]
        have hsub : ∀ w ∈ st', w ∈ (Sum.inl x :: Sum.inl i :: Sum.inr (Sum.inr (Sum.inl r)) :: st' : List vV) := fun w hw => List.mem_cons_of_mem _ (List.mem_cons_of_mem _ (List.mem_cons_of_mem _ hw))
        rcases ht with rfl | rfl
        · subst hi0
          refine va_iast (tys := vm_tys dA) g1 g2 g13 rel.1 rel.2.1 rel.2.2.1 r.toNat 0 (vm_ws_at hs) rfl e1 hd (fun H1 locs1 hP hD hS => kk ad H1 locs1 LS cells slots (fun _ _ => rfl) (vm_Rl_up rel hs (show vm_mk S.length (vm_ty (.inr (0, n)) i.toNat) (if (0 : Nat) = 2 then _ else x) from hx) ?_ hsub hP hD hS))
          rw [vm_up_a, e2]
          show _ = (Sum.inl (dA 0, n, vm_pa ad 0 _) : va_E)
          refine congrArg (fun f => (Sum.inl (dA 0, n, .inl f) : va_E)) (funext fun q => ?_)
          show upd _ _ _ q = _
          unfold upd
          by_cases eq : q = i.toNat <;> simp [eq]
        · subst hi0
          refine va_bast (tys := vm_tys dA) g1 g2 g13 rel.1 rel.2.1 rel.2.2.1 r.toNat 2 (vm_ws_at hs) rfl e1 hd (fun H1 locs1 hP hD hS => kk ad H1 locs1 LS cells slots (fun _ _ => rfl) (vm_Rl_up rel hs (show vm_mk S.length 4 (if (2 : Nat) = 2 then (Int32.ofInt x).toInt8.toInt32.toInt else x) from ?_) ?_ hsub hP hD hS))
          · rw [if_pos rfl, Int8.toInt_toInt32]
            have q1 := Int8.le_toInt (Int32.ofInt x).toInt8
            have q2 := Int8.toInt_lt (Int32.ofInt x).toInt8
            exact ⟨by omega, by omega⟩
          · rw [vm_up_a, e2]
            show _ = (Sum.inl (dA 2, n, vm_pa ad 2 _) : va_E)
            refine congrArg (fun f => (Sum.inl (dA 2, n, .inl f) : va_E)) (funext fun q => ?_)
            show upd _ _ _ q = _
            unfold upd
            by_cases eq : q = i.toNat
            · simp only [eq, if_pos, vp_nar_byte, Int32.ofInt_toInt]
            · simp [eq]
      · cases h
    · cases h
  · cases h
theorem vm_s_astl (C : vm_Cx dA D z b L xs p s m args meth c j) (hd : decode (vm_cd j) pc = .ok (.lastore, 1)) (h : vm_astl pc ls st (S, M) = some (.inr (.inr (pc', ls', st', (S1, M1))))) (rel : vm_Rl dA D z b s nl n0 z0 ad S M ls st H locs LS cells slots) (kk : ∀ (ad1 : Nat → Nat) (H1 : Heap) (locs1 : List Loc) (LS1 : Array Slot) (cells1 slots1 : Nat), (∀ i : Nat, i < S.length → ad1 i = ad i) → vm_Rl dA D z b s nl n0 z0 ad1 S1 M1 ls' st' H1 locs1 LS1 cells1 slots1 → W p l e R s m args below meth c H1 locs1 cells1 slots1 Q (F0 m pc' LS1 (st'.map (vm_cv b ad1)))) : W p l e R s m args below meth c H locs cells slots Q (F0 m pc LS (st.map (vm_cv b ad))) := by
  obtain ⟨g1, g2, g3, g4, g5, g6, g7, g8, g9, g10, g11, g12, g13, g14, g15⟩ := C
  unfold vm_astl at h
  split at h
  · next x i r rest =>
    have hi : (Int32.ofInt i).toInt = i := rel.2.2.2.2.1 _ (List.mem_cons_of_mem _ List.mem_cons_self)
    have hx : (Int64.ofInt x).toInt = x := rel.2.2.2.2.1 _ List.mem_cons_self
    split at h
    · next a u n ha =>
      split at h
      · next hc =>
        obtain ⟨rfl, h0, h1⟩ := hc
        obtain ⟨rfl, rfl, rfl, h⟩ := vm_nx_in h
        cases h
        obtain ⟨hr0, ra, hs⟩ := vm_ar_in ha
        subst ra
        obtain ⟨e1, e2⟩ := vm_ix hi h0 h1
        show W p l e R s m args below meth c H locs cells slots Q (F0 m pc LS (.long (Int64.ofInt x) :: .int (Int32.ofInt i) :: vm_cv b ad (vR r) :: st'.map (vm_cv b ad)))
        rw [vm_cv_ref hr0]
        refine va_last (tys := vm_tys dA) g1 g2 g13 rel.1 rel.2.1 rel.2.2.1 r.toNat 1 (vm_ws_at hs) rfl e1 hd (fun H1 locs1 hP hD hS => kk ad H1 locs1 LS cells slots (fun _ _ => rfl) (vm_Rl_up rel hs (show vm_mk S.length (vm_ty (.inr (1, n)) i.toNat) x from hx) ?_ (fun w hw => List.mem_cons_of_mem _ (List.mem_cons_of_mem _ (List.mem_cons_of_mem _ hw))) hP hD hS))
        rw [vm_up_a, e2]
        show _ = (Sum.inl (dA 1, n, vm_pa ad 1 _) : va_E)
        refine congrArg (fun f => (Sum.inl (dA 1, n, .inr (.inl f)) : va_E)) (funext fun q => ?_)
        by_cases eq : q = i.toNat <;> simp [eq, vp_updL]
      · cases h
    · cases h
  · cases h
end SIMC
