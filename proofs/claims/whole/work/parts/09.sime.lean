/-! THE SMALL MACHINE AND THE REAL ONE: arrays of arrays, copies, Object.<init>, one step -/
section SIME
variable {p : Program} {l : Launch} {e : Env} {R : Room} {s : State} {m : MethodId} {args : Array Value} {below : List Frame} {meth : Method} {c : Code} {H : Heap} {locs : List Loc} {cells slots : Nat} {Q : State → Prop} {dA : Nat → ClassId} {D : va_G} {z b L : Nat} {xs : Nat → Int} {nl n0 z0 : Nat} {ad ad1 : Nat → Nat} {LS : Array Slot} {ls st ls' st' : List vV} {S S1 : List vSh} {M M1 : vM} {j pc pc' : Nat}
theorem vm_newm_o {a N q : Nat} (h : q < a) : vm_newm M a N q = M q := by
  funext k
  unfold vm_newm
  rw [if_neg (by omega), if_neg (by omega)]
theorem vm_newm_a {a N : Nat} : vm_newm M a N a = fun k => if k < N then ((a + 1 + k : Nat) : Int) else -1 := by
  funext k
  simp [vm_newm]
theorem vm_newm_i {a N i : Nat} (h : i < N) : vm_newm M a N (a + (i + 1)) = fun _ => 0 := by
  funext k
  unfold vm_newm
  rw [if_neg (by omega), if_pos (by omega)]
theorem vm_s_newn {idx d : Nat} (C : vm_Cx dA D z b L xs p s m args meth c j) (hd : decode (vm_cd j) pc = .ok (.multianewarray idx d, 4)) (h : vm_newn (vm_own j) pc idx d ls st (S, M) = some (.inr (.inr (pc', ls', st', (S1, M1))))) (rel : vm_Rl dA D z b s nl n0 z0 ad S M ls st H locs LS cells slots) (hroom : S1.length ≤ n0 + R.cells ∧ vm_sz S1 ≤ z0 + R.slots) (kk : ∀ (ad1 : Nat → Nat) (H1 : Heap) (locs1 : List Loc) (LS1 : Array Slot) (cells1 slots1 : Nat), (∀ i : Nat, i < S.length → ad1 i = ad i) → vm_Rl dA D z b s nl n0 z0 ad1 S1 M1 ls' st' H1 locs1 LS1 cells1 slots1 → W p l e R s m args below meth c H1 locs1 cells1 slots1 Q (F0 m pc' LS1 (st'.map (vm_cv b ad1)))) : W p l e R s m args below meth c H locs cells slots Q (F0 m pc LS (st.map (vm_cv b ad))) := by
  obtain ⟨g1, g2, g3, g4, g5, g6, g7, g8, g9, g10, g11, g12, g13, g14, g15⟩ := C
  unfold vm_newn at h
  split at h
  · next k n rest t w hlk =>
    obtain ⟨i1, i2, i3⟩ := w
    split at h
    · next hc =>
      obtain ⟨rfl, hn0, hn1, hk0, hk1⟩ := hc
      obtain ⟨rfl, rfl, rfl, h⟩ := vm_nx_in h
      cases h
      have hp := List.all_eq_true.mp vm_mn_all _ (vm_lookup hlk)
      simp only [vm_mnP, Bool.and_eq_true, decide_eq_true_eq] at hp
      obtain ⟨⟨⟨ht3, ht6⟩, w1⟩, w3⟩ := hp
      have hik : (Int32.ofInt k).toInt = k := rel.2.2.2.2.1 _ List.mem_cons_self
      have hin : (Int32.ofInt n).toInt = n := rel.2.2.2.2.1 _ (List.mem_cons_of_mem _ List.mem_cons_self)
      have c1 := rel.2.2.2.2.2.2.2.1
      have c2 := rel.2.2.2.2.2.2.2.2.1
      have zr : (0 : Int32).toInt = 0 := rfl
      have hszr : vm_sz (List.replicate n.toNat (.inr (t - 3, k.toNat) : vSh)) = n.toNat * k.toNat := by
        simp [vm_sz, vm_size]
      have r1 : S.length + 1 + n.toNat ≤ n0 + R.cells := by
        have := hroom.1
        rw [List.length_append, List.length_append, List.length_replicate] at this
        exact this
      have r2 : vm_sz S + n.toNat + n.toNat * k.toNat ≤ z0 + R.slots := by
        have := hroom.2
        rw [vm_sz_app, vm_sz_app, hszr] at this
        simpa [vm_sz, vm_size] using this
      have hN : (Int32.ofInt n).toNatClampNeg = n.toNat := by
        show (Int32.ofInt n).toInt.toNat = _
        rw [hin]
      have hK' : (Int32.ofInt k).toNatClampNeg = k.toNat := by
        show (Int32.ofInt k).toInt.toNat = _
        rw [hik]
      have inj : ∀ (x : String) (a a' : ClassId), s.vm.findClass x = some a → s.vm.findClass x = some a' → a = a' := fun x a a' h1 h2 => Option.some.inj (h1.symm.trans h2)
      have fin : ∀ (ty : FieldType), vm_tyn t = .array ty → vm_tyn (t - 3) = ty → t - 3 < 3 → vm_AOA ty s → (∀ a : ClassId, va_RA s a ty → s.vm.findClass (FieldType.array ty).toString = some a) → componentBytes ty ≤ 8 → fits ty (defaultValue ty) = true → (defaultValue ty).isDefault = true → (∀ c : ClassId, Jvm.Free.Multi.innerC c k.toNat (defaultValue ty) = vp_cell c (k.toNat, vm_pa ad (t - 3) (fun _ => 0))) → (∀ a a' : ClassId, va_RA s a (.array ty) → va_RA s a' (.array ty) → a = a') → (∀ (ad1 : Nat → Nat), vm_pa ad1 (t - 3) (fun _ => 0) = vm_pa ad (t - 3) (fun _ => 0)) → (∀ (ad1 : Nat → Nat) (m0 : Nat → Int), vm_pa ad1 t m0 = .inr (.inr (.inr (.inr (fun j => vm_ro ad1 (m0 j)))))) → W p l e R s m args below meth c H locs cells slots Q (F0 m pc LS ((Sum.inl k :: Sum.inl n :: rest : List vV).map (vm_cv b ad))) := by
        intro ty e1 e2 ht hao hcy hcb hf1 hf2 hz huq hpa hpt
        have hts1 := g13.2 t _ (vm_tys_at ht6)
        have hts2 := g13.2 (t - 3) _ (vm_tys_at (by omega))
        rw [e1] at hts1
        rw [e2] at hts2
        refine va_mna (X := vm_ws dA ad S M) (L := []) (f := fun _ => .inr (0, [])) (tys := vm_tys dA) (z := (k.toNat, vm_pa ad (t - 3) (fun _ => 0))) g1 g2 (ty := ty) (cy := dA (t - 3)) g4 (g5 _ (vm_tb_of (by rw [← e1]; exact w1) rfl)) hao (g5 _ (by have := vm_tb_of w3 rfl; rw [e2] at this; exact this)) (hcy _ hts2.2) g13 (by simpa [va_pl] using rel.1) (by simpa [va_pl] using rel.2.1) rel.2.2.1 (fun q hq => Nat.le_trans g11 hq) (by rw [Int32.lt_iff_toInt_lt, hin]; omega) (by rw [Int32.lt_iff_toInt_lt, hik]; omega) hN hK' (by omega) ?_ (by omega) hf1 hf2 (by omega) (by omega) hz hd ?_
        · have : k.toNat * componentBytes ty ≤ 4096 * 8 := Nat.mul_le_mul (by omega) hcb
          omega
        · intro q r cA H1 hinj hnm hKx hP hD hS
          have hcA : cA = dA t := huq cA (dA t) (hKx.2 6 (cA, .array ty) rfl).2 hts1.2
          subst hcA
          have hpl : va_pl ([] ++ (List.range n.toNat).map r) (vr_up (fun _ => (.inr (0, []) : va_E)) ((List.range n.toNat).map r) (.inl (dA (t - 3), (k.toNat, vm_pa ad (t - 3) (fun _ => 0))))) = ((List.range n.toNat).map r).map (fun a => (a, (.inl (dA (t - 3), (k.toNat, vm_pa ad (t - 3) (fun _ => 0))) : va_E))) := by
            unfold va_pl
            rw [List.nil_append]
            exact List.map_congr_left fun a ha => by rw [vr_up_in ha]
          rw [hpl, List.append_assoc] at hP hD
          have hag : ∀ i : Nat, i < S.length → (fun i => if i < S.length then ad i else if i = S.length then q else r (i - S.length - 1)) i = ad i := fun i hi => if_pos hi
          generalize had : (fun i => if i < S.length then ad i else if i = S.length then q else r (i - S.length - 1)) = ad1 at hag
          have ha0 : ad1 S.length = q := by rw [← had]; simp
          have ha1 : ∀ i, ad1 (S.length + (i + 1)) = r i := fun i => by
            rw [← had]
            show (if S.length + (i + 1) < S.length then _ else if S.length + (i + 1) = S.length then q else r (S.length + (i + 1) - S.length - 1)) = r i
            rw [if_neg (by omega), if_neg (by omega), show S.length + (i + 1) - S.length - 1 = i by omega]
          have hE0 : ∀ (i : Nat) (sh : vSh), ([(Sum.inr (t, n.toNat) : vSh)] ++ List.replicate n.toNat (.inr (t - 3, k.toNat) : vSh))[i]? = some sh → (i = 0 ∧ sh = .inr (t, n.toNat)) ∨ ∃ i', i = i' + 1 ∧ i' < n.toNat ∧ sh = .inr (t - 3, k.toNat) := by
            intro i sh hi
            rcases i with _ | i'
            · cases hi; exact Or.inl ⟨rfl, rfl⟩
            · right
              rw [List.getElem?_append_right (by simp)] at hi
              have h2 : (List.replicate n.toNat (.inr (t - 3, k.toNat) : vSh))[i']? = some sh := hi
              rw [List.getElem?_replicate] at h2
              split at h2
              · next hlt => cases h2; exact ⟨i', rfl, hlt, rfl⟩
              · cases h2
          have hw : vm_ws dA ad1 (S ++ ([(Sum.inr (t, n.toNat) : vSh)] ++ List.replicate n.toNat (.inr (t - 3, k.toNat)))) (vm_newm M S.length n.toNat) = vm_ws dA ad S M ++ ([(q, .inl (dA t, n.toNat, .inr (.inr (.inr (.inr (fun i => if i < n.toNat then some (r i) else none))))))] ++ ((List.range n.toNat).map r).map (fun a => (a, (.inl (dA (t - 3), (k.toNat, vm_pa ad (t - 3) (fun _ => 0))) : va_E)))) := by
            refine vm_ws_app hag rel.2.2.2.1 (fun a ha => vm_newm_o ha) (by simp) (fun i sh hi => ?_)
            rcases hE0 i sh hi with ⟨rfl, rfl⟩ | ⟨i', rfl, hlt, rfl⟩
            · rw [Nat.add_zero, vm_newm_a, ha0]
              refine congrArg some (congrArg (Prod.mk q) (congrArg (fun y => (Sum.inl (dA t, n.toNat, y) : va_E)) ?_))
              rw [hpt]
              refine congrArg (fun f => (.inr (.inr (.inr (.inr f))) : ((Nat → Int32) ⊕ (Nat → Int64) ⊕ (Nat → UInt32) ⊕ (Nat → UInt64) ⊕ (Nat → Option Nat)))) (funext fun i => ?_)
              by_cases hi2 : i < n.toNat
              · rw [if_pos hi2, if_pos hi2]
                unfold vm_ro
                rw [if_neg (by omega), Int.toNat_natCast, show S.length + 1 + i = S.length + (i + 1) by omega, ha1]
              · rw [if_neg hi2, if_neg hi2]
                rfl
            · rw [vm_newm_i hlt, ha1, List.getElem?_append_right (by simp)]
              show (((List.range n.toNat).map r).map (fun a => (a, (.inl (dA (t - 3), (k.toNat, vm_pa ad (t - 3) (fun _ => 0))) : va_E))))[i']? = _
              rw [List.getElem?_map, List.getElem?_map, List.getElem?_range hlt]
              refine congrArg some (congrArg (Prod.mk (r i')) (congrArg (fun y => (Sum.inl (dA (t - 3), k.toNat, y) : va_E)) ?_))
              exact (hpa ad1).symm
          rw [← hw] at hP hD
          have hlen : (S ++ ([(Sum.inr (t, n.toNat) : vSh)] ++ List.replicate n.toNat (.inr (t - 3, k.toNat) : vSh))).length = S.length + 1 + n.toNat := by
            rw [List.length_append, List.length_append, List.length_replicate]
            simp only [List.length_cons, List.length_nil]
            omega
          have hr : vm_Rl dA D z b s nl n0 z0 ad1 (S ++ ([(Sum.inr (t, n.toNat) : vSh)] ++ List.replicate n.toNat (.inr (t - 3, k.toNat)))) (vm_newm M S.length n.toNat) ls' (vR (S.length : Nat) :: rest) H1 locs LS (cells + 1 + n.toNat) (slots + n.toNat + n.toNat * k.toNat) := by
            refine ⟨hP, hD, hS, vm_hok_app rel.2.2.2.1 (fun a ha => vm_newm_o ha) (fun i sh k' hi => ?_), fun v hv => ?_, fun v hv => vm_ok_mono (by omega) (rel.2.2.2.2.2.1 v hv), vm_LR_same hag rel.2.2.2.2.2.1 rel.2.2.2.2.2.2.1, by omega, ?_, rel.2.2.2.2.2.2.2.2.2⟩
            · rcases hE0 i sh hi with ⟨rfl, rfl⟩ | ⟨i', rfl, hlt, rfl⟩
              · have hty : vm_ty (.inr (t, n.toNat)) k' = 2 := by
                  rcases (show t = 3 ∨ t = 4 ∨ t = 5 by omega) with rfl | rfl | rfl <;> rfl
                rw [Nat.add_zero, vm_newm_a, hty]
                show -1 ≤ (if k' < n.toNat then ((S.length + 1 + k' : Nat) : Int) else -1) ∧ (if k' < n.toNat then ((S.length + 1 + k' : Nat) : Int) else -1) < ((S ++ ([(Sum.inr (t, n.toNat) : vSh)] ++ List.replicate n.toNat (.inr (t - 3, k.toNat) : vSh))).length : Nat)
                rw [hlen]
                split <;> omega
              · rw [vm_newm_i hlt]
                rcases (show t = 3 ∨ t = 4 ∨ t = 5 by omega) with rfl | rfl | rfl
                · rfl
                · rfl
                · show -128 ≤ (0 : Int) ∧ (0 : Int) ≤ 127
                  omega
            · rcases List.mem_cons.mp hv with rfl | hv
              · show -2 ≤ (S.length : Int) ∧ (S.length : Int) < ((S ++ ([(Sum.inr (t, n.toNat) : vSh)] ++ List.replicate n.toNat (.inr (t - 3, k.toNat) : vSh))).length : Nat)
                rw [hlen]
                omega
              · exact vm_ok_mono (by omega) (rel.2.2.2.2.1 v (List.mem_cons_of_mem _ (List.mem_cons_of_mem _ hv)))
            · have e9 : vm_sz [(Sum.inr (t, n.toNat) : vSh)] = n.toNat := by simp [vm_sz, vm_size]
              rw [vm_sz_app, vm_sz_app, hszr, e9]
              omega
          rw [← List.append_assoc] at hr
          have k1 := kk ad1 H1 locs LS _ _ hag hr
          rw [List.map_cons, vm_map_same hag (fun v hv => rel.2.2.2.2.1 v (List.mem_cons_of_mem _ (List.mem_cons_of_mem _ hv))), vm_cv_ref (by omega)] at k1
          have e : Int.toNat ((((S, M) : vH).1.length : Nat) : Int) = S.length := Int.toNat_natCast _
          rw [e, ha0] at k1
          exact k1
      rcases (show t = 3 ∨ t = 4 ∨ t = 5 by omega) with rfl | rfl | rfl
      · exact fin .int rfl rfl (by omega) g12.2.1 (fun a h => h) (by decide) rfl rfl (fun c => by show ({ cls := c, slots := Array.replicate _ _, vm := .none } : Cell) = _; rw [arrV_new]; rfl) (fun a a' h1 h2 => inj _ _ _ h1 h2) (fun _ => rfl) (fun _ _ => rfl)
      · exact fin .long rfl rfl (by omega) g12.2.2.1 (fun a h => h) (by decide) rfl rfl (fun c => by show ({ cls := c, slots := Array.replicate _ _, vm := .none } : Cell) = _; rw [arrV_new]; rfl) (fun a a' h1 h2 => inj _ _ _ h1 h2) (fun _ => rfl) (fun _ _ => rfl)
      · exact fin .byte rfl rfl (by omega) g12.2.2.2 (fun a h => h) (by decide) rfl rfl (fun c => by show ({ cls := c, slots := Array.replicate _ _, vm := .none } : Cell) = _; rw [arrV_new]; rfl) (fun a a' h1 h2 => inj _ _ _ h1 h2) (fun _ => rfl) (fun _ _ => rfl)
    · cases h
  · cases h
/-- invoke, where it is no call: arraycopy, Object.<init> -/
theorem vm_s_inv {op idx : Nat} {i0 : Instr} (hi0 : i0 = (match op with | 0 => .invokevirtual idx | 1 => .invokestatic idx | _ => .invokespecial idx)) (C : vm_Cx dA D z b L xs p s m args meth c j) (hnl : nl = vm_mx j) (hR : 1 ≤ R.frames ∧ 64 ≤ R.locals) (hd : decode (vm_cd j) pc = .ok (i0, 3)) (h : vm_inv op (vm_own j) pc idx ls st (S, M) = some (.inr (.inr (pc', ls', st', (S1, M1))))) (rel : vm_Rl dA D z b s nl n0 z0 ad S M ls st H locs LS cells slots) (kk : ∀ (ad1 : Nat → Nat) (H1 : Heap) (locs1 : List Loc) (LS1 : Array Slot) (cells1 slots1 : Nat), (∀ i : Nat, i < S.length → ad1 i = ad i) → vm_Rl dA D z b s nl n0 z0 ad1 S1 M1 ls' st' H1 locs1 LS1 cells1 slots1 → W p l e R s m args below meth c H1 locs1 cells1 slots1 Q (F0 m pc' LS1 (st'.map (vm_cv b ad1)))) : W p l e R s m args below meth c H locs cells slots Q (F0 m pc LS (st.map (vm_cv b ad))) := by
  obtain ⟨g1, g2, g3, g4, g5, g6, g7, g8, g9, g10, g11, g12, g13, g14, g15⟩ := C
  have hLS : LS.size = nl := by rw [rel.2.2.2.2.2.2.1.1]; exact rel.2.2.2.2.2.2.2.2.2
  unfold vm_inv at h
  split at h
  · next kind j' na w hlk =>
    obtain ⟨i1, i2, i3, i4⟩ := w
    have hp := vm_ml_all (vm_lookup hlk)
    unfold vm_mlP at hp
    split at h
    · next hk =>
      subst hk
      split at h
      · next hop =>
        subst hop
        subst hi0
        split at h
        · next n dp d sp s0 rest =>
          split at h
          · next a n1 a' n2 ha ha' =>
            split at h
            · next hc =>
              obtain ⟨h1, h2, h3, h4, h5, h6⟩ := hc
              obtain ⟨rfl, rfl, rfl, h⟩ := vm_nx_in h
              cases h
              simp only [show ((6 : Nat) = 5) = False by simp, if_false, if_true, Bool.and_eq_true, decide_eq_true_eq] at hp
              obtain ⟨⟨⟨w1, w2⟩, w3⟩, w4⟩ := hp
              obtain ⟨hr0, ra, hs⟩ := vm_ar_in ha
              obtain ⟨hr0', ra', hs'⟩ := vm_ar_in ha'
              subst ra
              subst ra'
              have in_ : (Int32.ofInt n).toInt = n := rel.2.2.2.2.1 _ List.mem_cons_self
              have idp : (Int32.ofInt dp).toInt = dp := rel.2.2.2.2.1 _ (List.mem_cons_of_mem _ List.mem_cons_self)
              have isp : (Int32.ofInt sp).toInt = sp := rel.2.2.2.2.1 _ (List.mem_cons_of_mem _ (List.mem_cons_of_mem _ (List.mem_cons_of_mem _ List.mem_cons_self)))
              have zr : (0 : Int32).toInt = 0 := rfl
              have e1 : (Int32.ofInt n).toNatClampNeg = n.toNat := by
                show (Int32.ofInt n).toInt.toNat = _
                rw [in_]
              have e2 : (Int32.ofInt dp).toNatClampNeg = dp.toNat := by
                show (Int32.ofInt dp).toInt.toNat = _
                rw [idp]
              have e3 : (Int32.ofInt sp).toNatClampNeg = sp.toNat := by
                show (Int32.ofInt sp).toInt.toNat = _
                rw [isp]
              show W p l e R s m args below meth c H locs cells slots Q (F0 m pc LS (.int (Int32.ofInt n) :: .int (Int32.ofInt dp) :: vm_cv b ad (vR d) :: .int (Int32.ofInt sp) :: vm_cv b ad (vR s0) :: st'.map (vm_cv b ad)))
              rw [vm_cv_ref hr0, vm_cv_ref hr0']
              refine va_copyi (ty := .byte) (tys := vm_tys dA) g1 g2 (by rw [g3, hLS, hnl]) g4 (g5 _ (vm_tb_of w1 rfl)) (g5 _ (vm_tb_of w2 rfl)) (g5 _ (vm_tb_of w3 rfl)) (g5 _ (vm_tb_of w4 rfl)) g13 rel.1 rel.2.1 rel.2.2.1 s0.toNat d.toNat 2 2 (vm_ws_at hs) (vm_ws_at hs') rfl rfl rfl (by rw [Int32.lt_iff_toInt_lt, isp]; omega) (by rw [Int32.lt_iff_toInt_lt, idp]; omega) (by rw [Int32.lt_iff_toInt_lt, in_]; omega) (by rw [e1, e3]; omega) (by rw [e1, e2]; omega) ?_ hR.1 ?_ hd ?_
              · intro i hi
                have hm : -128 ≤ M s0.toNat ((Int32.ofInt sp).toNatClampNeg + i) ∧ M s0.toNat ((Int32.ofInt sp).toNatClampNeg + i) ≤ 127 := rel.2.2.2.1 _ _ ((Int32.ofInt sp).toNatClampNeg + i) hs
                show fits .byte (.int (Int32.ofInt (M s0.toNat ((Int32.ofInt sp).toNatClampNeg + i)))) = true
                generalize M s0.toNat ((Int32.ofInt sp).toNatClampNeg + i) = y at hm
                have ey : Int32.ofInt y = (Int32.ofInt y).toInt8.toInt32 := by
                  rw [← Int32.toInt_inj, Int8.toInt_toInt32, Int32.toInt_toInt8, vm_small (by omega) (by omega)]
                  exact (Int.bmod_eq_of_le (by omega) (by omega)).symm
                rw [ey]
                exact pk_fb _
              · rw [vm_cats_E]
                have : nativeFrameWords "java/lang/System" "arraycopy" 5 ≤ 40 := by decide +kernel
                omega
              · intro H1 locs1 hP hD hS
                have he : (Sum.inl (dA 2, n2, .inl (va_cpy (fun j => Int32.ofInt (M s0.toNat j)) (fun j => Int32.ofInt (M d.toNat j)) (Int32.ofInt sp).toNatClampNeg (Int32.ofInt dp).toNatClampNeg (Int32.ofInt n).toNatClampNeg)) : va_E) = vm_ce dA ad (.inr (2, n2)) (vm_cpy M s0.toNat d.toNat sp.toNat dp.toNat n.toNat d.toNat) := by
                  show _ = (Sum.inl (dA 2, n2, vm_pa ad 2 _) : va_E)
                  refine congrArg (fun f => (Sum.inl (dA 2, n2, .inl f) : va_E)) (funext fun q => ?_)
                  rw [e1, e2, e3]
                  unfold va_cpy vm_cpy
                  by_cases hq : dp.toNat ≤ q ∧ q < dp.toNat + n.toNat
                  · rw [if_pos hq, if_pos ⟨rfl, hq.1, hq.2⟩]
                  · rw [if_neg hq, if_neg (fun x => hq ⟨x.2.1, x.2.2⟩)]
                have hw := vm_ws_set (dA := dA) (ad := ad) (M := M) (M' := vm_cpy M s0.toNat d.toNat sp.toNat dp.toNat n.toNat) hs' he (fun b hb => by
                  funext q
                  unfold vm_cpy
                  rw [if_neg (fun x => hb x.1)])
                rw [show va_P D vwCl _ H1 = va_P D vwCl (vm_ws dA ad S (vm_cpy M s0.toNat d.toNat sp.toNat dp.toNat n.toNat)) H1 from congrArg (fun y => va_P D vwCl y H1) hw] at hP
                rw [show va_D (fun q => z ≤ q) _ = va_D (fun q => z ≤ q) (vm_ws dA ad S (vm_cpy M s0.toNat d.toNat sp.toNat dp.toNat n.toNat)) from congrArg (fun y => va_D (fun q => z ≤ q) y) hw] at hD
                refine kk ad H1 locs1 LS cells slots (fun _ _ => rfl) ⟨hP, hD, hS, ?_, fun v hv => rel.2.2.2.2.1 v (by simp [hv]), rel.2.2.2.2.2⟩
                intro a sh k hsa
                show vm_mk _ _ (vm_cpy M s0.toNat d.toNat sp.toNat dp.toNat n.toNat a k)
                unfold vm_cpy
                split
                · next hx =>
                  obtain ⟨rfl, -, -⟩ := hx
                  have e5 : sh = .inr (2, n2) := Option.some.inj (hsa.symm.trans hs')
                  subst e5
                  exact rel.2.2.2.1 _ _ (sp.toNat + (k - dp.toNat)) hs
                · exact rel.2.2.2.1 a sh k hsa
            · cases h
          · cases h
        · cases h
      · cases h
    · split at h
      · next hk =>
        subst hk
        split at h
        · next hop =>
          subst hop
          subst hi0
          split at h
          · next r rest =>
            split at h
            · next hc =>
              obtain ⟨rfl, rfl, rfl, h⟩ := vm_nx_in h
              cases h
              simp only [if_true, Bool.and_eq_true, decide_eq_true_eq] at hp
              obtain ⟨⟨w1, w2⟩, w4⟩ := hp
              show W p l e R s m args below meth c H locs cells slots Q (F0 m pc LS (vm_cv b ad (vR r) :: st'.map (vm_cv b ad)))
              rw [vm_cv_ref hc.1]
              refine W.objInit g1 g2 g4 (g5 _ (vm_tb_of w1 rfl)) (g5 _ (vm_tb_of w2 rfl)) (g5 _ (vm_tb_of w4 rfl)) (g := F0 m pc LS (.ref (ad r.toNat) :: st'.map (vm_cv b ad))) rfl (by rw [g3]; show LS.size = _; rw [hLS, hnl]) rfl hd hR.1 ?_ ?_
              · rw [vm_cats_E]
                show 2 * 0 + _ + 12 ≤ _
                omega
              · exact kk ad H locs LS cells slots (fun _ _ => rfl) (vm_Rl_st rel (fun v hv => rel.2.2.2.2.1 v (List.mem_cons_of_mem _ hv)))
            · cases h
          · cases h
        · cases h
      · split at h
        · split at h
          · split at h <;> cases h
          · split at h
            · split at h
              · split at h
                · split at h
                  · split at h <;> cases h
                  · cases h
                · split at h <;> cases h
              · cases h
            · cases h
        · cases h
  · cases h
end SIME
