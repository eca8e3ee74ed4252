/-! THE SMALL MACHINE AND THE REAL ONE: whole runs -/
section SIMH
variable {p : Program} {l : Launch} {e : Env} {R : Room} {s : State} {m : MethodId} {args : Array Value} {below : List Frame} {meth : Method} {c : Code} {H : Heap} {locs : List Loc} {cells slots : Nat} {Q : State → Prop} {dA : Nat → ClassId} {D : va_G} {z b L : Nat} {xs : Nat → Int} {nl n0 z0 : Nat} {ad ad1 : Nat → Nat} {LS : Array Slot} {ls st ls' st' : List vV} {S S1 : List vSh} {M M1 : vM} {j pc pc' : Nat}
theorem vm_grow {orc : vO} {r : Option vV} {S2 : List vSh} {M2 : vM} : ∀ (n pc : Nat) (ls st : List vV) (S : List vSh) (M : vM), vm_run xs L orc n j pc ls st (S, M) = some (r, (S2, M2)) → S.length ≤ S2.length ∧ vm_sz S ≤ vm_sz S2
  | 0, _, _, _, _, _, h => by cases h
  | n + 1, pc, ls, st, S, M, h => by
    unfold vm_run at h
    split at h
    · cases h
    · cases h
      exact ⟨Nat.le_refl _, Nat.le_refl _⟩
    · split at h
      · cases h
      · next r1 hp1 _ =>
        split at h
        · next hc =>
          obtain ⟨S1, M1⟩ := hp1
          have := vm_grow n _ _ _ S1 M1 h
          exact ⟨Nat.le_trans hc.1 this.1, Nat.le_trans hc.2 this.2⟩
        · cases h
    · next hp1 _ =>
      split at h
      · next hc =>
        obtain ⟨S1, M1⟩ := hp1
        have := vm_grow n _ _ _ S1 M1 h
        exact ⟨Nat.le_trans hc.1 this.1, Nat.le_trans hc.2 this.2⟩
      · cases h
theorem vm_do_in {q : vRes} {w : Option vV ⊕ (Nat × List vV × List vV) ⊕ (Nat × List vV × List vV × vH)} (h : vm_do xs L j pc ls st (S, M) = some w) : ∃ (i : Instr) (len : Nat), decode (vm_cd j) pc = .ok (i, len) ∧ vm_il i len = len ∧ vm_go i (vm_i xs L j pc ls st (S, M) i len) = some w := by
  unfold vm_do at h
  split at h
  · next i len hd =>
    split at h
    · next hl => exact ⟨i, len, hd, hl, h⟩
    · cases h
  · cases h
theorem vm_go_nx {i : Instr} {q : vRes} (h : vm_go i q = some (.inr (.inr (pc', ls', st', (S1, M1))))) : q = some (.inr (.inr (pc', ls', st', (S1, M1)))) := by
  unfold vm_go at h
  split at h
  · split at h <;> cases h
  · split at h <;> cases h
  · exact h
theorem vm_go_call {i : Instr} {q : vRes} {w : Nat × List vV × List vV} (h : vm_go i q = some (.inr (.inl w))) : q = some (.inr (.inl w)) ∧ ((∃ idx, i = .invokevirtual idx) ∨ (∃ idx, i = .invokestatic idx) ∨ ∃ idx, i = .invokespecial idx) := by
  unfold vm_go at h
  split at h
  · split at h <;> cases h
  · split at h
    · exact ⟨h, Or.inl ⟨_, rfl⟩⟩
    · exact ⟨h, Or.inr (Or.inl ⟨_, rfl⟩)⟩
    · exact ⟨h, Or.inr (Or.inr ⟨_, rfl⟩)⟩
    · cases h
  · next h1 h2 => exact absurd h (h2 _)
theorem vm_go_ret {i : Instr} {q : vRes} {w : Option vV} (h : vm_go i q = some (.inl w)) : q = some (.inl w) ∧ (i = .ireturn ∨ i = .lreturn ∨ i = .return_) := by
  unfold vm_go at h
  split at h
  · split at h
    · exact ⟨h, Or.inl rfl⟩
    · exact ⟨h, Or.inr (Or.inl rfl)⟩
    · exact ⟨h, Or.inr (Or.inr rfl)⟩
    · cases h
  · split at h <;> cases h
  · next h1 h2 => exact absurd h (h1 _)
/-- a whole run, to its answer -/
theorem vm_run_ok {d : Nat} {orc : vO} {r : Option vV} {S2 : List vSh} {M2 : vM} (C : vm_Cx dA D z b L xs p s m args meth c j) (hnl : nl = vm_mx j) (hR : d + 2 ≤ R.frames ∧ 64 * (d + 2) ≤ R.locals) (hM : vm_Met dA D z b L xs l d orc) (hR2 : S2.length ≤ n0 + R.cells ∧ vm_sz S2 ≤ z0 + R.slots)
    (hfin : ∀ (pc len t : Nat) (i : Instr) (ls st : List vV) (H : Heap) (locs : List Loc) (LS : Array Slot) (cells slots : Nat) (ad1 : Nat → Nat), decode (vm_cd j) pc = .ok (i, len) → ((i = .ireturn ∧ t = 0 ∧ len = 1) ∨ (i = .lreturn ∧ t = 1 ∧ len = 1) ∨ (i = .return_ ∧ t = 2 ∧ len = 1)) → vm_ret j st (S2, M2) t = some (.inl r) → (∀ i : Nat, i < n0 → ad1 i = ad i) → vm_Rl dA D z b s nl n0 z0 ad1 S2 M2 ls st H locs LS cells slots → W p l e R s m args below meth c H locs cells slots Q (F0 m pc LS (st.map (vm_cv b ad1)))) :
    ∀ (n pc : Nat) (ls st : List vV) (S : List vSh) (M : vM) (H : Heap) (locs : List Loc) (LS : Array Slot) (cells slots : Nat) (ad1 : Nat → Nat), vm_run xs L orc n j pc ls st (S, M) = some (r, (S2, M2)) → n0 ≤ S.length → (∀ i : Nat, i < n0 → ad1 i = ad i) → vm_Rl dA D z b s nl n0 z0 ad1 S M ls st H locs LS cells slots → W p l e R s m args below meth c H locs cells slots Q (F0 m pc LS (st.map (vm_cv b ad1)))
  | 0, _, _, _, _, _, _, _, _, _, _, _, h, _, _, _ => by cases h
  | n + 1, pc, ls, st, S, M, H, locs, LS, cells, slots, ad1, h, hn0, hag, rel => by
    have hR1 : 1 ≤ R.frames ∧ 64 ≤ R.locals := ⟨by omega, by omega⟩
    unfold vm_run at h
    split at h
    · cases h
    · next r1 hdo =>
      cases h
      obtain ⟨i, len, hd, hl, hgo⟩ := vm_do_in (q := none) hdo
      obtain ⟨hq, hi⟩ := vm_go_ret hgo
      rcases hi with rfl | rfl | rfl
      · exact hfin pc len 0 _ ls st H locs LS cells slots ad1 hd (Or.inl ⟨rfl, rfl, hl.symm⟩) hq hag rel
      · exact hfin pc len 1 _ ls st H locs LS cells slots ad1 hd (Or.inr (Or.inl ⟨rfl, rfl, hl.symm⟩)) hq hag rel
      · exact hfin pc len 2 _ ls st H locs LS cells slots ad1 hd (Or.inr (Or.inr ⟨rfl, rfl, hl.symm⟩)) hq hag rel
    · next j' as rest hdo =>
      split at h
      · cases h
      · next r1 hp1 ho =>
        split at h
        · next hc =>
          obtain ⟨S1, M1⟩ := hp1
          have hg2 := vm_grow n _ _ _ S1 M1 h
          obtain ⟨i, len, hd, hl, hgo⟩ := vm_do_in (q := none) hdo
          obtain ⟨hq, hi⟩ := vm_go_call hgo
          have hroom : S1.length ≤ n0 + R.cells ∧ vm_sz S1 ≤ z0 + R.slots := ⟨by omega, by omega⟩
          have kk : ∀ (ad2 : Nat → Nat) (H1 : Heap) (locs1 : List Loc) (cells1 slots1 : Nat), (∀ i : Nat, i < S.length → ad2 i = ad1 i) → vm_Rl dA D z b s nl n0 z0 ad2 S1 M1 ls (r1.toList ++ rest) H1 locs1 LS cells1 slots1 → W p l e R s m args below meth c H1 locs1 cells1 slots1 Q (F0 m (pc + 3) LS ((r1.toList ++ rest).map (vm_cv b ad2))) := fun ad2 H1 locs1 cells1 slots1 hag2 hrel => vm_run_ok C hnl hR hM hR2 hfin n (pc + 3) ls _ S1 M1 H1 locs1 LS cells1 slots1 ad2 h (Nat.le_trans hn0 hc.1) (fun i hi => by rw [hag2 i (by omega), hag i hi]) hrel
          have hl3 : len = 3 := by rcases hi with ⟨idx, rfl⟩ | ⟨idx, rfl⟩ | ⟨idx, rfl⟩ <;> exact hl.symm
          subst hl3
          rcases hi with ⟨idx, rfl⟩ | ⟨idx, rfl⟩ | ⟨idx, rfl⟩
          · exact vm_c_inv (op := 0) (idx := idx) rfl C hnl hR hd hq rel hM ho hc hroom kk
          · exact vm_c_inv (op := 1) (idx := idx) rfl C hnl hR hd hq rel hM ho hc hroom kk
          · exact vm_c_inv (op := 2) (idx := idx) rfl C hnl hR hd hq rel hM ho hc hroom kk
        · cases h
    · next pc1 ls1 st1 hp1 hdo =>
      split at h
      · next hc =>
        obtain ⟨S1, M1⟩ := hp1
        have hg2 := vm_grow n _ _ _ S1 M1 h
        obtain ⟨i, len, hd, hl, hgo⟩ := vm_do_in (q := none) hdo
        have hroom : S1.length ≤ n0 + R.cells ∧ vm_sz S1 ≤ z0 + R.slots := ⟨by omega, by omega⟩
        exact vm_step C hnl hR1 hd hl (vm_go_nx hgo) rel hroom (fun ad2 H1 locs1 LS1 cells1 slots1 hag2 hrel => vm_run_ok C hnl hR hM hR2 hfin n pc1 ls1 st1 S1 M1 H1 locs1 LS1 cells1 slots1 ad2 h (Nat.le_trans hn0 hc.1) (fun i hi => by rw [hag2 i (by omega), hag i hi]) hrel)
      · cases h
end SIMH
/-- Met.ofW, for every method that no native row stands for -/
theorem vm_ofW {l : Launch} {y : MethodName} {ws ws' : List Cond} {rm : Room} {Pc : Array Value → State → Prop} {Qc : Array Value → State → Outcome → State → Prop} {mc ms : Nat} {free : Addr → Prop} {cc : ByteArray} {maxL : Nat} {ret : Option FieldType}
    (hy : plainFor y = true) (hw : ws = Cond.code y cc maxL ret :: ws')
    (body : ∀ p e s m args below meth c s₁, BodyLoose p l y (headSpec ws rm) cc maxL ret e s m args below meth c s₁ → c.maxLocals = maxL → Pc args s →
      W p l e (headSpec ws rm).room s m args below meth c s.heap [] 0 0 (MQ below Qc args s mc ms free) (entryFrame m args maxL)) : Met l y ws rm Pc Qc mc ms free := by
  refine MetFree.of_bodySF (code := cc) (maxLocals := maxL) (ret := ret) hy ?_ ?_
  · intro args s m h hn
    obtain ⟨meth, c, h1, h2, h3, h4, h5, h6, -, -⟩ := Cond.code_spec hn (atoms_spec (ws := ws) h _ (by rw [hw]; exact List.mem_cons_self))
    exact ⟨meth, c, h1, h2, h3, h4, h5, h6⟩
  · intro p e s m args below meth c s₁ B hml hP _
    have hh0 : s₁.heap = s.heap := by rw [B.state]; rfl
    obtain ⟨t, a1, o, b1, b2, b3⟩ := body p e s m args below meth c s₁ B hml hP s₁ hh0 (Stand.of_body B)
    exact ⟨t, o, a1, b1, b2, b3⟩
section SIMI
variable {p : Program} {l : Launch} {e : Env} {R : Room} {s : State} {m : MethodId} {args : Array Value} {below : List Frame} {meth : Method} {c : Code} {H : Heap} {locs : List Loc} {cells slots : Nat} {Q : State → Prop} {dA : Nat → ClassId} {D : va_G} {z b L : Nat} {xs : Nat → Int} {nl n0 z0 : Nat} {ad ad1 : Nat → Nat} {LS : Array Slot} {ls st ls' st' : List vV} {S S1 : List vSh} {M M1 : vM} {j pc pc' : Nat}
/-- a method's locals at its entry -/
theorem vm_entry_at : ∀ (as : List vV) (k : Nat) (v : vV), (vm_wide as)[k]? = some v → v ≠ vN → (lg_sl (as.map (vm_cv b ad)))[k]? = some (.val (vm_cv b ad v))
  | [], k, v, h, _ => by cases h
  | a :: as, k, v, h, hv => by
    have e1 : vm_wide (a :: as) = (if vm_cat a = 2 then [a, vN] else [a]) ++ vm_wide as := rfl
    have e2 : lg_sl ((a :: as).map (vm_cv b ad)) = (if (vm_cv b ad a).category = 2 then [.val (vm_cv b ad a), .second] else [.val (vm_cv b ad a)]) ++ lg_sl (as.map (vm_cv b ad)) := rfl
    rw [e1] at h
    rw [e2, vm_cv_catE]
    by_cases hc : vm_cat a = 2
    · rw [if_pos hc] at h ⊢
      match k, h with
      | 0, h => cases h; rfl
      | 1, h => cases h; exact absurd rfl hv
      | k + 2, h => exact vm_entry_at as k v h hv
    · rw [if_neg hc] at h ⊢
      match k, h with
      | 0, h => cases h; rfl
      | k + 1, h => exact vm_entry_at as k v h hv
theorem vm_entry_len : ∀ (as : List vV), (lg_sl (as.map (vm_cv b ad))).length = (vm_wide as).length
  | [] => rfl
  | a :: as => by
    have e1 : vm_wide (a :: as) = (if vm_cat a = 2 then [a, vN] else [a]) ++ vm_wide as := rfl
    have e2 : lg_sl ((a :: as).map (vm_cv b ad)) = (if (vm_cv b ad a).category = 2 then [.val (vm_cv b ad a), .second] else [.val (vm_cv b ad a)]) ++ lg_sl (as.map (vm_cv b ad)) := rfl
    rw [e1, e2, vm_cv_catE, List.length_append, List.length_append, vm_entry_len as]
    split <;> rfl
theorem vm_entry {n : Nat} {as : List vV} (h : (vm_wide as).length ≤ n) : vm_LR b ad ((lg_sl (as.map (vm_cv b ad)) ++ List.replicate (n - (lg_sl (as.map (vm_cv b ad))).length) Slot.unset).toArray) (vm_init n as) := by
  have hl := lv_entry (as.map (vm_cv b ad)) (n := n) (by rw [vm_entry_len]; exact h)
  refine ⟨?_, hl.2.1, fun k v hk hv => ?_⟩
  · rw [hl.1, vm_init, List.length_append, List.length_replicate]
    omega
  · unfold vm_init at hk
    by_cases hlt : k < (vm_wide as).length
    · rw [List.getElem?_append_left hlt] at hk
      have := vm_entry_at (b := b) (ad := ad) as k v hk hv
      rw [List.getElem?_toArray, List.getElem?_append_left (by rw [vm_entry_len]; exact hlt)]
      exact this
    · rw [List.getElem?_append_right (by omega), List.getElem?_replicate] at hk
      split at hk
      · cases hk; exact absurd rfl hv
      · cases hk
theorem vm_wide_mem : ∀ (as : List vV) (v : vV), v ∈ vm_wide as → v ∈ as ∨ v = vN
  | [], v, h => by cases h
  | a :: as, v, h => by
    have e1 : vm_wide (a :: as) = (if vm_cat a = 2 then [a, vN] else [a]) ++ vm_wide as := rfl
    rw [e1] at h
    rcases List.mem_append.mp h with h | h
    · split at h
      · simp only [List.mem_cons, List.not_mem_nil, or_false] at h
        rcases h with rfl | rfl
        · exact Or.inl List.mem_cons_self
        · exact Or.inr rfl
      · rw [List.mem_singleton.mp h]
        exact Or.inl List.mem_cons_self
    · rcases vm_wide_mem as v h with h | h
      · exact Or.inl (List.mem_cons_of_mem _ h)
      · exact Or.inr h
theorem vm_init_ok {n k : Nat} {as : List vV} (h : ∀ v ∈ as, vm_ok k v) : ∀ v ∈ vm_init n as, vm_ok k v := fun v hv => by
  rcases List.mem_append.mp hv with hv | hv
  · rcases vm_wide_mem as v hv with h1 | rfl
    · exact h v h1
    · exact trivial
  · rw [(List.mem_replicate.mp hv).2]
    exact trivial
theorem vm_init_len {n : Nat} {as : List vV} (h : (vm_wide as).length ≤ n) : (vm_init n as).length = n := by
  rw [vm_init, List.length_append, List.length_replicate]
  omega
theorem vm_met (hz : b < z) (hxs : ∀ i, i < L → (Int32.ofInt (xs i)).toInt = xs i) (hL : L < 2 ^ 31) (n : Nat) : ∀ d : Nat, vm_Met dA D z b L xs l d (vm_call xs L d n)
  | 0 => fun j as S M r S1 M1 _ h => by cases h
  | d + 1 => by
    intro j as S M r S1 M1 hj h hg1 hg2 hok hasok ad
    have hMd := vm_met hz hxs hL n d
    unfold vm_call at h
    split at h
    · next hc =>
      obtain ⟨m1, m2, m3, m4, m5, m6⟩ := vm_m_ok hj
      refine vm_ofW (cc := vm_cd j) (maxL := vm_mx j) (ret := vm_rt j) m2 rfl ?_
      intro p e s m args below meth c s₁ B hml hP
      obtain ⟨rfl, q1, q2, q3, q4, q5, q6⟩ := hP
      have hts0 : ∀ w ∈ vm_wsm j, w.before (as.map (vm_cv b ad)).toArray s = true := atoms_spec (ws := vm_wsm j) B.pre
      have C : vm_Cx dA D z b L xs p s m (as.map (vm_cv b ad)).toArray meth c j := ⟨B.exec, B.bytes, hml, by rw [← m3]; exact findClass_of_methodNamed B.named, fun w hw => hts0 w (List.mem_cons_of_mem _ hw), B.returns, B.notSynchronized, fun hn => by rw [← hn]; exact (name_of_methodNamed B.named B.method).1, q3, hz, q4, q5, q6, hxs, hL⟩
      rw [lg_entry_eq]
      have rel : vm_Rl dA D z b s (vm_mx j) S.length (vm_sz S) ad S M (vm_init (vm_mx j) as) [] s.heap [] ((lg_sl (as.map (vm_cv b ad)) ++ List.replicate (vm_mx j - (lg_sl (as.map (vm_cv b ad))).length) Slot.unset).toArray) 0 0 := ⟨q1, q2, va_S.rf, hok, fun v hv => (by cases hv), vm_init_ok hasok, vm_entry hc.2, by omega, by omega, vm_init_len hc.2⟩
      refine vm_run_ok (R := (headSpec (vm_wsm j) (vm_rm (d + 1) (S1.length - S.length) (vm_sz S1 - vm_sz S))).room) (d := d) (ad := ad) (S2 := S1) (M2 := M1) (r := r) C rfl (by show d + 2 ≤ d + 1 + 1 ∧ 64 * (d + 2) ≤ 64 * (d + 1 + 1); omega) hMd (by show S1.length ≤ S.length + (S1.length - S.length) ∧ vm_sz S1 ≤ vm_sz S + (vm_sz S1 - vm_sz S); omega) ?_ n 0 (vm_init (vm_mx j) as) [] S M s.heap [] _ 0 0 ad h (Nat.le_refl _) (fun _ _ => rfl) rel
      intro pc len t i ls st H locs LS cells slots ad1 hd ht hret hag hrel
      have hcells : cells = S1.length - S.length := by have := hrel.2.2.2.2.2.2.2.1; omega
      have hslots : slots = vm_sz S1 - vm_sz S := by have := hrel.2.2.2.2.2.2.2.2.1; omega
      subst hcells
      subst hslots
      have hQ : ∀ (v : Option Value), v = r.map (vm_cv b ad1) → (∀ w, r = some w → vm_ok S1.length w) → ∀ t : State, t.heap = H → s.WarmedH t.vm → vm_Q dA D z b ad S S1 M1 r (as.map (vm_cv b ad)).toArray s (.returned v) t := fun v hv hw t ht _ => ⟨⟨ad1, hag, by rw [hv], by rw [ht]; exact hrel.1, hrel.2.1, hrel.2.2.2.1, hw⟩, hrel.2.2.1.F ht⟩
      have hf : ∀ q ∈ locs, z ≤ q.base := hrel.2.2.1.2.2
      unfold vm_ret at hret
      rcases ht with ⟨rfl, rfl, rfl⟩ | ⟨rfl, rfl, rfl⟩ | ⟨rfl, rfl, rfl⟩
      · split at hret
        · next x _ =>
          have hx := hrel.2.2.2.2.1 _ List.mem_cons_self
          split at hret
          · next hrt =>
            cases hret
            exact W.iret C.1 C.2.1 (C.2.2.2.2.2.1.trans hrt) (hQ _ rfl (fun w hw => by cases hw; exact hx)) hf hd
          · split at hret
            · next hrt =>
              split at hret
              · next h01 =>
                cases hret
                refine W.zret C.1 C.2.1 (C.2.2.2.2.2.1.trans hrt) ?_ (hQ _ rfl (fun w hw => by cases hw; exact hx)) hf hd
                rcases h01 with rfl | rfl <;> rfl
              · cases hret
            · cases hret
        · contradiction
        · contradiction
        · cases hret
      · split at hret
        · contradiction
        · next x _ =>
          have hx := hrel.2.2.2.2.1 _ List.mem_cons_self
          split at hret
          · next hrt =>
            cases hret
            exact W.lret C.1 C.2.1 (C.2.2.2.2.2.1.trans hrt) (hQ _ rfl (fun w hw => by cases hw; exact hx)) hf hd
          · cases hret
        · contradiction
        · cases hret
      · split at hret
        · contradiction
        · contradiction
        · split at hret
          · next hrt =>
            cases hret
            exact W.vret C.1 C.2.1 (C.2.2.2.2.2.1.trans hrt) (hQ _ rfl (fun w hw => by cases hw)) hf hd
          · cases hret
        · cases hret
    · cases h
end SIMI
