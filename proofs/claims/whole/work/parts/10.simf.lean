/-! THE SMALL MACHINE AND THE REAL ONE: one step -/
section SIMF
variable {p : Program} {l : Launch} {e : Env} {R : Room} {s : State} {m : MethodId} {args : Array Value} {below : List Frame} {meth : Method} {c : Code} {H : Heap} {locs : List Loc} {cells slots : Nat} {Q : State → Prop} {dA : Nat → ClassId} {D : va_G} {z b L : Nat} {xs : Nat → Int} {nl n0 z0 : Nat} {ad ad1 : Nat → Nat} {LS : Array Slot} {ls st ls' st' : List vV} {S S1 : List vSh} {M M1 : vM} {j pc pc' : Nat}
theorem vm_cv_i (x : Int32) : vm_cv b ad (vI x.toInt) = .int x := by
  show Value.int (Int32.ofInt x.toInt) = _
  rw [Int32.ofInt_toInt]
theorem vm_cv_l (x : Int64) : vm_cv b ad (vL x.toInt) = .long x := by
  show Value.long (Int64.ofInt x.toInt) = _
  rw [Int64.ofInt_toInt]
theorem vm_ok_i {n : Nat} (x : Int32) : vm_ok n (vI x.toInt) := congrArg Int32.toInt (Int32.ofInt_toInt _)
theorem vm_ok_l {n : Nat} (x : Int64) : vm_ok n (vL x.toInt) := congrArg Int64.toInt (Int64.ofInt_toInt _)
theorem vm_s_load0 {n k : Nat} (h : vm_load n pc k ls st (S, M) 0 = some (.inr (.inr (pc', ls', st', (S1, M1))))) (rel : vm_Rl dA D z b s nl n0 z0 ad S M ls st H locs LS cells slots) (row : ∀ x : Int32, LS[k]? = some (.val (.int x)) → W p l e R s m args below meth c H locs cells slots Q (F0 m (pc + n) LS (.int x :: st.map (vm_cv b ad))) → W p l e R s m args below meth c H locs cells slots Q (F0 m pc LS (st.map (vm_cv b ad)))) (kk : ∀ (ad1 : Nat → Nat) (H1 : Heap) (locs1 : List Loc) (LS1 : Array Slot) (cells1 slots1 : Nat), (∀ i : Nat, i < S.length → ad1 i = ad i) → vm_Rl dA D z b s nl n0 z0 ad1 S1 M1 ls' st' H1 locs1 LS1 cells1 slots1 → W p l e R s m args below meth c H1 locs1 cells1 slots1 Q (F0 m pc' LS1 (st'.map (vm_cv b ad1)))) : W p l e R s m args below meth c H locs cells slots Q (F0 m pc LS (st.map (vm_cv b ad))) := by
  unfold vm_load at h
  split at h
  · next x hx _ =>
    exact vm_s_push h rel (rel.2.2.2.2.2.1 _ (List.mem_of_getElem? hx)) (fun k => row _ (rel.2.2.2.2.2.2.1.2.2 _ _ hx (fun q => by cases q)) k) kk
  · contradiction
  · contradiction
  · cases h
theorem vm_s_load1 {n k : Nat} (h : vm_load n pc k ls st (S, M) 1 = some (.inr (.inr (pc', ls', st', (S1, M1))))) (rel : vm_Rl dA D z b s nl n0 z0 ad S M ls st H locs LS cells slots) (row : ∀ x : Int64, LS[k]? = some (.val (.long x)) → W p l e R s m args below meth c H locs cells slots Q (F0 m (pc + n) LS (.long x :: st.map (vm_cv b ad))) → W p l e R s m args below meth c H locs cells slots Q (F0 m pc LS (st.map (vm_cv b ad)))) (kk : ∀ (ad1 : Nat → Nat) (H1 : Heap) (locs1 : List Loc) (LS1 : Array Slot) (cells1 slots1 : Nat), (∀ i : Nat, i < S.length → ad1 i = ad i) → vm_Rl dA D z b s nl n0 z0 ad1 S1 M1 ls' st' H1 locs1 LS1 cells1 slots1 → W p l e R s m args below meth c H1 locs1 cells1 slots1 Q (F0 m pc' LS1 (st'.map (vm_cv b ad1)))) : W p l e R s m args below meth c H locs cells slots Q (F0 m pc LS (st.map (vm_cv b ad))) := by
  unfold vm_load at h
  split at h
  · contradiction
  · next x hx _ =>
    exact vm_s_push h rel (rel.2.2.2.2.2.1 _ (List.mem_of_getElem? hx)) (fun k => row _ (rel.2.2.2.2.2.2.1.2.2 _ _ hx (fun q => by cases q)) k) kk
  · contradiction
  · cases h
theorem vm_cv_r (x : Int) : (∃ a, vm_cv b ad (vR x) = .ref a) ∨ vm_cv b ad (vR x) = .null := by
  show (∃ a, (if x = -2 then Value.ref b else va_rf (vm_ro ad x)) = .ref a) ∨ (if x = -2 then Value.ref b else va_rf (vm_ro ad x)) = .null
  split
  · exact Or.inl ⟨_, rfl⟩
  · unfold vm_ro
    split
    · exact Or.inr rfl
    · exact Or.inl ⟨_, rfl⟩
theorem vm_s_load2 {n k : Nat} (h : vm_load n pc k ls st (S, M) 2 = some (.inr (.inr (pc', ls', st', (S1, M1))))) (rel : vm_Rl dA D z b s nl n0 z0 ad S M ls st H locs LS cells slots) (row : ∀ x : Nat, LS[k]? = some (.val (.ref x)) → W p l e R s m args below meth c H locs cells slots Q (F0 m (pc + n) LS (.ref x :: st.map (vm_cv b ad))) → W p l e R s m args below meth c H locs cells slots Q (F0 m pc LS (st.map (vm_cv b ad)))) (rowN : LS[k]? = some (.val .null) → W p l e R s m args below meth c H locs cells slots Q (F0 m (pc + n) LS (.null :: st.map (vm_cv b ad))) → W p l e R s m args below meth c H locs cells slots Q (F0 m pc LS (st.map (vm_cv b ad)))) (kk : ∀ (ad1 : Nat → Nat) (H1 : Heap) (locs1 : List Loc) (LS1 : Array Slot) (cells1 slots1 : Nat), (∀ i : Nat, i < S.length → ad1 i = ad i) → vm_Rl dA D z b s nl n0 z0 ad1 S1 M1 ls' st' H1 locs1 LS1 cells1 slots1 → W p l e R s m args below meth c H1 locs1 cells1 slots1 Q (F0 m pc' LS1 (st'.map (vm_cv b ad1)))) : W p l e R s m args below meth c H locs cells slots Q (F0 m pc LS (st.map (vm_cv b ad))) := by
  unfold vm_load at h
  split at h
  · contradiction
  · contradiction
  · next x hx _ =>
    have hL := rel.2.2.2.2.2.2.1.2.2 _ _ hx (fun q => by cases q)
    refine vm_s_push h rel (rel.2.2.2.2.2.1 _ (List.mem_of_getElem? hx)) (fun k => ?_) kk
    rcases vm_cv_r (b := b) (ad := ad) x with ⟨a, ea⟩ | ea
    · rw [ea] at hL k
      exact row a hL k
    · rw [ea] at hL k
      exact rowN hL k
  · cases h
theorem vm_Rl_ls {LS1 : Array Slot} (rel : vm_Rl dA D z b s nl n0 z0 ad S M ls st H locs LS cells slots) (hs : ∀ v ∈ st', v ∈ st) (hl : ∀ v ∈ ls', vm_ok S.length v) (hL : vm_LR b ad LS1 ls') (hn : ls'.length = ls.length) : vm_Rl dA D z b s nl n0 z0 ad S M ls' st' H locs LS1 cells slots := ⟨rel.1, rel.2.1, rel.2.2.1, rel.2.2.2.1, fun v hv => rel.2.2.2.2.1 v (hs v hv), hl, hL, rel.2.2.2.2.2.2.2.1, rel.2.2.2.2.2.2.2.2.1, by rw [hn]; exact rel.2.2.2.2.2.2.2.2.2⟩
theorem vm_put1_len {k : Nat} {v : vV} : (vm_put1 ls k v).length = ls.length := by rw [vm_put1, List.length_set, vm_kill_len]
theorem vm_put2_len {k : Nat} {v : vV} : (vm_put2 ls k v).length = ls.length := by rw [vm_put2, List.length_set, List.length_set, vm_kill_len]
theorem vm_s_store0 {n k : Nat} (h : vm_store n pc k ls st (S, M) 0 = some (.inr (.inr (pc', ls', st', (S1, M1))))) (rel : vm_Rl dA D z b s nl n0 z0 ad S M ls st H locs LS cells slots) (row : ∀ (x : Int32) (rest : List Value), lv_has LS ls.length (vm_pl b ad ls) → k < ls.length → (∀ LS1 : Array Slot, lv_has LS1 ls.length ((k, .int x) :: (vm_pl b ad ls).filter (fun q => !(q.1 == k) && !(q.1 + 1 == k && q.2.category == 2))) → W p l e R s m args below meth c H locs cells slots Q (F0 m (pc + n) LS1 rest)) → W p l e R s m args below meth c H locs cells slots Q (F0 m pc LS (.int x :: rest))) (kk : ∀ (ad1 : Nat → Nat) (H1 : Heap) (locs1 : List Loc) (LS1 : Array Slot) (cells1 slots1 : Nat), (∀ i : Nat, i < S.length → ad1 i = ad i) → vm_Rl dA D z b s nl n0 z0 ad1 S1 M1 ls' st' H1 locs1 LS1 cells1 slots1 → W p l e R s m args below meth c H1 locs1 cells1 slots1 Q (F0 m pc' LS1 (st'.map (vm_cv b ad1)))) : W p l e R s m args below meth c H locs cells slots Q (F0 m pc LS (st.map (vm_cv b ad))) := by
  unfold vm_store at h
  split at h
  · next x r =>
    split at h
    · next hk =>
      obtain ⟨rfl, rfl, rfl, h⟩ := vm_nx_in h
      cases h
      refine row _ _ (vm_LR.has rel.2.2.2.2.2.2.1) hk (fun LS1 h1 => kk ad H locs LS1 cells slots (fun _ _ => rfl) (vm_Rl_ls rel (fun v hv => List.mem_cons_of_mem _ hv) (vm_put1_ok rel.2.2.2.2.2.1 (rel.2.2.2.2.1 _ List.mem_cons_self)) (vm_LR_1 hk h1) vm_put1_len))
    · cases h
  · contradiction
  · contradiction
  · cases h
theorem vm_s_store1 {n k : Nat} (h : vm_store n pc k ls st (S, M) 1 = some (.inr (.inr (pc', ls', st', (S1, M1))))) (rel : vm_Rl dA D z b s nl n0 z0 ad S M ls st H locs LS cells slots) (row : ∀ (x : Int64) (rest : List Value), lv_has LS ls.length (vm_pl b ad ls) → k + 1 < ls.length → (∀ LS1 : Array Slot, lv_has LS1 ls.length ((k, .long x) :: (vm_pl b ad ls).filter (fun q => !(q.1 == k) && (!(q.1 == k + 1) && !(q.1 + 1 == k && q.2.category == 2)))) → W p l e R s m args below meth c H locs cells slots Q (F0 m (pc + n) LS1 rest)) → W p l e R s m args below meth c H locs cells slots Q (F0 m pc LS (.long x :: rest))) (kk : ∀ (ad1 : Nat → Nat) (H1 : Heap) (locs1 : List Loc) (LS1 : Array Slot) (cells1 slots1 : Nat), (∀ i : Nat, i < S.length → ad1 i = ad i) → vm_Rl dA D z b s nl n0 z0 ad1 S1 M1 ls' st' H1 locs1 LS1 cells1 slots1 → W p l e R s m args below meth c H1 locs1 cells1 slots1 Q (F0 m pc' LS1 (st'.map (vm_cv b ad1)))) : W p l e R s m args below meth c H locs cells slots Q (F0 m pc LS (st.map (vm_cv b ad))) := by
  unfold vm_store at h
  split at h
  · contradiction
  · next x r _ =>
    split at h
    · next hk =>
      obtain ⟨rfl, rfl, rfl, h⟩ := vm_nx_in h
      cases h
      refine row _ _ (vm_LR.has rel.2.2.2.2.2.2.1) hk (fun LS1 h1 => kk ad H locs LS1 cells slots (fun _ _ => rfl) (vm_Rl_ls rel (fun v hv => List.mem_cons_of_mem _ hv) (vm_put2_ok rel.2.2.2.2.2.1 (rel.2.2.2.2.1 _ List.mem_cons_self)) (vm_LR_2 hk h1) vm_put2_len))
    · cases h
  · contradiction
  · cases h
theorem vm_s_store2 {n k : Nat} (h : vm_store n pc k ls st (S, M) 2 = some (.inr (.inr (pc', ls', st', (S1, M1))))) (rel : vm_Rl dA D z b s nl n0 z0 ad S M ls st H locs LS cells slots) (row : ∀ (x : Nat) (rest : List Value), lv_has LS ls.length (vm_pl b ad ls) → k < ls.length → (∀ LS1 : Array Slot, lv_has LS1 ls.length ((k, .ref x) :: (vm_pl b ad ls).filter (fun q => !(q.1 == k) && !(q.1 + 1 == k && q.2.category == 2))) → W p l e R s m args below meth c H locs cells slots Q (F0 m (pc + n) LS1 rest)) → W p l e R s m args below meth c H locs cells slots Q (F0 m pc LS (.ref x :: rest)))
    (rowN : ∀ (rest : List Value), lv_has LS ls.length (vm_pl b ad ls) → k < ls.length → (∀ LS1 : Array Slot, lv_has LS1 ls.length ((k, .null) :: (vm_pl b ad ls).filter (fun q => !(q.1 == k) && !(q.1 + 1 == k && q.2.category == 2))) → W p l e R s m args below meth c H locs cells slots Q (F0 m (pc + n) LS1 rest)) → W p l e R s m args below meth c H locs cells slots Q (F0 m pc LS (.null :: rest))) (kk : ∀ (ad1 : Nat → Nat) (H1 : Heap) (locs1 : List Loc) (LS1 : Array Slot) (cells1 slots1 : Nat), (∀ i : Nat, i < S.length → ad1 i = ad i) → vm_Rl dA D z b s nl n0 z0 ad1 S1 M1 ls' st' H1 locs1 LS1 cells1 slots1 → W p l e R s m args below meth c H1 locs1 cells1 slots1 Q (F0 m pc' LS1 (st'.map (vm_cv b ad1)))) : W p l e R s m args below meth c H locs cells slots Q (F0 m pc LS (st.map (vm_cv b ad))) := by
  unfold vm_store at h
  split at h
  · contradiction
  · contradiction
  · next x r _ =>
    split at h
    · next hk =>
      obtain ⟨rfl, rfl, rfl, h⟩ := vm_nx_in h
      cases h
      have kx : ∀ LS1 : Array Slot, lv_has LS1 ls.length ((k, vm_cv b ad (vR x)) :: (vm_pl b ad ls).filter (fun q => !(q.1 == k) && !(q.1 + 1 == k && q.2.category == 2))) → W p l e R s m args below meth c H locs cells slots Q (F0 m (pc + n) LS1 (st'.map (vm_cv b ad))) := fun LS1 h1 => kk ad H locs LS1 cells slots (fun _ _ => rfl) (vm_Rl_ls rel (fun v hv => List.mem_cons_of_mem _ hv) (vm_put1_ok rel.2.2.2.2.2.1 (rel.2.2.2.2.1 _ List.mem_cons_self)) (vm_LR_1 hk h1) vm_put1_len)
      show W p l e R s m args below meth c H locs cells slots Q (F0 m pc LS (vm_cv b ad (vR x) :: st'.map (vm_cv b ad)))
      rcases vm_cv_r (b := b) (ad := ad) x with ⟨a, ea⟩ | ea
      · rw [ea] at kx ⊢
        exact row a _ (vm_LR.has rel.2.2.2.2.2.2.1) hk kx
      · rw [ea] at kx ⊢
        exact rowN _ (vm_LR.has rel.2.2.2.2.2.2.1) hk kx
    · cases h
  · cases h
theorem vm_s_iinc {k : Nat} {n : Int} (C : vm_Cx dA D z b L xs p s m args meth c j) (hd : decode (vm_cd j) pc = .ok (.iinc k n, 3)) (h : (match ls[k]? with | some (.inl x) => vm_nx (pc + 3) (vm_put1 ls k (vI (Int32.ofInt x + Int32.ofInt n).toInt)) st (S, M) | _ => none) = some (.inr (.inr (pc', ls', st', (S1, M1))))) (rel : vm_Rl dA D z b s nl n0 z0 ad S M ls st H locs LS cells slots) (kk : ∀ (ad1 : Nat → Nat) (H1 : Heap) (locs1 : List Loc) (LS1 : Array Slot) (cells1 slots1 : Nat), (∀ i : Nat, i < S.length → ad1 i = ad i) → vm_Rl dA D z b s nl n0 z0 ad1 S1 M1 ls' st' H1 locs1 LS1 cells1 slots1 → W p l e R s m args below meth c H1 locs1 cells1 slots1 Q (F0 m pc' LS1 (st'.map (vm_cv b ad1)))) : W p l e R s m args below meth c H locs cells slots Q (F0 m pc LS (st.map (vm_cv b ad))) := by
  split at h
  · next x hx =>
    obtain ⟨rfl, rfl, rfl, h⟩ := vm_nx_in h
    cases h
    have hk := (List.getElem?_eq_some_iff.mp hx).1
    obtain ⟨pl, hpl⟩ := List.getElem?_of_mem (vm_pl_in (b := b) (ad := ad) hx (fun q => by cases q))
    refine lv_iinc C.1 C.2.1 hd (vm_LR.has rel.2.2.2.2.2.2.1) hpl rfl hk rfl (fun LS1 h1 => kk ad H locs LS1 cells slots (fun _ _ => rfl) (vm_Rl_ls rel (fun v hv => hv) (vm_put1_ok rel.2.2.2.2.2.1 (vm_ok_i _)) (vm_LR_1 hk (by rw [vm_cv_i]; exact h1)) vm_put1_len))
  · cases h
theorem vm_s_bid {f : Int32 → Int32 → Int32} (h : (match st with | .inl 0 :: _ => none | _ => vm_bi f pc ls st (S, M)) = some (.inr (.inr (pc', ls', st', (S1, M1))))) (rel : vm_Rl dA D z b s nl n0 z0 ad S M ls st H locs LS cells slots) (row : ∀ (x y : Int32) (rest : List Value), ¬ y = 0 → W p l e R s m args below meth c H locs cells slots Q (F0 m (pc + 1) LS (.int (f x y) :: rest)) → W p l e R s m args below meth c H locs cells slots Q (F0 m pc LS (.int y :: .int x :: rest))) (kk : ∀ (ad1 : Nat → Nat) (H1 : Heap) (locs1 : List Loc) (LS1 : Array Slot) (cells1 slots1 : Nat), (∀ i : Nat, i < S.length → ad1 i = ad i) → vm_Rl dA D z b s nl n0 z0 ad1 S1 M1 ls' st' H1 locs1 LS1 cells1 slots1 → W p l e R s m args below meth c H1 locs1 cells1 slots1 Q (F0 m pc' LS1 (st'.map (vm_cv b ad1)))) : W p l e R s m args below meth c H locs cells slots Q (F0 m pc LS (st.map (vm_cv b ad))) := by
  split at h
  · cases h
  · next hne =>
    unfold vm_bi at h
    split at h
    · next y x r =>
      obtain ⟨rfl, rfl, rfl, h⟩ := vm_nx_in h
      cases h
      have hy : (Int32.ofInt y).toInt = y := rel.2.2.2.2.1 _ List.mem_cons_self
      refine row _ _ _ (fun e => ?_) ?_
      · have e1 : (Int32.ofInt y).toInt = 0 := by rw [e]; rfl
        rw [hy] at e1
        subst e1
        exact hne _ rfl
      · have k1 := kk ad H locs LS cells slots (fun _ _ => rfl) (vm_Rl_st rel (fun w hw => by
          rcases List.mem_cons.mp hw with rfl | hw
          · exact vm_ok_i _
          · exact rel.2.2.2.2.1 w (List.mem_cons_of_mem _ (List.mem_cons_of_mem _ hw))))
        rw [List.map_cons, vm_cv_i] at k1
        exact k1
    · cases h
theorem vm_s_bld {f : Int64 → Int64 → Int64} (h : (match st with | .inr (.inl 0) :: _ => none | _ => vm_bl f pc ls st (S, M)) = some (.inr (.inr (pc', ls', st', (S1, M1))))) (rel : vm_Rl dA D z b s nl n0 z0 ad S M ls st H locs LS cells slots) (row : ∀ (x y : Int64) (rest : List Value), ¬ y = 0 → W p l e R s m args below meth c H locs cells slots Q (F0 m (pc + 1) LS (.long (f x y) :: rest)) → W p l e R s m args below meth c H locs cells slots Q (F0 m pc LS (.long y :: .long x :: rest))) (kk : ∀ (ad1 : Nat → Nat) (H1 : Heap) (locs1 : List Loc) (LS1 : Array Slot) (cells1 slots1 : Nat), (∀ i : Nat, i < S.length → ad1 i = ad i) → vm_Rl dA D z b s nl n0 z0 ad1 S1 M1 ls' st' H1 locs1 LS1 cells1 slots1 → W p l e R s m args below meth c H1 locs1 cells1 slots1 Q (F0 m pc' LS1 (st'.map (vm_cv b ad1)))) : W p l e R s m args below meth c H locs cells slots Q (F0 m pc LS (st.map (vm_cv b ad))) := by
  split at h
  · cases h
  · next hne =>
    unfold vm_bl at h
    split at h
    · next y x r =>
      obtain ⟨rfl, rfl, rfl, h⟩ := vm_nx_in h
      cases h
      have hy : (Int64.ofInt y).toInt = y := rel.2.2.2.2.1 _ List.mem_cons_self
      refine row _ _ _ (fun e => ?_) ?_
      · have e1 : (Int64.ofInt y).toInt = 0 := by rw [e]; rfl
        rw [hy] at e1
        subst e1
        exact hne _ rfl
      · have k1 := kk ad H locs LS cells slots (fun _ _ => rfl) (vm_Rl_st rel (fun w hw => by
          rcases List.mem_cons.mp hw with rfl | hw
          · exact vm_ok_l _
          · exact rel.2.2.2.2.1 w (List.mem_cons_of_mem _ (List.mem_cons_of_mem _ hw))))
        rw [List.map_cons, vm_cv_l] at k1
        exact k1
    · cases h
/-- an instruction on the top of the stack: an int or a long comes -/
theorem vm_s_top {v : vV} {st0 : List vV} {n : Nat} (h : vm_nx (pc + n) ls (v :: st0) (S, M) = some (.inr (.inr (pc', ls', st', (S1, M1))))) (rel : vm_Rl dA D z b s nl n0 z0 ad S M ls st H locs LS cells slots) (hv : vm_ok S.length v) (hsub : ∀ w ∈ st0, w ∈ st) (row : W p l e R s m args below meth c H locs cells slots Q (F0 m (pc + n) LS (vm_cv b ad v :: st0.map (vm_cv b ad))) → W p l e R s m args below meth c H locs cells slots Q (F0 m pc LS (st.map (vm_cv b ad)))) (kk : ∀ (ad1 : Nat → Nat) (H1 : Heap) (locs1 : List Loc) (LS1 : Array Slot) (cells1 slots1 : Nat), (∀ i : Nat, i < S.length → ad1 i = ad i) → vm_Rl dA D z b s nl n0 z0 ad1 S1 M1 ls' st' H1 locs1 LS1 cells1 slots1 → W p l e R s m args below meth c H1 locs1 cells1 slots1 Q (F0 m pc' LS1 (st'.map (vm_cv b ad1)))) : W p l e R s m args below meth c H locs cells slots Q (F0 m pc LS (st.map (vm_cv b ad))) := by
  obtain ⟨rfl, rfl, rfl, h⟩ := vm_nx_in h
  cases h
  refine row (kk ad H locs LS cells slots (fun _ _ => rfl) (vm_Rl_st rel (fun w hw => ?_)))
  rcases List.mem_cons.mp hw with rfl | hw
  · exact hv
  · exact rel.2.2.2.2.1 w (hsub w hw)
theorem vm_s_stk {st0 : List vV} {n : Nat} (h : vm_nx (pc + n) ls st0 (S, M) = some (.inr (.inr (pc', ls', st', (S1, M1))))) (rel : vm_Rl dA D z b s nl n0 z0 ad S M ls st H locs LS cells slots) (hsub : ∀ w ∈ st0, w ∈ st) (row : W p l e R s m args below meth c H locs cells slots Q (F0 m (pc + n) LS (st0.map (vm_cv b ad))) → W p l e R s m args below meth c H locs cells slots Q (F0 m pc LS (st.map (vm_cv b ad)))) (kk : ∀ (ad1 : Nat → Nat) (H1 : Heap) (locs1 : List Loc) (LS1 : Array Slot) (cells1 slots1 : Nat), (∀ i : Nat, i < S.length → ad1 i = ad i) → vm_Rl dA D z b s nl n0 z0 ad1 S1 M1 ls' st' H1 locs1 LS1 cells1 slots1 → W p l e R s m args below meth c H1 locs1 cells1 slots1 Q (F0 m pc' LS1 (st'.map (vm_cv b ad1)))) : W p l e R s m args below meth c H locs cells slots Q (F0 m pc LS (st.map (vm_cv b ad))) := by
  obtain ⟨rfl, rfl, rfl, h⟩ := vm_nx_in h
  cases h
  exact row (kk ad H locs LS cells slots (fun _ _ => rfl) (vm_Rl_st rel (fun w hw => rel.2.2.2.2.1 w (hsub w hw))))
theorem vm_s_icmp {cnd : ClassFile.Cond} {off : Int} (C : vm_Cx dA D z b L xs p s m args meth c j) (hd : decode (vm_cd j) pc = .ok (.if_icmp cnd off, 3)) (h : (match st with | .inl y :: .inl x :: r => vm_br (vm_cmp cnd x y) pc off ls r (S, M) | _ => none) = some (.inr (.inr (pc', ls', st', (S1, M1))))) (rel : vm_Rl dA D z b s nl n0 z0 ad S M ls st H locs LS cells slots) (kk : ∀ (ad1 : Nat → Nat) (H1 : Heap) (locs1 : List Loc) (LS1 : Array Slot) (cells1 slots1 : Nat), (∀ i : Nat, i < S.length → ad1 i = ad i) → vm_Rl dA D z b s nl n0 z0 ad1 S1 M1 ls' st' H1 locs1 LS1 cells1 slots1 → W p l e R s m args below meth c H1 locs1 cells1 slots1 Q (F0 m pc' LS1 (st'.map (vm_cv b ad1)))) : W p l e R s m args below meth c H locs cells slots Q (F0 m pc LS (st.map (vm_cv b ad))) := by
  split at h
  · next y x r =>
    have hy : (Int32.ofInt y).toInt = y := rel.2.2.2.2.1 _ List.mem_cons_self
    have hx : (Int32.ofInt x).toInt = x := rel.2.2.2.2.1 _ (List.mem_cons_of_mem _ List.mem_cons_self)
    refine vm_s_br h rel (fun w hw => List.mem_cons_of_mem _ (List.mem_cons_of_mem _ hw)) (fun tgt ht kt kf => ?_) kk
    cases cnd
    · exact lv_icmp_eq C.1 C.2.1 hd ht (fun q => kt (decide_eq_true ((vm_ofInt_eq hx hy).mp q))) (fun q => kf (decide_eq_false (fun w => q ((vm_ofInt_eq hx hy).mpr w))))
    · exact lv_icmp_ne C.1 C.2.1 hd ht (fun q => kt (decide_eq_true (fun w => q ((vm_ofInt_eq hx hy).mpr w)))) (fun q => kf (decide_eq_false (fun w => w ((vm_ofInt_eq hx hy).mp q))))
    · exact lv_icmp_lt C.1 C.2.1 hd ht (fun q => kt (decide_eq_true ((vm_ofInt_lt hx hy).mp q))) (fun q => kf (decide_eq_false (fun w => q ((vm_ofInt_lt hx hy).mpr w))))
    · exact lv_icmp_ge C.1 C.2.1 hd ht (fun q => kt (decide_eq_true ((vm_ofInt_le hy hx).mp q))) (fun q => kf (decide_eq_false (fun w => q ((vm_ofInt_le hy hx).mpr w))))
    · exact lv_icmp_gt C.1 C.2.1 hd ht (fun q => kt (decide_eq_true ((vm_ofInt_lt hy hx).mp q))) (fun q => kf (decide_eq_false (fun w => q ((vm_ofInt_lt hy hx).mpr w))))
    · exact lv_icmp_le C.1 C.2.1 hd ht (fun q => kt (decide_eq_true ((vm_ofInt_le hx hy).mp q))) (fun q => kf (decide_eq_false (fun w => q ((vm_ofInt_le hx hy).mpr w))))
  · cases h
theorem vm_s_if {cnd : ClassFile.Cond} {off : Int} (C : vm_Cx dA D z b L xs p s m args meth c j) (hd : decode (vm_cd j) pc = .ok (.ifCond cnd off, 3)) (h : (match st with | .inl x :: r => vm_br (vm_cmp cnd x 0) pc off ls r (S, M) | _ => none) = some (.inr (.inr (pc', ls', st', (S1, M1))))) (rel : vm_Rl dA D z b s nl n0 z0 ad S M ls st H locs LS cells slots) (kk : ∀ (ad1 : Nat → Nat) (H1 : Heap) (locs1 : List Loc) (LS1 : Array Slot) (cells1 slots1 : Nat), (∀ i : Nat, i < S.length → ad1 i = ad i) → vm_Rl dA D z b s nl n0 z0 ad1 S1 M1 ls' st' H1 locs1 LS1 cells1 slots1 → W p l e R s m args below meth c H1 locs1 cells1 slots1 Q (F0 m pc' LS1 (st'.map (vm_cv b ad1)))) : W p l e R s m args below meth c H locs cells slots Q (F0 m pc LS (st.map (vm_cv b ad))) := by
  split at h
  · next x r =>
    have hy : (Int32.ofInt 0).toInt = 0 := rfl
    have hx : (Int32.ofInt x).toInt = x := rel.2.2.2.2.1 _ List.mem_cons_self
    refine vm_s_br h rel (fun w hw => List.mem_cons_of_mem _ hw) (fun tgt ht kt kf => ?_) kk
    cases cnd
    · exact lv_if_eq C.1 C.2.1 hd ht (fun q => kt (decide_eq_true ((vm_ofInt_eq hx hy).mp q))) (fun q => kf (decide_eq_false (fun w => q ((vm_ofInt_eq hx hy).mpr w))))
    · exact lv_if_ne C.1 C.2.1 hd ht (fun q => kt (decide_eq_true (fun w => q ((vm_ofInt_eq hx hy).mpr w)))) (fun q => kf (decide_eq_false (fun w => w ((vm_ofInt_eq hx hy).mp q))))
    · exact lv_if_lt C.1 C.2.1 hd ht (fun q => kt (decide_eq_true ((vm_ofInt_lt hx hy).mp q))) (fun q => kf (decide_eq_false (fun w => q ((vm_ofInt_lt hx hy).mpr w))))
    · exact lv_if_ge C.1 C.2.1 hd ht (fun q => kt (decide_eq_true ((vm_ofInt_le hy hx).mp q))) (fun q => kf (decide_eq_false (fun w => q ((vm_ofInt_le hy hx).mpr w))))
    · exact lv_if_gt C.1 C.2.1 hd ht (fun q => kt (decide_eq_true ((vm_ofInt_lt hy hx).mp q))) (fun q => kf (decide_eq_false (fun w => q ((vm_ofInt_lt hy hx).mpr w))))
    · exact lv_if_le C.1 C.2.1 hd ht (fun q => kt (decide_eq_true ((vm_ofInt_le hx hy).mp q))) (fun q => kf (decide_eq_false (fun w => q ((vm_ofInt_le hx hy).mpr w))))
  · cases h
theorem vm_ret_nx (j : Nat) (st : List vV) (hp : vH) (t : Nat) : ¬ vm_ret j st hp t = some (.inr (.inr (pc', ls', st', (S1, M1)))) := by
  unfold vm_ret
  split
  · split
    · exact fun h => by cases h
    · split
      · split <;> exact fun h => by cases h
      · exact fun h => by cases h
  · split <;> exact fun h => by cases h
  · split <;> exact fun h => by cases h
  · exact fun h => by cases h
theorem vm_step {i : Instr} {len : Nat} (C : vm_Cx dA D z b L xs p s m args meth c j) (hnl : nl = vm_mx j) (hR : 1 ≤ R.frames ∧ 64 ≤ R.locals) (hd : decode (vm_cd j) pc = .ok (i, len)) (hl : vm_il i len = len) (h : vm_i xs L j pc ls st (S, M) i len = some (.inr (.inr (pc', ls', st', (S1, M1))))) (rel : vm_Rl dA D z b s nl n0 z0 ad S M ls st H locs LS cells slots) (hroom : S1.length ≤ n0 + R.cells ∧ vm_sz S1 ≤ z0 + R.slots) (kk : ∀ (ad1 : Nat → Nat) (H1 : Heap) (locs1 : List Loc) (LS1 : Array Slot) (cells1 slots1 : Nat), (∀ i : Nat, i < S.length → ad1 i = ad i) → vm_Rl dA D z b s nl n0 z0 ad1 S1 M1 ls' st' H1 locs1 LS1 cells1 slots1 → W p l e R s m args below meth c H1 locs1 cells1 slots1 Q (F0 m pc' LS1 (st'.map (vm_cv b ad1)))) : W p l e R s m args below meth c H locs cells slots Q (F0 m pc LS (st.map (vm_cv b ad))) := by
  cases i
  case iconst n =>
    have hl : 1 = len := hl
    subst hl
    exact vm_s_push h rel (vm_ok_i _) (fun k => lv_iconst C.1 C.2.1 hd rfl (by rw [vm_cv_i] at k; exact k)) kk
  case bipush n =>
    have hl : 2 = len := hl
    subst hl
    exact vm_s_push h rel (vm_ok_i _) (fun k => lv_bipush C.1 C.2.1 hd rfl (by rw [vm_cv_i] at k; exact k)) kk
  case sipush n =>
    have hl : 3 = len := hl
    subst hl
    exact vm_s_push h rel (vm_ok_i _) (fun k => lv_sipush C.1 C.2.1 hd rfl (by rw [vm_cv_i] at k; exact k)) kk
  case lconst n =>
    have hl : 1 = len := hl
    subst hl
    exact vm_s_push h rel (vm_ok_l _) (fun k => lv_lconst C.1 C.2.1 hd rfl (by rw [vm_cv_l] at k; exact k)) kk
  case ldc idx =>
    have hl : 2 = len := hl
    subst hl
    replace h : (match vm_cn.lookup (vm_own j, idx) with | some (0, v, _) => vm_nx (pc + 2) ls (vI (Int32.ofInt v).toInt :: st) (S, M) | _ => none) = some (.inr (.inr (pc', ls', st', (S1, M1)))) := h
    split at h
    · next v iw hlk =>
      have hp := List.all_eq_true.mp vm_cn_all _ (vm_lookup hlk)
      simp only [vm_cnP, if_true, decide_eq_true_eq] at hp
      exact vm_s_push h rel (vm_ok_i _) (fun k => lv_ldc C.1 C.2.1 C.2.2.2.1 (C.2.2.2.2.1 _ (vm_tb_of hp rfl)) hd (by rw [vm_cv_i] at k; exact k)) kk
    · cases h
  case ldc_w idx =>
    have hl : 3 = len := hl
    subst hl
    replace h : (match vm_cn.lookup (vm_own j, idx) with | some (0, v, _) => vm_nx (pc + 3) ls (vI (Int32.ofInt v).toInt :: st) (S, M) | _ => none) = some (.inr (.inr (pc', ls', st', (S1, M1)))) := h
    split at h
    · next v iw hlk =>
      have hp := List.all_eq_true.mp vm_cn_all _ (vm_lookup hlk)
      simp only [vm_cnP, if_true, decide_eq_true_eq] at hp
      exact vm_s_push h rel (vm_ok_i _) (fun k => lv_ldcw C.1 C.2.1 C.2.2.2.1 (C.2.2.2.2.1 _ (vm_tb_of hp rfl)) hd (by rw [vm_cv_i] at k; exact k)) kk
    · cases h
  case ldc2_w idx =>
    have hl : 3 = len := hl
    subst hl
    replace h : (match vm_cn.lookup (vm_own j, idx) with | some (1, v, _) => vm_nx (pc + 3) ls (vL (Int64.ofInt v).toInt :: st) (S, M) | _ => none) = some (.inr (.inr (pc', ls', st', (S1, M1)))) := h
    split at h
    · next v iw hlk =>
      have hp := List.all_eq_true.mp vm_cn_all _ (vm_lookup hlk)
      simp only [vm_cnP, show ((1 : Nat) = 0) = False by simp, if_false, Bool.and_eq_true, decide_eq_true_eq] at hp
      exact vm_s_push h rel (vm_ok_l _) (fun k => lv_ldc2 C.1 C.2.1 C.2.2.2.1 (C.2.2.2.2.1 _ (vm_tb_of hp.2 rfl)) hd (by rw [vm_cv_l] at k; exact k)) kk
    · cases h
  case iload k =>
    have hl : 2 = len := hl
    subst hl
    exact vm_s_load0 h rel (fun x hx k => lv_iload C.1 C.2.1 hd hx k) kk
  case iload_n k =>
    have hl : 1 = len := hl
    subst hl
    exact vm_s_load0 h rel (fun x hx k => lv_iload_n C.1 C.2.1 hd rfl hx k) kk
  case lload k =>
    have hl : 2 = len := hl
    subst hl
    exact vm_s_load1 h rel (fun x hx k => lv_lload C.1 C.2.1 hd hx k) kk
  case lload_n k =>
    have hl : 1 = len := hl
    subst hl
    exact vm_s_load1 h rel (fun x hx k => lv_lload_n C.1 C.2.1 hd rfl hx k) kk
  case aload k =>
    have hl : 2 = len := hl
    subst hl
    exact vm_s_load2 h rel (fun x hx k => lv_aload C.1 C.2.1 hd hx k) (fun hx k => lv_aloadN C.1 C.2.1 hd hx k) kk
  case aload_n k =>
    have hl : 1 = len := hl
    subst hl
    exact vm_s_load2 h rel (fun x hx k => lv_aload_n C.1 C.2.1 hd rfl hx k) (fun hx k => lv_aload_nN C.1 C.2.1 hd rfl hx k) kk
  case istore k =>
    have hl : 2 = len := hl
    subst hl
    exact vm_s_store0 h rel (fun x r hs hk k => lv_istore C.1 C.2.1 hd hs hk rfl k) kk
  case istore_n k =>
    have hl : 1 = len := hl
    subst hl
    exact vm_s_store0 h rel (fun x r hs hk k => lv_istore_n C.1 C.2.1 hd rfl hs hk rfl k) kk
  case lstore k =>
    have hl : 2 = len := hl
    subst hl
    exact vm_s_store1 h rel (fun x r hs hk k => lv_lstore C.1 C.2.1 hd hs hk rfl k) kk
  case lstore_n k =>
    have hl : 1 = len := hl
    subst hl
    exact vm_s_store1 h rel (fun x r hs hk k => lv_lstore_n C.1 C.2.1 hd rfl hs hk rfl k) kk
  case astore k =>
    have hl : 2 = len := hl
    subst hl
    exact vm_s_store2 h rel (fun x r hs hk k => lv_astore C.1 C.2.1 hd hs hk rfl k) (fun r hs hk k => lv_astoreN C.1 C.2.1 hd hs hk rfl k) kk
  case astore_n k =>
    have hl : 1 = len := hl
    subst hl
    exact vm_s_store2 h rel (fun x r hs hk k => lv_astore_n C.1 C.2.1 hd rfl hs hk rfl k) (fun r hs hk k => lv_astore_nN C.1 C.2.1 hd rfl hs hk rfl k) kk
  case iinc k n =>
    have hl : 3 = len := hl
    subst hl
    exact vm_s_iinc C hd h rel kk
  case iadd =>
    have hl : 1 = len := hl
    subst hl
    replace h : vm_bi (fun x y => x + y) pc ls st (S, M) = some (.inr (.inr (pc', ls', st', (S1, M1)))) := h
    exact vm_s_bi h rel (fun x y r k => lv_iadd C.1 C.2.1 hd k) kk
  case isub =>
    have hl : 1 = len := hl
    subst hl
    replace h : vm_bi (fun x y => x - y) pc ls st (S, M) = some (.inr (.inr (pc', ls', st', (S1, M1)))) := h
    exact vm_s_bi h rel (fun x y r k => lv_isub C.1 C.2.1 hd k) kk
  case imul =>
    have hl : 1 = len := hl
    subst hl
    replace h : vm_bi (fun x y => x * y) pc ls st (S, M) = some (.inr (.inr (pc', ls', st', (S1, M1)))) := h
    exact vm_s_bi h rel (fun x y r k => lv_imul C.1 C.2.1 hd k) kk
  case iand =>
    have hl : 1 = len := hl
    subst hl
    replace h : vm_bi (fun x y => x &&& y) pc ls st (S, M) = some (.inr (.inr (pc', ls', st', (S1, M1)))) := h
    exact vm_s_bi h rel (fun x y r k => lv_iand C.1 C.2.1 hd k) kk
  case ixor =>
    have hl : 1 = len := hl
    subst hl
    replace h : vm_bi (fun x y => x ^^^ y) pc ls st (S, M) = some (.inr (.inr (pc', ls', st', (S1, M1)))) := h
    exact vm_s_bi h rel (fun x y r k => lv_ixor C.1 C.2.1 hd k) kk
  case ishl =>
    have hl : 1 = len := hl
    subst hl
    replace h : vm_bi (fun x y => x <<< (y &&& 31)) pc ls st (S, M) = some (.inr (.inr (pc', ls', st', (S1, M1)))) := h
    exact vm_s_bi h rel (fun x y r k => lv_ishl C.1 C.2.1 hd k) kk
  case ishr =>
    have hl : 1 = len := hl
    subst hl
    replace h : vm_bi (fun x y => x >>> (y &&& 31)) pc ls st (S, M) = some (.inr (.inr (pc', ls', st', (S1, M1)))) := h
    exact vm_s_bi h rel (fun x y r k => lv_ishr C.1 C.2.1 hd k) kk
  case iushr =>
    have hl : 1 = len := hl
    subst hl
    replace h : vm_bi (fun x y => (x.toUInt32 >>> (y.toUInt32 &&& Int32.toUInt32 31)).toInt32) pc ls st (S, M) = some (.inr (.inr (pc', ls', st', (S1, M1)))) := h
    exact vm_s_bi h rel (fun x y r k => lv_iushr C.1 C.2.1 hd rfl k) kk
  case ladd =>
    have hl : 1 = len := hl
    subst hl
    replace h : vm_bl (fun x y => x + y) pc ls st (S, M) = some (.inr (.inr (pc', ls', st', (S1, M1)))) := h
    exact vm_s_bl h rel (fun x y r k => lv_ladd C.1 C.2.1 hd k) kk
  case lsub =>
    have hl : 1 = len := hl
    subst hl
    replace h : vm_bl (fun x y => x - y) pc ls st (S, M) = some (.inr (.inr (pc', ls', st', (S1, M1)))) := h
    exact vm_s_bl h rel (fun x y r k => lv_lsub C.1 C.2.1 hd k) kk
  case lmul =>
    have hl : 1 = len := hl
    subst hl
    replace h : vm_bl (fun x y => x * y) pc ls st (S, M) = some (.inr (.inr (pc', ls', st', (S1, M1)))) := h
    exact vm_s_bl h rel (fun x y r k => lv_lmul C.1 C.2.1 hd k) kk
  case land =>
    have hl : 1 = len := hl
    subst hl
    replace h : vm_bl (fun x y => x &&& y) pc ls st (S, M) = some (.inr (.inr (pc', ls', st', (S1, M1)))) := h
    exact vm_s_bl h rel (fun x y r k => lv_land C.1 C.2.1 hd k) kk
  case lor =>
    have hl : 1 = len := hl
    subst hl
    replace h : vm_bl (fun x y => x ||| y) pc ls st (S, M) = some (.inr (.inr (pc', ls', st', (S1, M1)))) := h
    exact vm_s_bl h rel (fun x y r k => lv_lor C.1 C.2.1 hd k) kk
  case lshl =>
    have hl : 1 = len := hl
    subst hl
    replace h : vm_bs (fun x y => x <<< (y.toInt64 &&& 63)) pc ls st (S, M) = some (.inr (.inr (pc', ls', st', (S1, M1)))) := h
    exact vm_s_bs h rel (fun x y r k => lv_lshl C.1 C.2.1 hd rfl k) kk
  case lshr =>
    have hl : 1 = len := hl
    subst hl
    replace h : vm_bs (fun x y => x >>> (y.toInt64 &&& 63)) pc ls st (S, M) = some (.inr (.inr (pc', ls', st', (S1, M1)))) := h
    exact vm_s_bs h rel (fun x y r k => lv_lshr C.1 C.2.1 hd rfl k) kk
  case lushr =>
    have hl : 1 = len := hl
    subst hl
    replace h : vm_bs (fun x y => (x.toUInt64 >>> (y.toInt64.toUInt64 &&& Int64.toUInt64 63)).toInt64) pc ls st (S, M) = some (.inr (.inr (pc', ls', st', (S1, M1)))) := h
    exact vm_s_bs h rel (fun x y r k => lv_lushr C.1 C.2.1 hd rfl k) kk
  case idiv =>
    have hl : 1 = len := hl
    subst hl
    exact vm_s_bid h rel (fun x y r hy k => lv_idiv C.1 C.2.1 hd hy k) kk
  case irem =>
    have hl : 1 = len := hl
    subst hl
    exact vm_s_bid h rel (fun x y r hy k => lv_irem C.1 C.2.1 hd hy k) kk
  case ldiv =>
    have hl : 1 = len := hl
    subst hl
    exact vm_s_bld h rel (fun x y r hy k => lv_ldiv C.1 C.2.1 hd hy k) kk
  case lrem =>
    have hl : 1 = len := hl
    subst hl
    exact vm_s_bld h rel (fun x y r hy k => lv_lrem C.1 C.2.1 hd hy k) kk
  case ineg =>
    have hl : 1 = len := hl
    subst hl
    replace h : (match st with | .inl x :: r => vm_nx (pc + 1) ls (vI (-Int32.ofInt x).toInt :: r) (S, M) | _ => none) = some (.inr (.inr (pc', ls', st', (S1, M1)))) := h
    split at h
    · exact vm_s_top h rel (vm_ok_i _) (fun w hw => List.mem_cons_of_mem _ hw) (fun k => lv_ineg C.1 C.2.1 hd (by rw [vm_cv_i] at k; exact k)) kk
    · cases h
  case lneg =>
    have hl : 1 = len := hl
    subst hl
    replace h : (match st with | .inr (.inl x) :: r => vm_nx (pc + 1) ls (vL (-Int64.ofInt x).toInt :: r) (S, M) | _ => none) = some (.inr (.inr (pc', ls', st', (S1, M1)))) := h
    split at h
    · exact vm_s_top h rel (vm_ok_l _) (fun w hw => List.mem_cons_of_mem _ hw) (fun k => lv_lneg C.1 C.2.1 hd (by rw [vm_cv_l] at k; exact k)) kk
    · cases h
  case lcmp =>
    have hl : 1 = len := hl
    subst hl
    replace h : (match st with | .inr (.inl y) :: .inr (.inl x) :: r => vm_nx (pc + 1) ls (vI (if y < x then 1 else if x = y then 0 else -1) :: r) (S, M) | _ => none) = some (.inr (.inr (pc', ls', st', (S1, M1)))) := h
    split at h
    · next y x r =>
      have hy : (Int64.ofInt y).toInt = y := rel.2.2.2.2.1 _ List.mem_cons_self
      have hx : (Int64.ofInt x).toInt = x := rel.2.2.2.2.1 _ (List.mem_cons_of_mem _ List.mem_cons_self)
      refine vm_s_top h rel ?_ (fun w hw => List.mem_cons_of_mem _ (List.mem_cons_of_mem _ hw)) (fun k => W.lcmp C.1 C.2.1 hd ?_) kk
      · show (Int32.ofInt _).toInt = _
        split
        · rfl
        · split <;> rfl
      · have e : Value.int (lg_cmp (Int64.ofInt x) (Int64.ofInt y)) = vm_cv b ad (vI (if y < x then 1 else if x = y then 0 else -1)) := by
          show Value.int (if Int64.ofInt y < Int64.ofInt x then 1 else if Int64.ofInt x = Int64.ofInt y then 0 else -1) = Value.int (Int32.ofInt _)
          by_cases c1 : y < x
          · rw [if_pos c1, if_pos ((vm_ofL_lt hy hx).mpr c1)]; rfl
          · rw [if_neg c1, if_neg (fun q => c1 ((vm_ofL_lt hy hx).mp q))]
            by_cases c2 : x = y
            · rw [if_pos c2, if_pos ((vm_ofL_eq hx hy).mpr c2)]; rfl
            · rw [if_neg c2, if_neg (fun q => c2 ((vm_ofL_eq hx hy).mp q))]; rfl
        rw [← e] at k
        exact k
    · cases h
  case i2l =>
    have hl : 1 = len := hl
    subst hl
    replace h : (match st with | .inl x :: r => vm_nx (pc + 1) ls (vL x :: r) (S, M) | _ => none) = some (.inr (.inr (pc', ls', st', (S1, M1)))) := h
    split at h
    · next x r =>
      have hx : (Int32.ofInt x).toInt = x := rel.2.2.2.2.1 _ List.mem_cons_self
      have e : (Int32.ofInt x).toInt64 = Int64.ofInt x := by
        rw [← Int64.ofInt_toInt (Int32.ofInt x).toInt64, Int32.toInt_toInt64, hx]
      refine vm_s_top h rel ?_ (fun w hw => List.mem_cons_of_mem _ hw) (fun k => lv_i2l C.1 C.2.1 hd e k) kk
      show (Int64.ofInt x).toInt = x
      rw [← e, Int32.toInt_toInt64, hx]
    · cases h
  case l2i =>
    have hl : 1 = len := hl
    subst hl
    replace h : (match st with | .inr (.inl x) :: r => vm_nx (pc + 1) ls (vI (Int64.ofInt x).toInt32.toInt :: r) (S, M) | _ => none) = some (.inr (.inr (pc', ls', st', (S1, M1)))) := h
    split at h
    · exact vm_s_top h rel (vm_ok_i _) (fun w hw => List.mem_cons_of_mem _ hw) (fun k => lv_l2i C.1 C.2.1 hd rfl (by rw [vm_cv_i] at k; exact k)) kk
    · cases h
  case i2b =>
    have hl : 1 = len := hl
    subst hl
    replace h : (match st with | .inl x :: r => vm_nx (pc + 1) ls (vI (Int32.ofInt x).toInt8.toInt32.toInt :: r) (S, M) | _ => none) = some (.inr (.inr (pc', ls', st', (S1, M1)))) := h
    split at h
    · exact vm_s_top h rel (vm_ok_i _) (fun w hw => List.mem_cons_of_mem _ hw) (fun k => lv_i2b C.1 C.2.1 hd rfl (by rw [vm_cv_i] at k; exact k)) kk
    · cases h
  case dup =>
    have hl : 1 = len := hl
    subst hl
    replace h : (match st with | v :: r => if vm_cat v = 1 then vm_nx (pc + 1) ls (v :: v :: r) (S, M) else none | _ => none) = some (.inr (.inr (pc', ls', st', (S1, M1)))) := h
    split at h
    · split at h
      · next hc => exact vm_s_stk h rel (fun w hw => by simpa using hw) (fun k => lv_dup C.1 C.2.1 hd (by rw [vm_cv_catE]; exact hc) k) kk
      · cases h
    · cases h
  case dup2 =>
    have hl : 1 = len := hl
    subst hl
    replace h : (match st with | v :: w :: r => if vm_cat v = 1 ∧ vm_cat w = 1 then vm_nx (pc + 1) ls (v :: w :: v :: w :: r) (S, M) else none | _ => none) = some (.inr (.inr (pc', ls', st', (S1, M1)))) := h
    split at h
    · split at h
      · next hc => exact vm_s_stk h rel (fun w hw => by simp only [List.mem_cons] at hw ⊢; rcases hw with q | q | q | q | q <;> simp [q]) (fun k => lv_dup2_11 C.1 C.2.1 hd (by rw [vm_cv_catE]; exact hc.1) (by rw [vm_cv_catE]; exact hc.2) k) kk
      · cases h
    · cases h
  case pop2 =>
    have hl : 1 = len := hl
    subst hl
    replace h : (match st with | v :: r => if vm_cat v = 2 then vm_nx (pc + 1) ls r (S, M) else none | _ => none) = some (.inr (.inr (pc', ls', st', (S1, M1)))) := h
    split at h
    · split at h
      · next hc => exact vm_s_stk h rel (fun w hw => List.mem_cons_of_mem _ hw) (fun k => lv_pop2_2 C.1 C.2.1 hd (by rw [vm_cv_catE]; exact hc) k) kk
      · cases h
    · cases h
  case ifCond cnd off =>
    have hl : 3 = len := hl
    subst hl
    exact vm_s_if C hd h rel kk
  case if_icmp cnd off =>
    have hl : 3 = len := hl
    subst hl
    exact vm_s_icmp C hd h rel kk
  case goto off =>
    have hl : 3 = len := hl
    subst hl
    exact vm_s_br h rel (fun w hw => hw) (fun tgt ht kt kf => lv_goto C.1 C.2.1 hd ht (kt rfl)) kk
  case tableswitch dflt lo hi offs =>
    replace h : (match st with | .inl x :: r => if x < lo ∨ hi < x then vm_br true pc dflt ls r (S, M) else (match offs[(x - lo).toNat]? with | some off => vm_br true pc off ls r (S, M) | none => none) | _ => none) = some (.inr (.inr (pc', ls', st', (S1, M1)))) := h
    split at h
    · next x r =>
      have hx : (Int32.ofInt x).toInt = x := rel.2.2.2.2.1 _ List.mem_cons_self
      split at h
      · next hc => exact vm_s_br h rel (fun w hw => List.mem_cons_of_mem _ hw) (fun tgt ht kt kf => lv_tableOut C.1 C.2.1 hd (by rw [hx]; exact hc) ht (kt rfl)) kk
      · next hc =>
        split at h
        · next off ho => exact vm_s_br h rel (fun w hw => List.mem_cons_of_mem _ hw) (fun tgt ht kt kf => lv_tableIn C.1 C.2.1 hd (by rw [hx]; omega) (by rw [hx]; omega) (by rw [hx]; exact ho) ht (kt rfl)) kk
        · cases h
    · cases h
  case getfield idx =>
    have hl : 3 = len := hl
    subst hl
    exact vm_s_getf C hd h rel kk
  case putfield idx =>
    have hl : 3 = len := hl
    subst hl
    exact vm_s_putf C hd h rel kk
  case iaload =>
    have hl : 1 = len := hl
    subst hl
    exact vm_s_ald (t := 0) (by omega) rfl rfl C hd h rel kk
  case laload =>
    have hl : 1 = len := hl
    subst hl
    exact vm_s_ald (t := 1) (by omega) rfl rfl C hd h rel kk
  case baload =>
    have hl : 1 = len := hl
    subst hl
    exact vm_s_ald (t := 2) (by omega) rfl rfl C hd h rel kk
  case aaload =>
    have hl : 1 = len := hl
    subst hl
    exact vm_s_aald C hd h rel kk
  case arraylength =>
    have hl : 1 = len := hl
    subst hl
    exact vm_s_len C hd h rel kk
  case iastore =>
    have hl : 1 = len := hl
    subst hl
    exact vm_s_asti (t := 0) (Or.inl rfl) rfl C hd h rel kk
  case bastore =>
    have hl : 1 = len := hl
    subst hl
    exact vm_s_asti (t := 2) (Or.inr rfl) rfl C hd h rel kk
  case lastore =>
    have hl : 1 = len := hl
    subst hl
    exact vm_s_astl C hd h rel kk
  case new idx =>
    have hl : 3 = len := hl
    subst hl
    exact vm_s_new C hd h rel hroom kk
  case newarray at0 =>
    have hl : 2 = len := hl
    subst hl
    exact vm_s_newa C hd h rel hroom kk
  case multianewarray idx d =>
    have hl : 4 = len := hl
    subst hl
    exact vm_s_newn C hd h rel hroom kk
  case invokevirtual idx =>
    have hl : 3 = len := hl
    subst hl
    exact vm_s_inv (op := 0) (idx := idx) rfl C hnl hR hd h rel kk
  case invokestatic idx =>
    have hl : 3 = len := hl
    subst hl
    exact vm_s_inv (op := 1) (idx := idx) rfl C hnl hR hd h rel kk
  case invokespecial idx =>
    have hl : 3 = len := hl
    subst hl
    exact vm_s_inv (op := 2) (idx := idx) rfl C hnl hR hd h rel kk
  case ireturn =>
    exact absurd h (vm_ret_nx j st (S, M) 0)
  case lreturn =>
    exact absurd h (vm_ret_nx j st (S, M) 1)
  case return_ =>
    exact absurd h (vm_ret_nx j st (S, M) 2)
  all_goals cases h
end SIMF
